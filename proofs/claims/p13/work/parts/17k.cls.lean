theorem k_8_207 : (Jvm.Cond.methodLink "StaveHouse$Scribe" (196 : Nat) ({ cls := "StaveHouse$Event", name := "isRest", desc := "()Z" } : Jvm.MethodName)) ∈ wAll := wA_8 (j := 207) rfl rfl
theorem k_3_38 : (Jvm.Cond.methodLink "StaveHouse$Tokens" (32 : Nat) ({ cls := "StaveHouse$Tokens", name := "isBlank", desc := "(I)Z" } : Jvm.MethodName)) ∈ wAll := wA_3 (j := 38) rfl rfl
theorem k_3_39 : (Jvm.Cond.static ({ cls := "StaveHouse$Tokens", name := "isBlank", desc := "(I)Z" } : Jvm.MethodName)) ∈ wAll := wA_3 (j := 39) rfl rfl
theorem k_3_40 : (Jvm.Cond.code ({ cls := "StaveHouse$Tokens", name := "isBlank", desc := "(I)Z" } : Jvm.MethodName) prog_12_method_11_code (1 : Nat) (Option.some Jvm.ClassFile.FieldType.boolean)) ∈ wAll := wA_3 (j := 40) rfl rfl
theorem k_9_43 : (Jvm.Cond.methodLink "StaveHouse$Study" (139 : Nat) ({ cls := "StaveHouse$Study", name := "takeClasses", desc := "(LStaveHouse$Piece;I)V" } : Jvm.MethodName)) ∈ wAll := wA_9 (j := 43) rfl rfl
theorem k_9_45 : (Jvm.Cond.instanceMethod ({ cls := "StaveHouse$Study", name := "takeClasses", desc := "(LStaveHouse$Piece;I)V" } : Jvm.MethodName)) ∈ wAll := wA_9 (j := 45) rfl rfl
theorem ks_125 : (Jvm.Cond.selects "StaveHouse$Study" ({ cls := "StaveHouse$Study", name := "takeClasses", desc := "(LStaveHouse$Piece;I)V" } : Jvm.MethodName) ({ cls := "StaveHouse$Study", name := "takeClasses", desc := "(LStaveHouse$Piece;I)V" } : Jvm.MethodName)) ∈ wAll := wA_s (j := 125) rfl rfl
theorem k_9_46 : (Jvm.Cond.code ({ cls := "StaveHouse$Study", name := "takeClasses", desc := "(LStaveHouse$Piece;I)V" } : Jvm.MethodName) prog_11_method_13_code (6 : Nat) (Option.none : Option Jvm.ClassFile.FieldType)) ∈ wAll := wA_9 (j := 46) rfl rfl
theorem k_3_50 : (Jvm.Cond.methodLink "StaveHouse$Tokens" (39 : Nat) ({ cls := "StaveHouse$Tokens", name := "runEnd", desc := "(LStaveHouse$ByteRow;I)I" } : Jvm.MethodName)) ∈ wAll := wA_3 (j := 50) rfl rfl
theorem k_3_51 : (Jvm.Cond.static ({ cls := "StaveHouse$Tokens", name := "runEnd", desc := "(LStaveHouse$ByteRow;I)I" } : Jvm.MethodName)) ∈ wAll := wA_3 (j := 51) rfl rfl
theorem k_3_52 : (Jvm.Cond.code ({ cls := "StaveHouse$Tokens", name := "runEnd", desc := "(LStaveHouse$ByteRow;I)I" } : Jvm.MethodName) prog_12_method_6_code (3 : Nat) (Option.some Jvm.ClassFile.FieldType.int)) ∈ wAll := wA_3 (j := 52) rfl rfl
theorem k_4_1 : (Jvm.Cond.methodLink "StaveHouse$Parser" (281 : Nat) ({ cls := "StaveHouse$Parser", name := "takeChord", desc := "(I)Z" } : Jvm.MethodName)) ∈ wAll := wA_4 (j := 1) rfl rfl
theorem k_4_3 : (Jvm.Cond.instanceMethod ({ cls := "StaveHouse$Parser", name := "takeChord", desc := "(I)Z" } : Jvm.MethodName)) ∈ wAll := wA_4 (j := 3) rfl rfl
theorem ks_17 : (Jvm.Cond.selects "StaveHouse$Parser" ({ cls := "StaveHouse$Parser", name := "takeChord", desc := "(I)Z" } : Jvm.MethodName) ({ cls := "StaveHouse$Parser", name := "takeChord", desc := "(I)Z" } : Jvm.MethodName)) ∈ wAll := wA_s (j := 17) rfl rfl
theorem k_4_4 : (Jvm.Cond.code ({ cls := "StaveHouse$Parser", name := "takeChord", desc := "(I)Z" } : Jvm.MethodName) prog_5_method_25_code (3 : Nat) (Option.some Jvm.ClassFile.FieldType.boolean)) ∈ wAll := wA_4 (j := 4) rfl rfl
theorem k_4_5 : (Jvm.Cond.methodLink "StaveHouse$Parser" (284 : Nat) ({ cls := "StaveHouse$Parser", name := "takeLength", desc := "()Z" } : Jvm.MethodName)) ∈ wAll := wA_4 (j := 5) rfl rfl
theorem k_4_7 : (Jvm.Cond.instanceMethod ({ cls := "StaveHouse$Parser", name := "takeLength", desc := "()Z" } : Jvm.MethodName)) ∈ wAll := wA_4 (j := 7) rfl rfl
theorem ks_18 : (Jvm.Cond.selects "StaveHouse$Parser" ({ cls := "StaveHouse$Parser", name := "takeLength", desc := "()Z" } : Jvm.MethodName) ({ cls := "StaveHouse$Parser", name := "takeLength", desc := "()Z" } : Jvm.MethodName)) ∈ wAll := wA_s (j := 18) rfl rfl
theorem k_4_8 : (Jvm.Cond.code ({ cls := "StaveHouse$Parser", name := "takeLength", desc := "()Z" } : Jvm.MethodName) prog_5_method_26_code (4 : Nat) (Option.some Jvm.ClassFile.FieldType.boolean)) ∈ wAll := wA_4 (j := 8) rfl rfl
theorem k_8_88 : (Jvm.Cond.methodLink "StaveHouse$SoundFile" (139 : Nat) ({ cls := "StaveHouse$SoundFile", name := "loadMeta", desc := "()V" } : Jvm.MethodName)) ∈ wAll := wA_8 (j := 88) rfl rfl
theorem k_8_90 : (Jvm.Cond.instanceMethod ({ cls := "StaveHouse$SoundFile", name := "loadMeta", desc := "()V" } : Jvm.MethodName)) ∈ wAll := wA_8 (j := 90) rfl rfl
theorem ks_103 : (Jvm.Cond.selects "StaveHouse$SoundFile" ({ cls := "StaveHouse$SoundFile", name := "loadMeta", desc := "()V" } : Jvm.MethodName) ({ cls := "StaveHouse$SoundFile", name := "loadMeta", desc := "()V" } : Jvm.MethodName)) ∈ wAll := wA_s (j := 103) rfl rfl
theorem k_8_91 : (Jvm.Cond.code ({ cls := "StaveHouse$SoundFile", name := "loadMeta", desc := "()V" } : Jvm.MethodName) prog_10_method_18_code (6 : Nat) (Option.none : Option Jvm.ClassFile.FieldType)) ∈ wAll := wA_8 (j := 91) rfl rfl
theorem k_8_113 : (Jvm.Cond.methodLink "StaveHouse$SoundFile" (145 : Nat) ({ cls := "StaveHouse$SoundFile", name := "loadMessage", desc := "(III)V" } : Jvm.MethodName)) ∈ wAll := wA_8 (j := 113) rfl rfl
theorem k_8_115 : (Jvm.Cond.instanceMethod ({ cls := "StaveHouse$SoundFile", name := "loadMessage", desc := "(III)V" } : Jvm.MethodName)) ∈ wAll := wA_8 (j := 115) rfl rfl
theorem ks_108 : (Jvm.Cond.selects "StaveHouse$SoundFile" ({ cls := "StaveHouse$SoundFile", name := "loadMessage", desc := "(III)V" } : Jvm.MethodName) ({ cls := "StaveHouse$SoundFile", name := "loadMessage", desc := "(III)V" } : Jvm.MethodName)) ∈ wAll := wA_s (j := 108) rfl rfl
theorem k_8_116 : (Jvm.Cond.code ({ cls := "StaveHouse$SoundFile", name := "loadMessage", desc := "(III)V" } : Jvm.MethodName) prog_10_method_15_code (6 : Nat) (Option.none : Option Jvm.ClassFile.FieldType)) ∈ wAll := wA_8 (j := 116) rfl rfl
theorem k_8_172 : (Jvm.Cond.methodLink "StaveHouse$Scribe" (137 : Nat) ({ cls := "StaveHouse$ByteRow", name := "putText", desc := "(Ljava/lang/String;)V" } : Jvm.MethodName)) ∈ wAll := wA_8 (j := 172) rfl rfl
theorem k_8_174 : (Jvm.Cond.methodLink "StaveHouse$Scribe" (144 : Nat) ({ cls := "StaveHouse$ByteRow", name := "putDecimal", desc := "(I)V" } : Jvm.MethodName)) ∈ wAll := wA_8 (j := 174) rfl rfl
theorem k_8_175 : (Jvm.Cond.instanceMethod ({ cls := "StaveHouse$ByteRow", name := "putDecimal", desc := "(I)V" } : Jvm.MethodName)) ∈ wAll := wA_8 (j := 175) rfl rfl
theorem k_8_176 : (Jvm.Cond.selects "StaveHouse$ByteRow" ({ cls := "StaveHouse$ByteRow", name := "putDecimal", desc := "(I)V" } : Jvm.MethodName) ({ cls := "StaveHouse$ByteRow", name := "putDecimal", desc := "(I)V" } : Jvm.MethodName)) ∈ wAll := wA_8 (j := 176) rfl rfl
theorem k_8_177 : (Jvm.Cond.code ({ cls := "StaveHouse$ByteRow", name := "putDecimal", desc := "(I)V" } : Jvm.MethodName) prog_2_method_6_code (4 : Nat) (Option.none : Option Jvm.ClassFile.FieldType)) ∈ wAll := wA_8 (j := 177) rfl rfl
theorem k_2_61 : (Jvm.Cond.fieldLink "StaveHouse$Scribe" (206 : Nat) "StaveHouse$Event" "steps" "[I") ∈ wAll := wA_2 (j := 61) rfl rfl
theorem k_2_67 : (Jvm.Cond.fieldLink "StaveHouse$Scribe" (209 : Nat) "StaveHouse$Event" "alterations" "[I") ∈ wAll := wA_2 (j := 67) rfl rfl
theorem k_8_211 : (Jvm.Cond.methodLink "StaveHouse$Scribe" (212 : Nat) ({ cls := "StaveHouse$Scribe", name := "writePitch", desc := "(II)V" } : Jvm.MethodName)) ∈ wAll := wA_8 (j := 211) rfl rfl
theorem k_8_213 : (Jvm.Cond.instanceMethod ({ cls := "StaveHouse$Scribe", name := "writePitch", desc := "(II)V" } : Jvm.MethodName)) ∈ wAll := wA_8 (j := 213) rfl rfl
theorem ks_120 : (Jvm.Cond.selects "StaveHouse$Scribe" ({ cls := "StaveHouse$Scribe", name := "writePitch", desc := "(II)V" } : Jvm.MethodName) ({ cls := "StaveHouse$Scribe", name := "writePitch", desc := "(II)V" } : Jvm.MethodName)) ∈ wAll := wA_s (j := 120) rfl rfl
theorem k_8_214 : (Jvm.Cond.code ({ cls := "StaveHouse$Scribe", name := "writePitch", desc := "(II)V" } : Jvm.MethodName) prog_9_method_14_code (4 : Nat) (Option.none : Option Jvm.ClassFile.FieldType)) ∈ wAll := wA_8 (j := 214) rfl rfl
theorem k_9_2 : (Jvm.Cond.methodLink "StaveHouse$Performance" (279 : Nat) ({ cls := "StaveHouse$Performance", name := "mixSound", desc := "(LStaveHouse$Piece;II)V" } : Jvm.MethodName)) ∈ wAll := wA_9 (j := 2) rfl rfl
theorem k_9_4 : (Jvm.Cond.instanceMethod ({ cls := "StaveHouse$Performance", name := "mixSound", desc := "(LStaveHouse$Piece;II)V" } : Jvm.MethodName)) ∈ wAll := wA_9 (j := 4) rfl rfl
theorem ks_123 : (Jvm.Cond.selects "StaveHouse$Performance" ({ cls := "StaveHouse$Performance", name := "mixSound", desc := "(LStaveHouse$Piece;II)V" } : Jvm.MethodName) ({ cls := "StaveHouse$Performance", name := "mixSound", desc := "(LStaveHouse$Piece;II)V" } : Jvm.MethodName)) ∈ wAll := wA_s (j := 123) rfl rfl
theorem k_9_5 : (Jvm.Cond.code ({ cls := "StaveHouse$Performance", name := "mixSound", desc := "(LStaveHouse$Piece;II)V" } : Jvm.MethodName) prog_7_method_25_code (15 : Nat) (Option.none : Option Jvm.ClassFile.FieldType)) ∈ wAll := wA_9 (j := 5) rfl rfl
theorem k_6_71 : (Jvm.Cond.fieldLink "StaveHouse$Performance" (11 : Nat) "StaveHouse$Performance" "heardRow" "[I") ∈ wAll := wA_6 (j := 71) rfl rfl
theorem k_6_73 : (Jvm.Cond.fieldLink "StaveHouse$Performance" (15 : Nat) "StaveHouse$Performance" "codeRow" "[I") ∈ wAll := wA_6 (j := 73) rfl rfl
theorem k_9_22 : (Jvm.Cond.methodLink "StaveHouse$Performance" (282 : Nat) ({ cls := "StaveHouse$Performance", name := "nextCode", desc := "()I" } : Jvm.MethodName)) ∈ wAll := wA_9 (j := 22) rfl rfl
theorem k_9_24 : (Jvm.Cond.instanceMethod ({ cls := "StaveHouse$Performance", name := "nextCode", desc := "()I" } : Jvm.MethodName)) ∈ wAll := wA_9 (j := 24) rfl rfl
theorem ks_124 : (Jvm.Cond.selects "StaveHouse$Performance" ({ cls := "StaveHouse$Performance", name := "nextCode", desc := "()I" } : Jvm.MethodName) ({ cls := "StaveHouse$Performance", name := "nextCode", desc := "()I" } : Jvm.MethodName)) ∈ wAll := wA_s (j := 124) rfl rfl
theorem k_9_25 : (Jvm.Cond.code ({ cls := "StaveHouse$Performance", name := "nextCode", desc := "()I" } : Jvm.MethodName) prog_7_method_30_code (7 : Nat) (Option.some Jvm.ClassFile.FieldType.int)) ∈ wAll := wA_9 (j := 25) rfl rfl
theorem k_9_48 : (Jvm.Cond.methodLink "StaveHouse$Study" (147 : Nat) ({ cls := "StaveHouse$Study", name := "chordKind", desc := "(I)I" } : Jvm.MethodName)) ∈ wAll := wA_9 (j := 48) rfl rfl
theorem k_9_50 : (Jvm.Cond.instanceMethod ({ cls := "StaveHouse$Study", name := "chordKind", desc := "(I)I" } : Jvm.MethodName)) ∈ wAll := wA_9 (j := 50) rfl rfl
theorem ks_126 : (Jvm.Cond.selects "StaveHouse$Study" ({ cls := "StaveHouse$Study", name := "chordKind", desc := "(I)I" } : Jvm.MethodName) ({ cls := "StaveHouse$Study", name := "chordKind", desc := "(I)I" } : Jvm.MethodName)) ∈ wAll := wA_s (j := 126) rfl rfl
theorem k_9_51 : (Jvm.Cond.code ({ cls := "StaveHouse$Study", name := "chordKind", desc := "(I)I" } : Jvm.MethodName) prog_11_method_15_code (4 : Nat) (Option.some Jvm.ClassFile.FieldType.int)) ∈ wAll := wA_9 (j := 51) rfl rfl
theorem k_9_65 : (Jvm.Cond.methodLink "StaveHouse$Study" (153 : Nat) ({ cls := "StaveHouse$Study", name := "bassLetter", desc := "(LStaveHouse$Piece;I)I" } : Jvm.MethodName)) ∈ wAll := wA_9 (j := 65) rfl rfl
theorem k_9_67 : (Jvm.Cond.instanceMethod ({ cls := "StaveHouse$Study", name := "bassLetter", desc := "(LStaveHouse$Piece;I)I" } : Jvm.MethodName)) ∈ wAll := wA_9 (j := 67) rfl rfl
theorem ks_129 : (Jvm.Cond.selects "StaveHouse$Study" ({ cls := "StaveHouse$Study", name := "bassLetter", desc := "(LStaveHouse$Piece;I)I" } : Jvm.MethodName) ({ cls := "StaveHouse$Study", name := "bassLetter", desc := "(LStaveHouse$Piece;I)I" } : Jvm.MethodName)) ∈ wAll := wA_s (j := 129) rfl rfl
theorem k_9_68 : (Jvm.Cond.code ({ cls := "StaveHouse$Study", name := "bassLetter", desc := "(LStaveHouse$Piece;I)I" } : Jvm.MethodName) prog_11_method_17_code (9 : Nat) (Option.some Jvm.ClassFile.FieldType.int)) ∈ wAll := wA_9 (j := 68) rfl rfl
theorem k_9_69 : (Jvm.Cond.methodLink "StaveHouse$Study" (157 : Nat) ({ cls := "StaveHouse$Study", name := "tonic", desc := "(LStaveHouse$Piece;)I" } : Jvm.MethodName)) ∈ wAll := wA_9 (j := 69) rfl rfl
theorem k_9_70 : (Jvm.Cond.static ({ cls := "StaveHouse$Study", name := "tonic", desc := "(LStaveHouse$Piece;)I" } : Jvm.MethodName)) ∈ wAll := wA_9 (j := 70) rfl rfl
theorem k_9_71 : (Jvm.Cond.code ({ cls := "StaveHouse$Study", name := "tonic", desc := "(LStaveHouse$Piece;)I" } : Jvm.MethodName) prog_11_method_18_code (1 : Nat) (Option.some Jvm.ClassFile.FieldType.int)) ∈ wAll := wA_9 (j := 71) rfl rfl
theorem k_9_72 : (Jvm.Cond.methodLink "StaveHouse$Study" (161 : Nat) ({ cls := "StaveHouse$Study", name := "isForeign", desc := "(LStaveHouse$Piece;)Z" } : Jvm.MethodName)) ∈ wAll := wA_9 (j := 72) rfl rfl
theorem k_9_74 : (Jvm.Cond.instanceMethod ({ cls := "StaveHouse$Study", name := "isForeign", desc := "(LStaveHouse$Piece;)Z" } : Jvm.MethodName)) ∈ wAll := wA_9 (j := 74) rfl rfl
theorem ks_130 : (Jvm.Cond.selects "StaveHouse$Study" ({ cls := "StaveHouse$Study", name := "isForeign", desc := "(LStaveHouse$Piece;)Z" } : Jvm.MethodName) ({ cls := "StaveHouse$Study", name := "isForeign", desc := "(LStaveHouse$Piece;)Z" } : Jvm.MethodName)) ∈ wAll := wA_s (j := 130) rfl rfl
theorem k_9_75 : (Jvm.Cond.code ({ cls := "StaveHouse$Study", name := "isForeign", desc := "(LStaveHouse$Piece;)Z" } : Jvm.MethodName) prog_11_method_19_code (4 : Nat) (Option.some Jvm.ClassFile.FieldType.boolean)) ∈ wAll := wA_9 (j := 75) rfl rfl
theorem k_9_103 : (Jvm.Cond.methodLink "StaveHouse" (331 : Nat) ({ cls := "StaveHouse$Part", name := "hasShape", desc := "(ILStaveHouse$Part;III)Z" } : Jvm.MethodName)) ∈ wAll := wA_9 (j := 103) rfl rfl
theorem k_9_104 : (Jvm.Cond.instanceMethod ({ cls := "StaveHouse$Part", name := "hasShape", desc := "(ILStaveHouse$Part;III)Z" } : Jvm.MethodName)) ∈ wAll := wA_9 (j := 104) rfl rfl
theorem k_9_105 : (Jvm.Cond.selects "StaveHouse$Part" ({ cls := "StaveHouse$Part", name := "hasShape", desc := "(ILStaveHouse$Part;III)Z" } : Jvm.MethodName) ({ cls := "StaveHouse$Part", name := "hasShape", desc := "(ILStaveHouse$Part;III)Z" } : Jvm.MethodName)) ∈ wAll := wA_9 (j := 105) rfl rfl
theorem k_9_106 : (Jvm.Cond.code ({ cls := "StaveHouse$Part", name := "hasShape", desc := "(ILStaveHouse$Part;III)Z" } : Jvm.MethodName) prog_6_method_28_code (18 : Nat) (Option.some Jvm.ClassFile.FieldType.boolean)) ∈ wAll := wA_9 (j := 106) rfl rfl
theorem k_3_67 : (Jvm.Cond.methodLink "StaveHouse$Tokens" (49 : Nat) ({ cls := "java/lang/String", name := "indexOf", desc := "(I)I" } : Jvm.MethodName)) ∈ wAll := wA_3 (j := 67) rfl rfl
theorem k_3_53 : (Jvm.Cond.methodLink "StaveHouse$Tokens" (43 : Nat) ({ cls := "StaveHouse$Tokens", name := "keepRun", desc := "(LStaveHouse$ByteRow;III)V" } : Jvm.MethodName)) ∈ wAll := wA_3 (j := 53) rfl rfl
theorem k_3_55 : (Jvm.Cond.instanceMethod ({ cls := "StaveHouse$Tokens", name := "keepRun", desc := "(LStaveHouse$ByteRow;III)V" } : Jvm.MethodName)) ∈ wAll := wA_3 (j := 55) rfl rfl
theorem ks_1 : (Jvm.Cond.selects "StaveHouse$Tokens" ({ cls := "StaveHouse$Tokens", name := "keepRun", desc := "(LStaveHouse$ByteRow;III)V" } : Jvm.MethodName) ({ cls := "StaveHouse$Tokens", name := "keepRun", desc := "(LStaveHouse$ByteRow;III)V" } : Jvm.MethodName)) ∈ wAll := wA_s (j := 1) rfl rfl
theorem k_3_56 : (Jvm.Cond.code ({ cls := "StaveHouse$Tokens", name := "keepRun", desc := "(LStaveHouse$ByteRow;III)V" } : Jvm.MethodName) prog_12_method_7_code (8 : Nat) (Option.none : Option Jvm.ClassFile.FieldType)) ∈ wAll := wA_3 (j := 56) rfl rfl
theorem k_3_151 : (Jvm.Cond.methodLink "StaveHouse$Tokens" (57 : Nat) ({ cls := "StaveHouse$Tokens", name := "advance", desc := "()V" } : Jvm.MethodName)) ∈ wAll := wA_3 (j := 151) rfl rfl
theorem k_4_22 : (Jvm.Cond.methodLink "StaveHouse$Parser" (287 : Nat) ({ cls := "StaveHouse$Parser", name := "takeMarks", desc := "(I)V" } : Jvm.MethodName)) ∈ wAll := wA_4 (j := 22) rfl rfl
theorem k_4_24 : (Jvm.Cond.instanceMethod ({ cls := "StaveHouse$Parser", name := "takeMarks", desc := "(I)V" } : Jvm.MethodName)) ∈ wAll := wA_4 (j := 24) rfl rfl
theorem ks_20 : (Jvm.Cond.selects "StaveHouse$Parser" ({ cls := "StaveHouse$Parser", name := "takeMarks", desc := "(I)V" } : Jvm.MethodName) ({ cls := "StaveHouse$Parser", name := "takeMarks", desc := "(I)V" } : Jvm.MethodName)) ∈ wAll := wA_s (j := 20) rfl rfl
theorem k_4_25 : (Jvm.Cond.code ({ cls := "StaveHouse$Parser", name := "takeMarks", desc := "(I)V" } : Jvm.MethodName) prog_5_method_27_code (4 : Nat) (Option.none : Option Jvm.ClassFile.FieldType)) ∈ wAll := wA_4 (j := 25) rfl rfl
theorem k_5_53 : (Jvm.Cond.methodLink "StaveHouse$Part" (109 : Nat) ({ cls := "StaveHouse$Part", name := "cut", desc := "(LStaveHouse$Piece;IJJ)V" } : Jvm.MethodName)) ∈ wAll := wA_5 (j := 53) rfl rfl
theorem k_5_55 : (Jvm.Cond.instanceMethod ({ cls := "StaveHouse$Part", name := "cut", desc := "(LStaveHouse$Piece;IJJ)V" } : Jvm.MethodName)) ∈ wAll := wA_5 (j := 55) rfl rfl
theorem ks_49 : (Jvm.Cond.selects "StaveHouse$Part" ({ cls := "StaveHouse$Part", name := "cut", desc := "(LStaveHouse$Piece;IJJ)V" } : Jvm.MethodName) ({ cls := "StaveHouse$Part", name := "cut", desc := "(LStaveHouse$Piece;IJJ)V" } : Jvm.MethodName)) ∈ wAll := wA_s (j := 49) rfl rfl
theorem k_5_56 : (Jvm.Cond.code ({ cls := "StaveHouse$Part", name := "cut", desc := "(LStaveHouse$Piece;IJJ)V" } : Jvm.MethodName) prog_6_method_10_code (18 : Nat) (Option.none : Option Jvm.ClassFile.FieldType)) ∈ wAll := wA_5 (j := 56) rfl rfl
theorem k_5_100 : (Jvm.Cond.methodLink "StaveHouse$Part" (113 : Nat) ({ cls := "StaveHouse$Part", name := "hold", desc := "()V" } : Jvm.MethodName)) ∈ wAll := wA_5 (j := 100) rfl rfl
theorem k_5_102 : (Jvm.Cond.instanceMethod ({ cls := "StaveHouse$Part", name := "hold", desc := "()V" } : Jvm.MethodName)) ∈ wAll := wA_5 (j := 102) rfl rfl
theorem ks_53 : (Jvm.Cond.selects "StaveHouse$Part" ({ cls := "StaveHouse$Part", name := "hold", desc := "()V" } : Jvm.MethodName) ({ cls := "StaveHouse$Part", name := "hold", desc := "()V" } : Jvm.MethodName)) ∈ wAll := wA_s (j := 53) rfl rfl
theorem k_5_103 : (Jvm.Cond.code ({ cls := "StaveHouse$Part", name := "hold", desc := "()V" } : Jvm.MethodName) prog_6_method_16_code (3 : Nat) (Option.none : Option Jvm.ClassFile.FieldType)) ∈ wAll := wA_5 (j := 103) rfl rfl
theorem k_2_198 : (Jvm.Cond.fieldLink "StaveHouse$Part" (116 : Nat) "StaveHouse$Piece" "fifths" "I") ∈ wAll := wA_2 (j := 198) rfl rfl
theorem k_5_112 : (Jvm.Cond.methodLink "StaveHouse$Part" (119 : Nat) ({ cls := "StaveHouse$Part", name := "setAccidentals", desc := "(I)V" } : Jvm.MethodName)) ∈ wAll := wA_5 (j := 112) rfl rfl
theorem k_5_114 : (Jvm.Cond.instanceMethod ({ cls := "StaveHouse$Part", name := "setAccidentals", desc := "(I)V" } : Jvm.MethodName)) ∈ wAll := wA_5 (j := 114) rfl rfl
theorem ks_56 : (Jvm.Cond.selects "StaveHouse$Part" ({ cls := "StaveHouse$Part", name := "setAccidentals", desc := "(I)V" } : Jvm.MethodName) ({ cls := "StaveHouse$Part", name := "setAccidentals", desc := "(I)V" } : Jvm.MethodName)) ∈ wAll := wA_s (j := 56) rfl rfl
theorem k_5_115 : (Jvm.Cond.code ({ cls := "StaveHouse$Part", name := "setAccidentals", desc := "(I)V" } : Jvm.MethodName) prog_6_method_17_code (5 : Nat) (Option.none : Option Jvm.ClassFile.FieldType)) ∈ wAll := wA_5 (j := 115) rfl rfl
theorem k_5_130 : (Jvm.Cond.methodLink "StaveHouse$Part" (123 : Nat) ({ cls := "StaveHouse$Part", name := "setLedgers", desc := "()V" } : Jvm.MethodName)) ∈ wAll := wA_5 (j := 130) rfl rfl
theorem k_5_132 : (Jvm.Cond.instanceMethod ({ cls := "StaveHouse$Part", name := "setLedgers", desc := "()V" } : Jvm.MethodName)) ∈ wAll := wA_5 (j := 132) rfl rfl
theorem ks_58 : (Jvm.Cond.selects "StaveHouse$Part" ({ cls := "StaveHouse$Part", name := "setLedgers", desc := "()V" } : Jvm.MethodName) ({ cls := "StaveHouse$Part", name := "setLedgers", desc := "()V" } : Jvm.MethodName)) ∈ wAll := wA_s (j := 58) rfl rfl
theorem k_5_133 : (Jvm.Cond.code ({ cls := "StaveHouse$Part", name := "setLedgers", desc := "()V" } : Jvm.MethodName) prog_6_method_21_code (3 : Nat) (Option.none : Option Jvm.ClassFile.FieldType)) ∈ wAll := wA_5 (j := 133) rfl rfl
theorem k_5_144 : (Jvm.Cond.methodLink "StaveHouse$Part" (126 : Nat) ({ cls := "StaveHouse$Piece", name := "beatLength", desc := "()J" } : Jvm.MethodName)) ∈ wAll := wA_5 (j := 144) rfl rfl
theorem k_5_145 : (Jvm.Cond.instanceMethod ({ cls := "StaveHouse$Piece", name := "beatLength", desc := "()J" } : Jvm.MethodName)) ∈ wAll := wA_5 (j := 145) rfl rfl
theorem k_5_146 : (Jvm.Cond.selects "StaveHouse$Piece" ({ cls := "StaveHouse$Piece", name := "beatLength", desc := "()J" } : Jvm.MethodName) ({ cls := "StaveHouse$Piece", name := "beatLength", desc := "()J" } : Jvm.MethodName)) ∈ wAll := wA_5 (j := 146) rfl rfl
theorem k_5_147 : (Jvm.Cond.code ({ cls := "StaveHouse$Piece", name := "beatLength", desc := "()J" } : Jvm.MethodName) prog_8_method_6_code (1 : Nat) (Option.some Jvm.ClassFile.FieldType.long)) ∈ wAll := wA_5 (j := 147) rfl rfl
theorem k_5_149 : (Jvm.Cond.methodLink "StaveHouse$Part" (129 : Nat) ({ cls := "StaveHouse$Part", name := "group", desc := "(J)V" } : Jvm.MethodName)) ∈ wAll := wA_5 (j := 149) rfl rfl
theorem k_5_151 : (Jvm.Cond.instanceMethod ({ cls := "StaveHouse$Part", name := "group", desc := "(J)V" } : Jvm.MethodName)) ∈ wAll := wA_5 (j := 151) rfl rfl
theorem ks_61 : (Jvm.Cond.selects "StaveHouse$Part" ({ cls := "StaveHouse$Part", name := "group", desc := "(J)V" } : Jvm.MethodName) ({ cls := "StaveHouse$Part", name := "group", desc := "(J)V" } : Jvm.MethodName)) ∈ wAll := wA_s (j := 61) rfl rfl
theorem k_5_152 : (Jvm.Cond.code ({ cls := "StaveHouse$Part", name := "group", desc := "(J)V" } : Jvm.MethodName) prog_6_method_24_code (9 : Nat) (Option.none : Option Jvm.ClassFile.FieldType)) ∈ wAll := wA_5 (j := 152) rfl rfl
theorem k_5_162 : (Jvm.Cond.methodLink "StaveHouse$Part" (133 : Nat) ({ cls := "StaveHouse$Part", name := "setStems", desc := "()V" } : Jvm.MethodName)) ∈ wAll := wA_5 (j := 162) rfl rfl
theorem k_5_164 : (Jvm.Cond.instanceMethod ({ cls := "StaveHouse$Part", name := "setStems", desc := "()V" } : Jvm.MethodName)) ∈ wAll := wA_5 (j := 164) rfl rfl
theorem ks_64 : (Jvm.Cond.selects "StaveHouse$Part" ({ cls := "StaveHouse$Part", name := "setStems", desc := "()V" } : Jvm.MethodName) ({ cls := "StaveHouse$Part", name := "setStems", desc := "()V" } : Jvm.MethodName)) ∈ wAll := wA_s (j := 64) rfl rfl
theorem k_5_165 : (Jvm.Cond.code ({ cls := "StaveHouse$Part", name := "setStems", desc := "()V" } : Jvm.MethodName) prog_6_method_25_code (7 : Nat) (Option.none : Option Jvm.ClassFile.FieldType)) ∈ wAll := wA_5 (j := 165) rfl rfl
theorem W_prog_12_method_2_code_0 : chW prog_12_method_2_code 0 [3, 61, 3, 62, 3, 54, 4, 21, 4, 17, 11, 184, 162, 0, 123, 28, 43, 180, 0, 22, 162, 0, 115, 43, 28, 182, 0, 28, 54, 5, 21, 5, 184, 0, 32, 153] := chW_of (by decide +kernel)
theorem W_prog_5_method_23_code_0 : chW prog_5_method_23_code 0 [42, 180, 0, 21, 27, 42, 180, 0, 63, 79, 42, 180, 0, 48, 180, 0, 108, 7, 160, 0, 7, 4, 167, 0, 4, 3, 61, 28, 153, 0, 13, 42, 180, 0, 48, 182] := chW_of (by decide +kernel)
theorem W_prog_5_method_23_code_32 : chW prog_5_method_23_code 32 [180, 0, 48, 182, 0, 122, 167, 0, 32, 42, 180, 0, 48, 180, 0, 108, 5, 160, 0, 11, 42, 27, 182, 1, 21, 167, 0, 13, 42, 27, 182, 1, 25, 154, 0, 5] := chW_of (by decide +kernel)
theorem W_prog_6_method_9_code_0 : chW prog_6_method_9_code 0 [42, 3, 181, 0, 35, 42, 3, 181, 0, 81, 3, 61, 28, 42, 180, 0, 31, 162, 0, 40, 42, 180, 0, 81, 154, 0, 33, 42, 43, 28, 42, 180, 0, 11, 28, 50] := chW_of (by decide +kernel)
theorem W_prog_6_method_9_code_32 : chW prog_6_method_9_code 32 [0, 11, 28, 50, 180, 0, 84, 42, 180, 0, 11, 28, 50, 180, 0, 87, 182, 0, 109, 132, 2, 1, 167, 255, 214, 43, 182, 0, 55, 65, 32, 9, 148, 158, 0, 12] := chW_of (by decide +kernel)
theorem W_prog_10_method_14_code_0 : chW prog_10_method_14_code 0 [42, 89, 180, 0, 123, 42, 182, 0, 136, 133, 97, 181, 0, 123, 42, 180, 0, 27, 61, 42, 182, 0, 90, 62, 42, 180, 0, 39, 153, 0, 4, 177, 29, 17, 0, 255] := chW_of (by decide +kernel)
theorem W_prog_9_method_9_code_0 : chW prog_9_method_9_code 0 [42, 180, 0, 22, 180, 0, 40, 5, 46, 60, 42, 180, 0, 26, 27, 156, 0, 8, 18, 133, 167, 0, 5, 18, 135, 182, 0, 137, 42, 180, 0, 26, 27, 184, 0, 141] := chW_of (by decide +kernel)
theorem W_prog_9_method_13_code_0 : chW prog_9_method_13_code 0 [42, 180, 0, 12, 182, 0, 196, 153, 0, 12, 42, 180, 0, 26, 16, 114, 182, 0, 151, 42, 180, 0, 26, 42, 180, 0, 12, 180, 0, 115, 4, 164, 0, 8, 18, 200] := chW_of (by decide +kernel)
theorem W_prog_9_method_13_code_32 : chW prog_9_method_13_code 32 [0, 8, 18, 200, 167, 0, 5, 18, 202, 182, 0, 137, 3, 62, 29, 42, 180, 0, 12, 180, 0, 115, 162, 0, 49, 42, 180, 0, 26, 29, 158, 0, 8, 18, 204, 167] := chW_of (by decide +kernel)
theorem W_prog_7_method_24_code_0 : chW prog_7_method_24_code 0 [3, 62, 29, 28, 162, 0, 16, 42, 180, 0, 18, 29, 3, 79, 132, 3, 1, 167, 255, 241, 3, 62, 29, 42, 180, 0, 36, 162, 0, 16, 42, 43, 29, 28, 182, 1] := chW_of (by decide +kernel)
theorem d_7_24_14 : decode prog_7_method_24_code 14 = .ok (.iinc 3 1, 3) := D_132 W_prog_7_method_24_code_0 14 rfl rfl rfl
theorem W_prog_7_method_24_code_32 : chW prog_7_method_24_code 32 [29, 28, 182, 1, 23, 132, 3, 1, 167, 255, 238, 3, 62, 29, 28, 162, 0, 67, 17, 128, 0, 17, 127, 255, 42, 180, 0, 18, 29, 46, 184, 0, 99, 184, 0, 144] := chW_of (by decide +kernel)
theorem W_prog_11_method_12_code_0 : chW prog_11_method_12_code 0 [42, 43, 28, 182, 0, 139, 3, 54, 4, 2, 54, 5, 3, 54, 6, 21, 6, 16, 7, 162, 0, 43, 21, 4, 42, 180, 0, 40, 21, 6, 46, 184, 0, 142, 96, 54] := chW_of (by decide +kernel)
theorem W_prog_6_method_27_code_0 : chW prog_6_method_27_code 0 [42, 180, 0, 11, 29, 50, 180, 0, 84, 43, 180, 0, 11, 28, 50, 180, 0, 84, 148, 157, 0, 5, 3, 172, 42, 180, 0, 11, 29, 50, 182, 0, 227, 43, 180, 0] := chW_of (by decide +kernel)
theorem W_prog_1_method_33_code_0 : chW prog_1_method_33_code 0 [42, 27, 28, 182, 0, 101, 58, 9, 42, 21, 5, 21, 6, 182, 0, 101, 58, 10, 25, 9, 198, 0, 33, 25, 10, 198, 0, 28, 21, 4, 5, 161, 0, 22, 21, 4] := chW_of (by decide +kernel)
theorem W_prog_1_method_33_code_32 : chW prog_1_method_33_code 32 [0, 22, 21, 4, 16, 20, 163, 0, 15, 21, 7, 155, 0, 10, 21, 7, 16, 7, 164, 0, 7, 4, 167, 0, 4, 3, 54, 11, 21, 11, 154, 0, 24, 21, 8, 155] := chW_of (by decide +kernel)
theorem W_prog_1_method_33_code_64 : chW prog_1_method_33_code 64 [24, 21, 8, 155, 0, 19, 29, 155, 0, 15, 29, 25, 9, 180, 0, 105, 21, 4, 100, 164, 0, 5, 2, 172, 21, 8, 54, 12, 3, 54, 13, 21, 13, 25, 10, 180] := chW_of (by decide +kernel)
theorem W_prog_1_method_33_code_96 : chW prog_1_method_33_code 96 [13, 25, 10, 180, 0, 105, 21, 4, 100, 163, 0, 37, 25, 10, 21, 13, 25, 9, 29, 21, 4, 21, 7, 182, 1, 75, 153, 0, 14, 21, 12, 154, 0, 6, 21, 13] := chW_of (by decide +kernel)
theorem W_prog_1_method_33_code_128 : chW prog_1_method_33_code 128 [0, 6, 21, 13, 172, 132, 12, 255, 132, 13, 1, 167, 255, 212, 2, 172] := chW_of (by decide +kernel)
theorem W_prog_12_method_2_code_32 : chW prog_12_method_2_code 32 [184, 0, 32, 153, 0, 9, 132, 2, 1, 167, 0, 88, 21, 5, 184, 0, 36, 153, 0, 11, 43, 28, 184, 0, 39, 167, 0, 6, 28, 4, 96, 54, 6, 42, 180, 0] := chW_of (by decide +kernel)
theorem W_prog_11_method_12_code_32 : chW prog_11_method_12_code 32 [0, 142, 96, 54, 4, 42, 21, 6, 182, 0, 147, 2, 159, 0, 8, 21, 6, 167, 0, 5, 21, 5, 54, 5, 132, 6, 1, 167, 255, 212, 29, 5, 160, 0, 7, 21] := chW_of (by decide +kernel)
theorem W_prog_11_method_12_code_64 : chW prog_11_method_12_code 64 [160, 0, 7, 21, 4, 133, 173, 21, 5, 2, 160, 0, 16, 29, 6, 160, 0, 9, 20, 0, 96, 167, 0, 4, 9, 173, 29, 170, 0, 0, 0, 85, 0, 0, 0, 3] := chW_of (by decide +kernel)
theorem d_11_12_91 : decode prog_11_method_12_code 91 = .ok (.tableswitch 85 3 7 #[33, 41, 45, 53, 71], 33) := by decide +kernel
theorem W_prog_11_method_12_code_96 : chW prog_11_method_12_code 96 [0, 0, 0, 3, 0, 0, 0, 7, 0, 0, 0, 33, 0, 0, 0, 41, 0, 0, 0, 45, 0, 0, 0, 53, 0, 0, 0, 71, 42, 21, 5, 182, 0, 147, 133, 173] := chW_of (by decide +kernel)
theorem d_12_2_38 : decode prog_12_method_2_code 38 = .ok (.iinc 2 1, 3) := D_132 W_prog_12_method_2_code_32 6 rfl rfl rfl
theorem W_prog_12_method_2_code_128 : chW prog_12_method_2_code 128 [1, 132, 4, 1, 167, 255, 131, 42, 180, 0, 9, 29, 3, 79, 42, 180, 0, 15, 29, 43, 180, 0, 22, 79, 42, 180, 0, 18, 29, 9, 80, 42, 3, 181, 0, 54] := chW_of (by decide +kernel)
theorem d_12_2_129 : decode prog_12_method_2_code 129 = .ok (.iinc 4 1, 3) := D_132 W_prog_12_method_2_code_128 1 rfl rfl rfl
theorem W_prog_12_method_2_code_64 : chW prog_12_method_2_code 64 [6, 42, 180, 0, 15, 29, 28, 79, 21, 5, 184, 0, 36, 153, 0, 15, 42, 43, 29, 28, 21, 6, 182, 0, 43, 167, 0, 34, 42, 180, 0, 9, 29, 18, 47, 21] := chW_of (by decide +kernel)
theorem W_prog_12_method_2_code_96 : chW prog_12_method_2_code 96 [29, 18, 47, 21, 5, 146, 182, 0, 49, 155, 0, 7, 8, 167, 0, 4, 4, 79, 42, 180, 0, 18, 29, 21, 5, 133, 80, 21, 6, 61, 132, 3, 1, 132, 4, 1] := chW_of (by decide +kernel)
theorem W_prog_5_method_23_code_64 : chW prog_5_method_23_code 64 [25, 154, 0, 5, 3, 172, 42, 180, 0, 48, 16, 58, 182, 0, 153, 153, 0, 12, 42, 182, 1, 28, 154, 0, 5, 3, 172, 42, 180, 0, 18, 27, 42, 180, 0, 181] := chW_of (by decide +kernel)
theorem W_prog_10_method_14_code_32 : chW prog_10_method_14_code 32 [29, 17, 0, 255, 160, 0, 15, 42, 3, 181, 0, 120, 42, 182, 0, 139, 167, 0, 93, 29, 17, 0, 240, 159, 0, 10, 29, 17, 0, 247, 160, 0, 20, 42, 3, 181] := chW_of (by decide +kernel)
theorem W_prog_10_method_14_code_64 : chW prog_10_method_14_code 64 [20, 42, 3, 181, 0, 120, 42, 42, 182, 0, 136, 133, 182, 0, 70, 167, 0, 62, 29, 17, 0, 240, 162, 0, 17, 29, 17, 0, 128, 162, 0, 19, 42, 180, 0, 120] := chW_of (by decide +kernel)
theorem W_prog_10_method_14_code_96 : chW prog_10_method_14_code 96 [42, 180, 0, 120, 154, 0, 12, 42, 4, 28, 182, 0, 83, 167, 0, 32, 29, 54, 4, 29, 17, 0, 128, 161, 0, 14, 42, 29, 181, 0, 120, 42, 182, 0, 142, 54] := chW_of (by decide +kernel)
theorem W_prog_5_method_23_code_96 : chW prog_5_method_23_code 96 [42, 180, 0, 181, 79, 28, 154, 0, 8, 42, 27, 182, 1, 31, 4, 172] := chW_of (by decide +kernel)
theorem W_prog_10_method_14_code_128 : chW prog_10_method_14_code 128 [182, 0, 142, 54, 4, 42, 21, 4, 28, 27, 182, 0, 145, 177] := chW_of (by decide +kernel)
theorem W_prog_9_method_9_code_32 : chW prog_9_method_9_code 32 [27, 184, 0, 141, 182, 0, 144, 42, 180, 0, 26, 42, 180, 0, 22, 180, 0, 40, 6, 46, 4, 160, 0, 8, 18, 147, 167, 0, 5, 18, 149, 182, 0, 137, 42, 180] := chW_of (by decide +kernel)
theorem W_prog_9_method_9_code_64 : chW prog_9_method_9_code 64 [0, 137, 42, 180, 0, 26, 42, 180, 0, 22, 180, 0, 40, 7, 46, 182, 0, 144, 42, 180, 0, 26, 16, 47, 182, 0, 151, 42, 180, 0, 26, 42, 180, 0, 22, 180] := chW_of (by decide +kernel)
theorem W_prog_9_method_9_code_96 : chW prog_9_method_9_code 96 [180, 0, 22, 180, 0, 40, 8, 46, 182, 0, 144, 42, 180, 0, 26, 18, 154, 182, 0, 137, 42, 180, 0, 26, 42, 180, 0, 22, 180, 0, 40, 16, 6, 46, 182, 0] := chW_of (by decide +kernel)
theorem W_prog_9_method_9_code_128 : chW prog_9_method_9_code 128 [6, 46, 182, 0, 144, 42, 180, 0, 26, 16, 10, 182, 0, 151, 177] := chW_of (by decide +kernel)
theorem W_prog_9_method_13_code_96 : chW prog_9_method_13_code 96 [212, 132, 3, 1, 167, 255, 202, 42, 180, 0, 26, 42, 180, 0, 12, 180, 0, 115, 4, 164, 0, 8, 18, 215, 167, 0, 5, 18, 217, 182, 0, 137, 42, 180, 0, 26] := chW_of (by decide +kernel)
theorem W_prog_9_method_13_code_64 : chW prog_9_method_13_code 64 [8, 18, 204, 167, 0, 5, 18, 202, 182, 0, 137, 42, 42, 180, 0, 12, 180, 0, 206, 29, 46, 42, 180, 0, 12, 180, 0, 209, 29, 46, 182, 0, 212, 132, 3, 1] := chW_of (by decide +kernel)
theorem d_9_13_97 : decode prog_9_method_13_code 97 = .ok (.iinc 3 1, 3) := D_132 W_prog_9_method_13_code_96 1 rfl rfl rfl
theorem W_prog_9_method_13_code_128 : chW prog_9_method_13_code 128 [42, 180, 0, 26, 4, 27, 6, 108, 120, 182, 0, 144, 3, 62, 29, 5, 27, 6, 112, 100, 162, 0, 18, 42, 180, 0, 26, 16, 46, 182, 0, 151, 132, 3, 1, 167] := chW_of (by decide +kernel)
theorem W_prog_9_method_13_code_160 : chW prog_9_method_13_code 160 [132, 3, 1, 167, 255, 235, 42, 180, 0, 26, 28, 153, 0, 18, 42, 180, 0, 12, 182, 0, 196, 154, 0, 8, 18, 219, 167, 0, 5, 18, 204, 182, 0, 137, 177] := chW_of (by decide +kernel)
theorem d_9_13_160 : decode prog_9_method_13_code 160 = .ok (.iinc 3 1, 3) := D_132 W_prog_9_method_13_code_160 0 rfl rfl rfl
theorem W_prog_9_method_13_code_192 : chW prog_9_method_13_code 192 [0, 137, 177] := chW_of (by decide +kernel)
theorem d_7_24_37 : decode prog_7_method_24_code 37 = .ok (.iinc 3 1, 3) := D_132 W_prog_7_method_24_code_32 5 rfl rfl rfl
theorem W_prog_7_method_24_code_96 : chW prog_7_method_24_code 96 [162, 79, 42, 180, 0, 15, 29, 42, 182, 1, 26, 79, 132, 3, 1, 167, 255, 190, 42, 28, 181, 0, 44, 42, 89, 180, 0, 159, 28, 96, 181, 0, 159, 42, 180, 0] := chW_of (by decide +kernel)
theorem W_prog_7_method_24_code_128 : chW prog_7_method_24_code 128 [159, 42, 180, 0, 159, 172] := chW_of (by decide +kernel)
theorem W_prog_7_method_24_code_64 : chW prog_7_method_24_code 64 [99, 184, 0, 144, 54, 4, 42, 89, 180, 0, 162, 21, 4, 42, 180, 0, 162, 100, 5, 108, 96, 181, 0, 162, 42, 180, 0, 11, 29, 42, 180, 0, 162, 79, 42, 180] := chW_of (by decide +kernel)
theorem d_7_24_108 : decode prog_7_method_24_code 108 = .ok (.iinc 3 1, 3) := D_132 W_prog_7_method_24_code_96 12 rfl rfl rfl
theorem W_prog_11_method_12_code_128 : chW prog_11_method_12_code 128 [0, 147, 133, 173, 21, 5, 133, 173, 42, 21, 5, 182, 0, 150, 133, 173, 42, 43, 28, 182, 0, 153, 21, 5, 100, 16, 7, 184, 0, 130, 5, 108, 133, 173, 21, 5] := chW_of (by decide +kernel)
theorem W_prog_11_method_12_code_160 : chW prog_11_method_12_code 160 [133, 173, 21, 5, 43, 184, 0, 157, 100, 16, 7, 184, 0, 130, 133, 173, 42, 43, 182, 0, 161, 153, 0, 7, 10, 167, 0, 4, 9, 173] := chW_of (by decide +kernel)
theorem d_11_12_56 : decode prog_11_method_12_code 56 = .ok (.iinc 6 1, 3) := D_132 W_prog_11_method_12_code_32 24 rfl rfl rfl
theorem W_prog_6_method_27_code_32 : chW prog_6_method_27_code 32 [227, 43, 180, 0, 11, 28, 50, 182, 0, 227, 100, 54, 4, 3, 54, 5, 28, 21, 5, 96, 43, 180, 0, 31, 162, 0, 108, 29, 21, 5, 96, 42, 180, 0, 31, 162] := chW_of (by decide +kernel)
theorem W_prog_6_method_27_code_64 : chW prog_6_method_27_code 64 [180, 0, 31, 162, 0, 97, 43, 180, 0, 11, 28, 21, 5, 96, 50, 58, 6, 42, 180, 0, 11, 29, 21, 5, 96, 50, 58, 7, 25, 6, 182, 0, 146, 25, 7, 182] := chW_of (by decide +kernel)
theorem W_prog_6_method_27_code_96 : chW prog_6_method_27_code 96 [146, 25, 7, 182, 0, 146, 160, 0, 21, 25, 6, 180, 0, 87, 25, 7, 180, 0, 87, 148, 154, 0, 7, 4, 167, 0, 4, 3, 54, 8, 21, 8, 153, 0, 27, 25] := chW_of (by decide +kernel)
theorem W_prog_6_method_27_code_128 : chW prog_6_method_27_code 128 [153, 0, 27, 25, 6, 182, 0, 146, 154, 0, 22, 25, 7, 182, 0, 227, 25, 6, 182, 0, 227, 100, 21, 4, 159, 0, 6, 21, 5, 172, 132, 5, 1, 167, 255, 143] := chW_of (by decide +kernel)
theorem d_6_27_158 : decode prog_6_method_27_code 158 = .ok (.iinc 5 1, 3) := D_132 W_prog_6_method_27_code_128 30 rfl rfl rfl
theorem W_prog_6_method_27_code_160 : chW prog_6_method_27_code 160 [1, 167, 255, 143, 21, 5, 172] := chW_of (by decide +kernel)
theorem d_1_33_133 : decode prog_1_method_33_code 133 = .ok (.iinc 12 (-1), 3) := D_132 W_prog_1_method_33_code_128 5 rfl rfl rfl
theorem d_1_33_136 : decode prog_1_method_33_code 136 = .ok (.iinc 13 1, 3) := D_132 W_prog_1_method_33_code_128 8 rfl rfl rfl
theorem d_12_2_126 : decode prog_12_method_2_code 126 = .ok (.iinc 3 1, 3) := D_132 W_prog_12_method_2_code_96 30 rfl rfl rfl
theorem W_prog_12_method_2_code_160 : chW prog_12_method_2_code 160 [3, 181, 0, 54, 42, 182, 0, 57, 177] := chW_of (by decide +kernel)
theorem d_6_9_51 : decode prog_6_method_9_code 51 = .ok (.iinc 2 1, 3) := D_132 W_prog_6_method_9_code_32 19 rfl rfl rfl
theorem W_prog_6_method_9_code_64 : chW prog_6_method_9_code 64 [148, 158, 0, 12, 42, 180, 0, 38, 32, 113, 167, 0, 4, 9, 55, 4, 22, 4, 9, 148, 153, 0, 17, 42, 43, 2, 42, 180, 0, 38, 32, 22, 4, 101, 182, 0] := chW_of (by decide +kernel)
theorem W_prog_6_method_9_code_96 : chW prog_6_method_9_code 96 [4, 101, 182, 0, 109, 42, 180, 0, 81, 154, 0, 31, 42, 182, 0, 113, 42, 43, 180, 0, 116, 182, 0, 119, 42, 182, 0, 123, 42, 43, 182, 0, 126, 182, 0, 129] := chW_of (by decide +kernel)
theorem W_prog_6_method_9_code_128 : chW prog_6_method_9_code 128 [126, 182, 0, 129, 42, 182, 0, 133, 177] := chW_of (by decide +kernel)
abbrev Q_SoundFile_loadEvent (K : zK) (D : va_G) (ca : Nat → ClassId) (ad : Nat → Int → Nat → Nat) (L : List Nat) (r : Int) (F : zF) (B : zB) (A : Nat → Prop) : Array Value → State → Outcome → State → Prop := va_Qv (S := Unit) (fun _ => True) (fun _ => zPo D ca ad lnC K.2 L F B A) A
def f_SoundFile_loadEvent_141 (K : zK)  (F : zF) (B : zB) : zO := some (0, F, B)
set_option maxHeartbeats 4000000 in
set_option maxRecDepth 100000 in
theorem b_SoundFile_loadEvent_141 {D : va_G} {ca : Nat → ClassId} {ad : Nat → Int → Nat → Nat} {L : List Nat} {aS vS : Nat → Nat} {A : Nat → Prop} {p : Program} {l : Launch} {e : Env} {s : State} {m : MethodId} {args : Array Value} {below : List Frame} {meth : Method} {c : Code} {K : zK} {r : Int} {F9 : zF} {B9 : zB} (X : zX D ca L aS vS A p s m args meth c prog_10_method_14_code 5 (Option.none : Option Jvm.ClassFile.FieldType) "StaveHouse$SoundFile")  {F : zF} {B : zB} {H : Heap} {locs : List Loc} {ls : Array Slot} (hf : f_SoundFile_loadEvent_141 K  F B = some (r, F9, B9)) (hZ : zH D ca ad lnC K.2 L F B A H) (hS : va_S A s.heap H locs) (hl : lv_has ls 5 []) : W p l e ({ frames := 4, cells := 0, slots := 0, locals := 90 } : Room) s m args below meth c H locs 0 0 (MQ below (Q_SoundFile_loadEvent K D ca ad L r F9 B9 A) args s 0 0 A) (F0 m 141 ls []) := by
  obtain ⟨hx, hb, hr, hml, hown, hts, hlk, hK, hA, hL, hX⟩ := id X
  replace hf : (some (0, F, B)) = some (r, F9, B9) := hf
  cases hf
  exact W.vret hx hb hr (fun t ht hW => ⟨⟨(), rfl, trivial, by rw [ht]; exact hZ, va_K.moved hW.alike hK⟩, hS.F ht⟩) hS.2.2 (D_177 W_prog_10_method_14_code_128 13 rfl rfl) hlk

def f_SoundFile_loadEvent_133 (K : zK) (l4 : Int) (l2 : Int) (l0 : Int) (l1 : Int) (F : zF) (B : zB) : zO := if 0 ≤ l0 ∧ l0 < K.2 8 then zbind (f_SoundFile_loadMessage K l0 l4 l2 l1 F B) (fun r31 F31 B31 => f_SoundFile_loadEvent_141 K F31 B31) else none
set_option maxHeartbeats 4000000 in
set_option maxRecDepth 100000 in
theorem b_SoundFile_loadEvent_133 {D : va_G} {ca : Nat → ClassId} {ad : Nat → Int → Nat → Nat} {L : List Nat} {aS vS : Nat → Nat} {A : Nat → Prop} {p : Program} {l : Launch} {e : Env} {s : State} {m : MethodId} {args : Array Value} {below : List Frame} {meth : Method} {c : Code} {K : zK} {r : Int} {F9 : zF} {B9 : zB} (X : zX D ca L aS vS A p s m args meth c prog_10_method_14_code 5 (Option.none : Option Jvm.ClassFile.FieldType) "StaveHouse$SoundFile") {l4 : Int} {l2 : Int} {l0 : Int} {l1 : Int} {F : zF} {B : zB} {H : Heap} {locs : List Loc} {ls : Array Slot} (hf : f_SoundFile_loadEvent_133 K l4 l2 l0 l1 F B = some (r, F9, B9)) (hZ : zH D ca ad lnC K.2 L F B A H) (hS : va_S A s.heap H locs) (hl : lv_has ls 5 [(4, .int (iI l4)), (2, .int (iI l2)), (0, .ref (ad 8 l0 0)), (1, .int (iI l1))]) : W p l e ({ frames := 4, cells := 0, slots := 0, locals := 90 } : Room) s m args below meth c H locs 0 0 (MQ below (Q_SoundFile_loadEvent K D ca ad L r F9 B9 A) args s 0 0 A) (F0 m 133 ls []) := by
  obtain ⟨hx, hb, hr, hml, hown, hts, hlk, hK, hA, hL, hX⟩ := id X
  replace hf : (if 0 ≤ l0 ∧ l0 < K.2 8 then zbind (f_SoundFile_loadMessage K l0 l4 l2 l1 F B) (fun r31 F31 B31 => f_SoundFile_loadEvent_141 K F31 B31) else none) = some (r, F9, B9) := hf
  refine lv_aload_n hx hb (D_42 W_prog_10_method_14_code_128 5 rfl rfl) rfl (lv_at hl 2 rfl) ?_
  refine lv_iload hx hb (D_21 W_prog_10_method_14_code_128 6 rfl rfl) (lv_at hl 0 rfl) ?_
  refine lv_iload_n hx hb (D_28 W_prog_10_method_14_code_128 8 rfl rfl) rfl (lv_at hl 1 rfl) ?_
  refine lv_iload_n hx hb (D_27 W_prog_10_method_14_code_128 9 rfl rfl) rfl (lv_at hl 3 rfl) ?_
  obtain ⟨g30, hf⟩ := gif hf
  obtain ⟨r31, F31, B31, hc31, hf⟩ := gbind hf
  refine va_callv (va_runV (As := [.int (iI l4), .int (iI l2), .int (iI l1)]) (rest := []) ⟨hx, hb, hml, hown, hts⟩ (c_SoundFile_loadMessage (l := l) hc31) (cwV 3 hts (gdV k_8_113 k_8_115 ks_108 k_1_23 k_8_116) rfl rfl rfl (by decide +kernel) ⟨Nat.le_of_ble_eq_true rfl, Nat.le_of_ble_eq_true rfl⟩) (zPV X hZ hS (ci := 8) g30.1 g30.2 (r := (RX8, TX8, 15)) rfl [.int (iI l4), .int (iI l2), .int (iI l1)]) rfl rfl hl.1 rfl (lv_room (Nat.le_of_ble_eq_true rfl)) (D_182 W_prog_10_method_14_code_128 10 rfl rfl rfl) ⟨Nat.le_of_ble_eq_true rfl, Nat.le_of_ble_eq_true rfl⟩) hS (fun q _ h => zAin X hS q h) (zAin X hS) (fun u31 t31 H31 locs31 ht31 hv31 hw31 hB31 hz31 hk31 hS31 => ?_)
  have hZ31 := zBack X ht31 hB31
  exact b_SoundFile_loadEvent_141 X hf hZ31 hS31 (lv_sub hl [] rfl)

def f_SoundFile_loadEvent_112 (K : zK) (l3 : Int) (l2 : Int) (l0 : Int) (l1 : Int) (F : zF) (B : zB) : zO := if r32 l3 then (if l3 < 128 then f_SoundFile_loadEvent_133 K l3 l2 l0 l1 F B else if 0 ≤ l0 ∧ l0 < K.2 8 then zbind (f_SoundFile_takeData K l0 (zup3 F 8 l0 9 l3) B) (fun r29 F29 B29 => f_SoundFile_loadEvent_133 K r29 l2 l0 l1 F29 B29) else none) else none
set_option maxHeartbeats 4000000 in
set_option maxRecDepth 100000 in
theorem b_SoundFile_loadEvent_112 {D : va_G} {ca : Nat → ClassId} {ad : Nat → Int → Nat → Nat} {L : List Nat} {aS vS : Nat → Nat} {A : Nat → Prop} {p : Program} {l : Launch} {e : Env} {s : State} {m : MethodId} {args : Array Value} {below : List Frame} {meth : Method} {c : Code} {K : zK} {r : Int} {F9 : zF} {B9 : zB} (X : zX D ca L aS vS A p s m args meth c prog_10_method_14_code 5 (Option.none : Option Jvm.ClassFile.FieldType) "StaveHouse$SoundFile") {l3 : Int} {l2 : Int} {l0 : Int} {l1 : Int} {F : zF} {B : zB} {H : Heap} {locs : List Loc} {ls : Array Slot} (hf : f_SoundFile_loadEvent_112 K l3 l2 l0 l1 F B = some (r, F9, B9)) (hZ : zH D ca ad lnC K.2 L F B A H) (hS : va_S A s.heap H locs) (hl : lv_has ls 5 [(3, .int (iI l3)), (2, .int (iI l2)), (0, .ref (ad 8 l0 0)), (1, .int (iI l1))]) : W p l e ({ frames := 4, cells := 0, slots := 0, locals := 90 } : Room) s m args below meth c H locs 0 0 (MQ below (Q_SoundFile_loadEvent K D ca ad L r F9 B9 A) args s 0 0 A) (F0 m 112 ls []) := by
  obtain ⟨hx, hb, hr, hml, hown, hts, hlk, hK, hA, hL, hX⟩ := id X
  replace hf : (if r32 l3 then (if l3 < 128 then f_SoundFile_loadEvent_133 K l3 l2 l0 l1 F B else if 0 ≤ l0 ∧ l0 < K.2 8 then zbind (f_SoundFile_takeData K l0 (zup3 F 8 l0 9 l3) B) (fun r29 F29 B29 => f_SoundFile_loadEvent_133 K r29 l2 l0 l1 F29 B29) else none) else none) = some (r, F9, B9) := hf
  refine lv_iload_n hx hb (D_29 W_prog_10_method_14_code_96 16 rfl rfl) rfl (lv_at hl 0 rfl) ?_
  refine lv_istore (lv' := [(4, .int (iI l3)), (3, .int (iI l3)), (2, .int (iI l2)), (0, .ref (ad 8 l0 0)), (1, .int (iI l1))]) hx hb (D_54 W_prog_10_method_14_code_96 17 rfl rfl) hl (by decide) rfl (fun ls hl => ?_)
  refine lv_iload_n hx hb (D_29 W_prog_10_method_14_code_96 19 rfl rfl) rfl (lv_at hl 1 rfl) ?_
  refine lv_sipush (v := iI 128) hx hb (D_17 W_prog_10_method_14_code_96 20 rfl rfl rfl) (by decide) ?_
  obtain ⟨g25, hf⟩ := gif hf
  refine zlt (tgt := 133) hx hb g25 (by decide) (D_161 W_prog_10_method_14_code_96 23 rfl rfl rfl) (by decide) (fun h26 => ?_) (fun h26 => ?_)
  · replace hf := gpos hf h26
    exact b_SoundFile_loadEvent_133 X hf hZ hS (lv_sub hl [0, 2, 3, 4] rfl)
  · replace hf := gneg hf h26
    refine lv_aload_n hx hb (D_42 W_prog_10_method_14_code_96 26 rfl rfl) rfl (lv_at hl 3 rfl) ?_
    refine lv_iload_n hx hb (D_29 W_prog_10_method_14_code_96 27 rfl rfl) rfl (lv_at hl 1 rfl) ?_
    obtain ⟨g27, hf⟩ := gif hf
    refine zput (ci := 8) (C := RX8) (T := TX8) (k := 9) (v := l3) (w := .int (iI l3)) hx hb hts inW_8 tyX8 tyX8_ok nmX8 hown hK hZ hS g27.1 g27.2 rfl (by decide) k_7_233 rfl (fun G h => congrArg (fun q => Value.int (iI q)) h) rfl rfl (zno (by decide)) (D_181 W_prog_10_method_14_code_96 28 rfl rfl rfl) (fun H28 locs28 hZ28 hS28 => ?_)
    refine lv_aload_n hx hb (D_42 W_prog_10_method_14_code_96 31 rfl rfl) rfl (lv_at hl 3 rfl) ?_
    obtain ⟨r29, F29, B29, hc29, hf⟩ := gbind hf
    refine va_calli (va_runV (As := []) (rest := []) ⟨hx, hb, hml, hown, hts⟩ (c_SoundFile_takeData (l := l) hc29) (cwV 0 hts (gdV k_8_92 k_8_94 ks_104 k_1_23 k_8_95) rfl rfl rfl (by decide +kernel) ⟨Nat.le_of_ble_eq_true rfl, Nat.le_of_ble_eq_true rfl⟩) (zPV X hZ28 hS28 (ci := 8) g27.1 g27.2 (r := (RX8, TX8, 15)) rfl []) rfl rfl hl.1 rfl (lv_room (Nat.le_of_ble_eq_true rfl)) (D_182 W_prog_10_method_14_code_128 0 rfl rfl rfl) ⟨Nat.le_of_ble_eq_true rfl, Nat.le_of_ble_eq_true rfl⟩) hS28 (fun q _ h => zAin X hS28 q h) (zAin X hS28) (fun p29 u29 t29 H29 locs29 ht29 hv29 hw29 hB29 hz29 hk29 hS29 => ?_)
    have hZ29 := zBack X ht29 hB29
    subst hw29
    refine lv_istore (lv' := [(4, .int (iI r29)), (3, .int (iI l3)), (2, .int (iI l2)), (0, .ref (ad 8 l0 0)), (1, .int (iI l1))]) hx hb (D_54 W_prog_10_method_14_code_128 3 rfl rfl) hl (by decide) rfl (fun ls hl => ?_)
    exact b_SoundFile_loadEvent_133 X hf hZ29 hS29 (lv_sub hl [0, 2, 3, 4] rfl)

def f_SoundFile_loadEvent_103 (K : zK) (l2 : Int) (l0 : Int) (F : zF) (B : zB) : zO := if 0 ≤ l0 ∧ l0 < K.2 8 then zbind (f_SoundFile_refuse K l0 1 l2 F B) (fun r24 F24 B24 => f_SoundFile_loadEvent_141 K F24 B24) else none
set_option maxHeartbeats 4000000 in
set_option maxRecDepth 100000 in
theorem b_SoundFile_loadEvent_103 {D : va_G} {ca : Nat → ClassId} {ad : Nat → Int → Nat → Nat} {L : List Nat} {aS vS : Nat → Nat} {A : Nat → Prop} {p : Program} {l : Launch} {e : Env} {s : State} {m : MethodId} {args : Array Value} {below : List Frame} {meth : Method} {c : Code} {K : zK} {r : Int} {F9 : zF} {B9 : zB} (X : zX D ca L aS vS A p s m args meth c prog_10_method_14_code 5 (Option.none : Option Jvm.ClassFile.FieldType) "StaveHouse$SoundFile") {l2 : Int} {l0 : Int} {F : zF} {B : zB} {H : Heap} {locs : List Loc} {ls : Array Slot} (hf : f_SoundFile_loadEvent_103 K l2 l0 F B = some (r, F9, B9)) (hZ : zH D ca ad lnC K.2 L F B A H) (hS : va_S A s.heap H locs) (hl : lv_has ls 5 [(2, .int (iI l2)), (0, .ref (ad 8 l0 0))]) : W p l e ({ frames := 4, cells := 0, slots := 0, locals := 90 } : Room) s m args below meth c H locs 0 0 (MQ below (Q_SoundFile_loadEvent K D ca ad L r F9 B9 A) args s 0 0 A) (F0 m 103 ls []) := by
  obtain ⟨hx, hb, hr, hml, hown, hts, hlk, hK, hA, hL, hX⟩ := id X
  replace hf : (if 0 ≤ l0 ∧ l0 < K.2 8 then zbind (f_SoundFile_refuse K l0 1 l2 F B) (fun r24 F24 B24 => f_SoundFile_loadEvent_141 K F24 B24) else none) = some (r, F9, B9) := hf
  refine lv_aload_n hx hb (D_42 W_prog_10_method_14_code_96 7 rfl rfl) rfl (lv_at hl 1 rfl) ?_
  refine lv_iconst (v := iI 1) hx hb (D_4 W_prog_10_method_14_code_96 8 rfl rfl) rfl ?_
  refine lv_iload_n hx hb (D_28 W_prog_10_method_14_code_96 9 rfl rfl) rfl (lv_at hl 0 rfl) ?_
  obtain ⟨g23, hf⟩ := gif hf
  obtain ⟨r24, F24, B24, hc24, hf⟩ := gbind hf
  refine va_callv (va_runV (As := [.int (iI 1), .int (iI l2)]) (rest := []) ⟨hx, hb, hml, hown, hts⟩ (c_SoundFile_refuse (l := l) hc24) (cwV 2 hts (gdV k_8_53 k_8_55 ks_96 k_1_23 k_8_56) rfl rfl rfl (by decide +kernel) ⟨Nat.le_of_ble_eq_true rfl, Nat.le_of_ble_eq_true rfl⟩) (zPV X hZ hS (ci := 8) g23.1 g23.2 (r := (RX8, TX8, 15)) rfl [.int (iI 1), .int (iI l2)]) rfl rfl hl.1 rfl (lv_room (Nat.le_of_ble_eq_true rfl)) (D_182 W_prog_10_method_14_code_96 10 rfl rfl rfl) ⟨Nat.le_of_ble_eq_true rfl, Nat.le_of_ble_eq_true rfl⟩) hS (fun q _ h => zAin X hS q h) (zAin X hS) (fun u24 t24 H24 locs24 ht24 hv24 hw24 hB24 hz24 hk24 hS24 => ?_)
  have hZ24 := zBack X ht24 hB24
  refine lv_goto (tgt := 141) hx hb (D_167 W_prog_10_method_14_code_96 13 rfl rfl rfl) (by decide) ?_
  exact b_SoundFile_loadEvent_141 X hf hZ24 hS24 (lv_sub hl [] rfl)

def f_SoundFile_loadEvent_65 (K : zK) (l0 : Int) (F : zF) (B : zB) : zO := if 0 ≤ l0 ∧ l0 < K.2 8 then zbind (f_SoundFile_takeDelta K l0 (zup3 F 8 l0 9 0) B) (fun r20 F20 B20 => if r32 r20 then zbind (f_SoundFile_skip K l0 r20 F20 B20) (fun r22 F22 B22 => f_SoundFile_loadEvent_141 K F22 B22) else none) else none
set_option maxHeartbeats 4000000 in
set_option maxRecDepth 100000 in
theorem b_SoundFile_loadEvent_65 {D : va_G} {ca : Nat → ClassId} {ad : Nat → Int → Nat → Nat} {L : List Nat} {aS vS : Nat → Nat} {A : Nat → Prop} {p : Program} {l : Launch} {e : Env} {s : State} {m : MethodId} {args : Array Value} {below : List Frame} {meth : Method} {c : Code} {K : zK} {r : Int} {F9 : zF} {B9 : zB} (X : zX D ca L aS vS A p s m args meth c prog_10_method_14_code 5 (Option.none : Option Jvm.ClassFile.FieldType) "StaveHouse$SoundFile") {l0 : Int} {F : zF} {B : zB} {H : Heap} {locs : List Loc} {ls : Array Slot} (hf : f_SoundFile_loadEvent_65 K l0 F B = some (r, F9, B9)) (hZ : zH D ca ad lnC K.2 L F B A H) (hS : va_S A s.heap H locs) (hl : lv_has ls 5 [(0, .ref (ad 8 l0 0))]) : W p l e ({ frames := 4, cells := 0, slots := 0, locals := 90 } : Room) s m args below meth c H locs 0 0 (MQ below (Q_SoundFile_loadEvent K D ca ad L r F9 B9 A) args s 0 0 A) (F0 m 65 ls []) := by
  obtain ⟨hx, hb, hr, hml, hown, hts, hlk, hK, hA, hL, hX⟩ := id X
  replace hf : (if 0 ≤ l0 ∧ l0 < K.2 8 then zbind (f_SoundFile_takeDelta K l0 (zup3 F 8 l0 9 0) B) (fun r20 F20 B20 => if r32 r20 then zbind (f_SoundFile_skip K l0 r20 F20 B20) (fun r22 F22 B22 => f_SoundFile_loadEvent_141 K F22 B22) else none) else none) = some (r, F9, B9) := hf
  refine lv_aload_n hx hb (D_42 W_prog_10_method_14_code_64 1 rfl rfl) rfl (lv_at hl 0 rfl) ?_
  refine lv_iconst (v := iI 0) hx hb (D_3 W_prog_10_method_14_code_64 2 rfl rfl) rfl ?_
  obtain ⟨g18, hf⟩ := gif hf
  refine zput (ci := 8) (C := RX8) (T := TX8) (k := 9) (v := 0) (w := .int (iI 0)) hx hb hts inW_8 tyX8 tyX8_ok nmX8 hown hK hZ hS g18.1 g18.2 rfl (by decide) k_7_233 rfl (fun G h => congrArg (fun q => Value.int (iI q)) h) rfl rfl (zno (by decide)) (D_181 W_prog_10_method_14_code_64 3 rfl rfl rfl) (fun H19 locs19 hZ19 hS19 => ?_)
  refine lv_aload_n hx hb (D_42 W_prog_10_method_14_code_64 6 rfl rfl) rfl (lv_at hl 0 rfl) ?_
  refine lv_aload_n hx hb (D_42 W_prog_10_method_14_code_64 7 rfl rfl) rfl (lv_at hl 0 rfl) ?_
  obtain ⟨r20, F20, B20, hc20, hf⟩ := gbind hf
  refine va_calli (va_runV (As := []) (rest := [.ref (ad 8 l0 0)]) ⟨hx, hb, hml, hown, hts⟩ (c_SoundFile_takeDelta (l := l) hc20) (cwV 0 hts (gdV k_8_84 k_8_86 ks_102 k_1_23 k_8_87) rfl rfl rfl (by decide +kernel) ⟨Nat.le_of_ble_eq_true rfl, Nat.le_of_ble_eq_true rfl⟩) (zPV X hZ19 hS19 (ci := 8) g18.1 g18.2 (r := (RX8, TX8, 15)) rfl []) rfl rfl hl.1 rfl (lv_room (Nat.le_of_ble_eq_true rfl)) (D_182 W_prog_10_method_14_code_64 8 rfl rfl rfl) ⟨Nat.le_of_ble_eq_true rfl, Nat.le_of_ble_eq_true rfl⟩) hS19 (fun q _ h => zAin X hS19 q h) (zAin X hS19) (fun p20 u20 t20 H20 locs20 ht20 hv20 hw20 hB20 hz20 hk20 hS20 => ?_)
  have hZ20 := zBack X ht20 hB20
  subst hw20
  obtain ⟨g21, hf⟩ := gif hf
  refine zi2l hx hb g21 (D_133 W_prog_10_method_14_code_64 11 rfl rfl) ?_
  obtain ⟨r22, F22, B22, hc22, hf⟩ := gbind hf
  refine va_callv (va_runV (As := [.long (lI r20)]) (rest := []) ⟨hx, hb, hml, hown, hts⟩ (c_SoundFile_skip (l := l) hc22) (cwV 1 hts (gdV k_8_70 k_8_72 ks_99 k_1_23 k_8_73) rfl rfl rfl (by decide +kernel) ⟨Nat.le_of_ble_eq_true rfl, Nat.le_of_ble_eq_true rfl⟩) (zPV X hZ20 hS20 (ci := 8) g18.1 g18.2 (r := (RX8, TX8, 15)) rfl [.long (lI r20)]) rfl rfl hl.1 rfl (lv_room (Nat.le_of_ble_eq_true rfl)) (D_182 W_prog_10_method_14_code_64 12 rfl rfl rfl) ⟨Nat.le_of_ble_eq_true rfl, Nat.le_of_ble_eq_true rfl⟩) hS20 (fun q _ h => zAin X hS20 q h) (zAin X hS20) (fun u22 t22 H22 locs22 ht22 hv22 hw22 hB22 hz22 hk22 hS22 => ?_)
  have hZ22 := zBack X ht22 hB22
  refine lv_goto (tgt := 141) hx hb (D_167 W_prog_10_method_14_code_64 15 rfl rfl rfl) (by decide) ?_
  exact b_SoundFile_loadEvent_141 X hf hZ22 hS22 (lv_sub hl [] rfl)

def f_SoundFile_loadEvent (K : zK) (l0 : Int) (l1 : Int) (F : zF) (B : zB) : zO := if 0 ≤ l0 ∧ l0 < K.2 8 then zbind (f_SoundFile_takeDelta K l0 F B) (fun r2 F2 B2 => if r32 r2 then zbind (f_SoundFile_take K l0 (zup3 F2 8 l0 10 ((F 8 l0 10) + r2)) B2) (fun r5 F5 B5 => if r32 (F5 8 l0 7) then (if (F5 8 l0 7) = 0 then if r32 r5 then (if r5 = 255 then zbind (f_SoundFile_loadMeta K l0 (zup3 F5 8 l0 9 0) B5) (fun r17 F17 B17 => f_SoundFile_loadEvent_141 K F17 B17) else (if r5 = 240 then f_SoundFile_loadEvent_65 K l0 F5 B5 else (if r5 = 247 then f_SoundFile_loadEvent_65 K l0 F5 B5 else (if 240 ≤ r5 then f_SoundFile_loadEvent_103 K (F2 8 l0 5) l0 F5 B5 else (if 128 ≤ r5 then f_SoundFile_loadEvent_112 K r5 (F2 8 l0 5) l0 l1 F5 B5 else if r32 (F5 8 l0 9) then (if (F5 8 l0 9) = 0 then f_SoundFile_loadEvent_103 K (F2 8 l0 5) l0 F5 B5 else f_SoundFile_loadEvent_112 K r5 (F2 8 l0 5) l0 l1 F5 B5) else none))))) else none else some (0, F5, B5)) else none) else none) else none
set_option maxHeartbeats 4000000 in
set_option maxRecDepth 100000 in
theorem c_SoundFile_loadEvent {l : Launch} {D : va_G} {ca : Nat → ClassId} {ad : Nat → Int → Nat → Nat} {L : List Nat} {aS vS : Nat → Nat} {sz : Nat} {K : zK}  {l0 : Int} {l1 : Int} {F F9 : zF} {B B9 : zB} {r : Int} (hf : f_SoundFile_loadEvent K l0 l1 F B = some (r, F9, B9)) : Met l ({ cls := "StaveHouse$SoundFile", name := "loadEvent", desc := "(I)V" } : Jvm.MethodName) (Cond.code ({ cls := "StaveHouse$SoundFile", name := "loadEvent", desc := "(I)V" } : Jvm.MethodName) prog_10_method_14_code 5 (Option.none : Option Jvm.ClassFile.FieldType) :: wAll) ({ frames := 4, cells := 0, slots := 0, locals := 90 } : Room) (va_Pc [.ref (ad 8 l0 0), .int (iI l1)] (zPre D ca ad lnC K.2 L aS vS F B sz)) (Q_SoundFile_loadEvent K D ca ad L r F9 B9 (zA L sz)) 0 0 (zA L sz) := by
  refine zMet (Qc := Q_SoundFile_loadEvent K D ca ad L r F9 B9) (lv := [(0, .ref (ad 8 l0 0)), (1, .int (iI l1))]) (by decide) (Nat.le_of_ble_eq_true rfl) rfl (fun A p e s m below meth c ls X hZ hS hl => ?_)
  obtain ⟨hx, hb, hr, hml, hown, hts, hlk, hK, hA, hL, hX⟩ := id X
  replace hf : (if 0 ≤ l0 ∧ l0 < K.2 8 then zbind (f_SoundFile_takeDelta K l0 F B) (fun r2 F2 B2 => if r32 r2 then zbind (f_SoundFile_take K l0 (zup3 F2 8 l0 10 ((F 8 l0 10) + r2)) B2) (fun r5 F5 B5 => if r32 (F5 8 l0 7) then (if (F5 8 l0 7) = 0 then if r32 r5 then (if r5 = 255 then zbind (f_SoundFile_loadMeta K l0 (zup3 F5 8 l0 9 0) B5) (fun r17 F17 B17 => f_SoundFile_loadEvent_141 K F17 B17) else (if r5 = 240 then f_SoundFile_loadEvent_65 K l0 F5 B5 else (if r5 = 247 then f_SoundFile_loadEvent_65 K l0 F5 B5 else (if 240 ≤ r5 then f_SoundFile_loadEvent_103 K (F2 8 l0 5) l0 F5 B5 else (if 128 ≤ r5 then f_SoundFile_loadEvent_112 K r5 (F2 8 l0 5) l0 l1 F5 B5 else if r32 (F5 8 l0 9) then (if (F5 8 l0 9) = 0 then f_SoundFile_loadEvent_103 K (F2 8 l0 5) l0 F5 B5 else f_SoundFile_loadEvent_112 K r5 (F2 8 l0 5) l0 l1 F5 B5) else none))))) else none else some (0, F5, B5)) else none) else none) else none) = some (r, F9, B9) := hf
  refine lv_aload_n hx hb (D_42 W_prog_10_method_14_code_0 0 rfl rfl) rfl (lv_at hl 0 rfl) ?_
  refine lv_dup hx hb (D_89 W_prog_10_method_14_code_0 1 rfl rfl) rfl ?_
  obtain ⟨g1, hf⟩ := gif hf
  refine zget (ci := 8) (C := RX8) (T := TX8) (v := .long (lI (F 8 l0 10))) (k := 10) hx hb hts inW_8 hown hK hZ g1.1 g1.2 rfl (by decide) k_7_234 rfl (D_180 W_prog_10_method_14_code_0 2 rfl rfl rfl) ?_
  refine lv_aload_n hx hb (D_42 W_prog_10_method_14_code_0 5 rfl rfl) rfl (lv_at hl 0 rfl) ?_
  obtain ⟨r2, F2, B2, hc2, hf⟩ := gbind hf
  refine va_calli (va_runV (As := []) (rest := [.long (lI (F 8 l0 10)), .ref (ad 8 l0 0)]) ⟨hx, hb, hml, hown, hts⟩ (c_SoundFile_takeDelta (l := l) hc2) (cwV 0 hts (gdV k_8_84 k_8_86 ks_102 k_1_23 k_8_87) rfl rfl rfl (by decide +kernel) ⟨Nat.le_of_ble_eq_true rfl, Nat.le_of_ble_eq_true rfl⟩) (zPV X hZ hS (ci := 8) g1.1 g1.2 (r := (RX8, TX8, 15)) rfl []) rfl rfl hl.1 rfl (lv_room (Nat.le_of_ble_eq_true rfl)) (D_182 W_prog_10_method_14_code_0 6 rfl rfl rfl) ⟨Nat.le_of_ble_eq_true rfl, Nat.le_of_ble_eq_true rfl⟩) hS (fun q _ h => zAin X hS q h) (zAin X hS) (fun p2 u2 t2 H2 locs2 ht2 hv2 hw2 hB2 hz2 hk2 hS2 => ?_)
  have hZ2 := zBack X ht2 hB2
  subst hw2
  obtain ⟨g3, hf⟩ := gif hf
  refine zi2l hx hb g3 (D_133 W_prog_10_method_14_code_0 9 rfl rfl) ?_
  refine zladd hx hb (D_97 W_prog_10_method_14_code_0 10 rfl rfl) ?_
  refine zput (ci := 8) (C := RX8) (T := TX8) (k := 10) (v := ((F 8 l0 10) + r2)) (w := .long (lI ((F 8 l0 10) + r2))) hx hb hts inW_8 tyX8 tyX8_ok nmX8 hown hK hZ2 hS2 g1.1 g1.2 rfl (by decide) k_7_234 rfl (fun G h => congrArg (fun q => Value.long (lI q)) h) rfl rfl (zno (by decide)) (D_181 W_prog_10_method_14_code_0 11 rfl rfl rfl) (fun H4 locs4 hZ4 hS4 => ?_)
  refine lv_aload_n hx hb (D_42 W_prog_10_method_14_code_0 14 rfl rfl) rfl (lv_at hl 0 rfl) ?_
  refine zget (ci := 8) (C := RX8) (T := TX8) (v := .int (iI (F2 8 l0 5))) (k := 5) hx hb hts inW_8 hown hK hZ4 g1.1 g1.2 rfl (by decide) k_7_229 (congrArg (fun q : Int => Value.int (iI q)) (show (zup3 F2 8 l0 10 ((F 8 l0 10) + r2)) 8 l0 5 = F2 8 l0 5 by simp [zup3])) (D_180 W_prog_10_method_14_code_0 15 rfl rfl rfl) ?_
  refine lv_istore_n (lv' := [(2, .int (iI (F2 8 l0 5))), (0, .ref (ad 8 l0 0)), (1, .int (iI l1))]) hx hb (D_61 W_prog_10_method_14_code_0 18 rfl rfl) rfl hl (by decide) rfl (fun ls hl => ?_)
  refine lv_aload_n hx hb (D_42 W_prog_10_method_14_code_0 19 rfl rfl) rfl (lv_at hl 1 rfl) ?_
  obtain ⟨r5, F5, B5, hc5, hf⟩ := gbind hf
  refine va_calli (va_runV (As := []) (rest := []) ⟨hx, hb, hml, hown, hts⟩ (c_SoundFile_take (l := l) hc5) (cwV 0 hts (gdV k_8_49 k_8_51 ks_95 k_1_23 k_8_52) rfl rfl rfl (by decide +kernel) ⟨Nat.le_of_ble_eq_true rfl, Nat.le_of_ble_eq_true rfl⟩) (zPV X hZ4 hS4 (ci := 8) g1.1 g1.2 (r := (RX8, TX8, 15)) rfl []) rfl rfl hl.1 rfl (lv_room (Nat.le_of_ble_eq_true rfl)) (D_182 W_prog_10_method_14_code_0 20 rfl rfl rfl) ⟨Nat.le_of_ble_eq_true rfl, Nat.le_of_ble_eq_true rfl⟩) hS4 (fun q _ h => zAin X hS4 q h) (zAin X hS4) (fun p5 u5 t5 H5 locs5 ht5 hv5 hw5 hB5 hz5 hk5 hS5 => ?_)
  have hZ5 := zBack X ht5 hB5
  subst hw5
  refine lv_istore_n (lv' := [(3, .int (iI r5)), (2, .int (iI (F2 8 l0 5))), (0, .ref (ad 8 l0 0)), (1, .int (iI l1))]) hx hb (D_62 W_prog_10_method_14_code_0 23 rfl rfl) rfl hl (by decide) rfl (fun ls hl => ?_)
  refine lv_aload_n hx hb (D_42 W_prog_10_method_14_code_0 24 rfl rfl) rfl (lv_at hl 2 rfl) ?_
  refine zget (ci := 8) (C := RX8) (T := TX8) (v := .int (iI (F5 8 l0 7))) (k := 7) hx hb hts inW_8 hown hK hZ5 g1.1 g1.2 rfl (by decide) k_7_231 rfl (D_180 W_prog_10_method_14_code_0 25 rfl rfl rfl) ?_
  obtain ⟨g6, hf⟩ := gif hf
  refine z0eq (tgt := 32) hx hb g6 (D_153 W_prog_10_method_14_code_0 28 rfl rfl rfl) (by decide) (fun h7 => ?_) (fun h7 => ?_)
  · replace hf := gpos hf h7
    refine lv_iload_n hx hb (D_29 W_prog_10_method_14_code_32 0 rfl rfl) rfl (lv_at hl 0 rfl) ?_
    refine lv_sipush (v := iI 255) hx hb (D_17 W_prog_10_method_14_code_32 1 rfl rfl rfl) (by decide) ?_
    obtain ⟨g8, hf⟩ := gif hf
    refine zne (tgt := 51) hx hb g8 (by decide) (D_160 W_prog_10_method_14_code_32 4 rfl rfl rfl) (by decide) (fun h9 => ?_) (fun h9 => ?_)
    · replace hf := gneg hf h9
      refine lv_iload_n hx hb (D_29 W_prog_10_method_14_code_32 19 rfl rfl) rfl (lv_at hl 0 rfl) ?_
      refine lv_sipush (v := iI 240) hx hb (D_17 W_prog_10_method_14_code_32 20 rfl rfl rfl) (by decide) ?_
      refine zeq (tgt := 65) hx hb g8 (by decide) (D_159 W_prog_10_method_14_code_32 23 rfl rfl rfl) (by decide) (fun h10 => ?_) (fun h10 => ?_)
      · replace hf := gpos hf h10
        exact b_SoundFile_loadEvent_65 X hf hZ5 hS5 (lv_sub hl [2] rfl)
      · replace hf := gneg hf h10
        refine lv_iload_n hx hb (D_29 W_prog_10_method_14_code_32 26 rfl rfl) rfl (lv_at hl 0 rfl) ?_
        refine lv_sipush (v := iI 247) hx hb (D_17 W_prog_10_method_14_code_32 27 rfl rfl rfl) (by decide) ?_
        refine zne (tgt := 82) hx hb g8 (by decide) (D_160 W_prog_10_method_14_code_32 30 rfl rfl rfl) (by decide) (fun h11 => ?_) (fun h11 => ?_)
        · replace hf := gneg hf h11
          refine lv_iload_n hx hb (D_29 W_prog_10_method_14_code_64 18 rfl rfl) rfl (lv_at hl 0 rfl) ?_
          refine lv_sipush (v := iI 240) hx hb (D_17 W_prog_10_method_14_code_64 19 rfl rfl rfl) (by decide) ?_
          refine zge (tgt := 103) hx hb g8 (by decide) (D_162 W_prog_10_method_14_code_64 22 rfl rfl rfl) (by decide) (fun h12 => ?_) (fun h12 => ?_)
          · replace hf := gpos hf h12
            exact b_SoundFile_loadEvent_103 X hf hZ5 hS5 (lv_sub hl [1, 2] rfl)
          · replace hf := gneg hf h12
            refine lv_iload_n hx hb (D_29 W_prog_10_method_14_code_64 25 rfl rfl) rfl (lv_at hl 0 rfl) ?_
            refine lv_sipush (v := iI 128) hx hb (D_17 W_prog_10_method_14_code_64 26 rfl rfl rfl) (by decide) ?_
            refine zge (tgt := 112) hx hb g8 (by decide) (D_162 W_prog_10_method_14_code_64 29 rfl rfl rfl) (by decide) (fun h13 => ?_) (fun h13 => ?_)
            · replace hf := gpos hf h13
              exact b_SoundFile_loadEvent_112 X hf hZ5 hS5 (lv_sub hl [0, 1, 2, 3] rfl)
            · replace hf := gneg hf h13
              refine lv_aload_n hx hb (D_42 W_prog_10_method_14_code_96 0 rfl rfl) rfl (lv_at hl 2 rfl) ?_
              refine zget (ci := 8) (C := RX8) (T := TX8) (v := .int (iI (F5 8 l0 9))) (k := 9) hx hb hts inW_8 hown hK hZ5 g1.1 g1.2 rfl (by decide) k_7_233 rfl (D_180 W_prog_10_method_14_code_96 1 rfl rfl rfl) ?_
              obtain ⟨g14, hf⟩ := gif hf
              refine z0ne (tgt := 112) hx hb g14 (D_154 W_prog_10_method_14_code_96 4 rfl rfl rfl) (by decide) (fun h15 => ?_) (fun h15 => ?_)
              · replace hf := gneg hf h15
                exact b_SoundFile_loadEvent_112 X hf hZ5 hS5 (lv_sub hl [0, 1, 2, 3] rfl)
              · replace hf := gpos hf h15
                exact b_SoundFile_loadEvent_103 X hf hZ5 hS5 (lv_sub hl [1, 2] rfl)
        · replace hf := gpos hf h11
          exact b_SoundFile_loadEvent_65 X hf hZ5 hS5 (lv_sub hl [2] rfl)
    · replace hf := gpos hf h9
      refine lv_aload_n hx hb (D_42 W_prog_10_method_14_code_32 7 rfl rfl) rfl (lv_at hl 2 rfl) ?_
      refine lv_iconst (v := iI 0) hx hb (D_3 W_prog_10_method_14_code_32 8 rfl rfl) rfl ?_
      refine zput (ci := 8) (C := RX8) (T := TX8) (k := 9) (v := 0) (w := .int (iI 0)) hx hb hts inW_8 tyX8 tyX8_ok nmX8 hown hK hZ5 hS5 g1.1 g1.2 rfl (by decide) k_7_233 rfl (fun G h => congrArg (fun q => Value.int (iI q)) h) rfl rfl (zno (by decide)) (D_181 W_prog_10_method_14_code_32 9 rfl rfl rfl) (fun H16 locs16 hZ16 hS16 => ?_)
      refine lv_aload_n hx hb (D_42 W_prog_10_method_14_code_32 12 rfl rfl) rfl (lv_at hl 2 rfl) ?_
      obtain ⟨r17, F17, B17, hc17, hf⟩ := gbind hf
      refine va_callv (va_runV (As := []) (rest := []) ⟨hx, hb, hml, hown, hts⟩ (c_SoundFile_loadMeta (l := l) hc17) (cwV 0 hts (gdV k_8_88 k_8_90 ks_103 k_1_23 k_8_91) rfl rfl rfl (by decide +kernel) ⟨Nat.le_of_ble_eq_true rfl, Nat.le_of_ble_eq_true rfl⟩) (zPV X hZ16 hS16 (ci := 8) g1.1 g1.2 (r := (RX8, TX8, 15)) rfl []) rfl rfl hl.1 rfl (lv_room (Nat.le_of_ble_eq_true rfl)) (D_182 W_prog_10_method_14_code_32 13 rfl rfl rfl) ⟨Nat.le_of_ble_eq_true rfl, Nat.le_of_ble_eq_true rfl⟩) hS16 (fun q _ h => zAin X hS16 q h) (zAin X hS16) (fun u17 t17 H17 locs17 ht17 hv17 hw17 hB17 hz17 hk17 hS17 => ?_)
      have hZ17 := zBack X ht17 hB17
      refine lv_goto (tgt := 141) hx hb (D_167 W_prog_10_method_14_code_32 16 rfl rfl rfl) (by decide) ?_
      exact b_SoundFile_loadEvent_141 X hf hZ17 hS17 (lv_sub hl [] rfl)
  · replace hf := gneg hf h7
    cases hf
    exact W.vret hx hb hr (fun t ht hW => ⟨⟨(), rfl, trivial, by rw [ht]; exact hZ5, va_K.moved hW.alike hK⟩, hS5.F ht⟩) hS5.2.2 (D_177 W_prog_10_method_14_code_0 31 rfl rfl) hlk

abbrev Q_Scribe_writeHead (K : zK) (D : va_G) (ca : Nat → ClassId) (ad : Nat → Int → Nat → Nat) (L : List Nat) (r : Int) (F : zF) (B : zB) (A : Nat → Prop) : Array Value → State → Outcome → State → Prop := va_Qv (S := Unit) (fun _ => True) (fun _ => zPo D ca ad lnC K.2 L F B A) A
def f_Scribe_writeHead_63 (K : zK) (l0 : Int) (s0 : Int) (s1 : Nat) (F : zF) (B : zB) : zO := if 0 ≤ s0 ∧ s0 < K.2 0 then zbind (f_ByteRow_putText K s0 s1 F B) (fun r15 F15 B15 => if 0 ≤ l0 ∧ l0 < K.2 7 then if 0 ≤ (F15 7 l0 0) ∧ (F15 7 l0 0) < K.2 8 then if 0 ≤ (F15 7 l0 1) ∧ (F15 7 l0 1) < K.2 0 then zbind (f_ByteRow_putDecimal K (F15 7 l0 1) (B15 8 (F15 7 l0 0) 0 4) F15 B15) (fun r19 F19 B19 => if 0 ≤ (F19 7 l0 1) ∧ (F19 7 l0 1) < K.2 0 then zbind (f_ByteRow_put K (F19 7 l0 1) 47 F19 B19) (fun r21 F21 B21 => if 0 ≤ (F21 7 l0 0) ∧ (F21 7 l0 0) < K.2 8 then if 0 ≤ (F21 7 l0 1) ∧ (F21 7 l0 1) < K.2 0 then zbind (f_ByteRow_putDecimal K (F21 7 l0 1) (B21 8 (F21 7 l0 0) 0 5) F21 B21) (fun r24 F24 B24 => if 0 ≤ (F24 7 l0 1) ∧ (F24 7 l0 1) < K.2 0 then zbind (f_ByteRow_putText K (F24 7 l0 1) 7 F24 B24) (fun r26 F26 B26 => if 0 ≤ (F26 7 l0 0) ∧ (F26 7 l0 0) < K.2 8 then if 0 ≤ (F26 7 l0 1) ∧ (F26 7 l0 1) < K.2 0 then zbind (f_ByteRow_putDecimal K (F26 7 l0 1) (B26 8 (F26 7 l0 0) 0 6) F26 B26) (fun r29 F29 B29 => if 0 ≤ (F29 7 l0 1) ∧ (F29 7 l0 1) < K.2 0 then zbind (f_ByteRow_put K (F29 7 l0 1) 10 F29 B29) (fun r31 F31 B31 => some (0, F31, B31)) else none) else none else none) else none) else none else none) else none) else none else none else none) else none
set_option maxHeartbeats 4000000 in
set_option maxRecDepth 100000 in
theorem b_Scribe_writeHead_63 {D : va_G} {ca : Nat → ClassId} {ad : Nat → Int → Nat → Nat} {L : List Nat} {aS vS : Nat → Nat} {A : Nat → Prop} {p : Program} {l : Launch} {e : Env} {s : State} {m : MethodId} {args : Array Value} {below : List Frame} {meth : Method} {c : Code} {K : zK} {r : Int} {F9 : zF} {B9 : zB} (X : zX D ca L aS vS A p s m args meth c prog_9_method_9_code 2 (Option.none : Option Jvm.ClassFile.FieldType) "StaveHouse$Scribe") {l0 : Int} {s0 : Int} {s1 : Nat} {F : zF} {B : zB} {H : Heap} {locs : List Loc} {ls : Array Slot} (hf : f_Scribe_writeHead_63 K l0 s0 s1 F B = some (r, F9, B9)) (hZ : zH D ca ad lnC K.2 L F B A H) (hS : va_S A s.heap H locs) (hl : lv_has ls 2 [(0, .ref (ad 7 l0 0))]) : W p l e ({ frames := 5, cells := 0, slots := 0, locals := 107 } : Room) s m args below meth c H locs 0 0 (MQ below (Q_Scribe_writeHead K D ca ad L r F9 B9 A) args s 0 0 A) (F0 m 63 ls [.ref (aS s1), va_rf (zrf ad 0 s0)]) := by
  obtain ⟨hx, hb, hr, hml, hown, hts, hlk, hK, hA, hL, hX⟩ := id X
  replace hf : (if 0 ≤ s0 ∧ s0 < K.2 0 then zbind (f_ByteRow_putText K s0 s1 F B) (fun r15 F15 B15 => if 0 ≤ l0 ∧ l0 < K.2 7 then if 0 ≤ (F15 7 l0 0) ∧ (F15 7 l0 0) < K.2 8 then if 0 ≤ (F15 7 l0 1) ∧ (F15 7 l0 1) < K.2 0 then zbind (f_ByteRow_putDecimal K (F15 7 l0 1) (B15 8 (F15 7 l0 0) 0 4) F15 B15) (fun r19 F19 B19 => if 0 ≤ (F19 7 l0 1) ∧ (F19 7 l0 1) < K.2 0 then zbind (f_ByteRow_put K (F19 7 l0 1) 47 F19 B19) (fun r21 F21 B21 => if 0 ≤ (F21 7 l0 0) ∧ (F21 7 l0 0) < K.2 8 then if 0 ≤ (F21 7 l0 1) ∧ (F21 7 l0 1) < K.2 0 then zbind (f_ByteRow_putDecimal K (F21 7 l0 1) (B21 8 (F21 7 l0 0) 0 5) F21 B21) (fun r24 F24 B24 => if 0 ≤ (F24 7 l0 1) ∧ (F24 7 l0 1) < K.2 0 then zbind (f_ByteRow_putText K (F24 7 l0 1) 7 F24 B24) (fun r26 F26 B26 => if 0 ≤ (F26 7 l0 0) ∧ (F26 7 l0 0) < K.2 8 then if 0 ≤ (F26 7 l0 1) ∧ (F26 7 l0 1) < K.2 0 then zbind (f_ByteRow_putDecimal K (F26 7 l0 1) (B26 8 (F26 7 l0 0) 0 6) F26 B26) (fun r29 F29 B29 => if 0 ≤ (F29 7 l0 1) ∧ (F29 7 l0 1) < K.2 0 then zbind (f_ByteRow_put K (F29 7 l0 1) 10 F29 B29) (fun r31 F31 B31 => some (0, F31, B31)) else none) else none else none) else none) else none else none) else none) else none else none else none) else none) = some (r, F9, B9) := hf
  obtain ⟨g14, hf⟩ := gif hf
  refine W.eq (g2 := F0 m 63 ls [.ref (aS s1), .ref (ad 0 s0 0)]) (by rw [zrf_pos (ad := ad) (t := 0) g14.1]; try rfl) ?_
  obtain ⟨r15, F15, B15, hc15, hf⟩ := gbind hf
  refine va_callv (va_runV (As := [.ref (aS s1)]) (rest := []) ⟨hx, hb, hml, hown, hts⟩ (c_ByteRow_putText (l := l) hc15) (cwV 1 hts (gdV k_8_172 k_7_129 k_7_130 k_1_2 k_7_131) rfl rfl rfl (by decide +kernel) ⟨Nat.le_of_ble_eq_true rfl, Nat.le_of_ble_eq_true rfl⟩) (zPV X hZ hS (ci := 0) g14.1 g14.2 (r := (RX0, TX0, 3)) rfl [.ref (aS s1)]) rfl rfl hl.1 rfl (lv_room (Nat.le_of_ble_eq_true rfl)) (D_182 W_prog_9_method_9_code_32 31 rfl rfl rfl) ⟨Nat.le_of_ble_eq_true rfl, Nat.le_of_ble_eq_true rfl⟩) hS (fun q _ h => zAin X hS q h) (zAin X hS) (fun u15 t15 H15 locs15 ht15 hv15 hw15 hB15 hz15 hk15 hS15 => ?_)
  have hZ15 := zBack X ht15 hB15
  refine lv_aload_n hx hb (D_42 W_prog_9_method_9_code_64 2 rfl rfl) rfl (lv_at hl 0 rfl) ?_
  obtain ⟨g16, hf⟩ := gif hf
  refine zget (ci := 7) (C := RX7) (T := TX7) (v := va_rf (zrf ad 0 (F15 7 l0 1))) (k := 1) hx hb hts inW_7 hown hK hZ15 g16.1 g16.2 rfl (by decide) k_2_99 rfl (D_180 W_prog_9_method_9_code_64 3 rfl rfl rfl) ?_
  refine lv_aload_n hx hb (D_42 W_prog_9_method_9_code_64 6 rfl rfl) rfl (lv_at hl 0 rfl) ?_
  refine zget (ci := 7) (C := RX7) (T := TX7) (v := va_rf (zrf ad 8 (F15 7 l0 0))) (k := 0) hx hb hts inW_7 hown hK hZ15 g16.1 g16.2 rfl (by decide) k_2_98 rfl (D_180 W_prog_9_method_9_code_64 7 rfl rfl rfl) ?_
  obtain ⟨g17, hf⟩ := gif hf
  refine zunrf g17.1 ?_
  refine zget (ci := 8) (C := RX8) (T := TX8) (v := .ref (ad 8 (F15 7 l0 0) (0 + 1))) (k := 0) hx hb hts inW_8 hown hK hZ15 g17.1 g17.2 rfl (by decide) k_7_218 rfl (D_180 W_prog_9_method_9_code_64 10 rfl rfl rfl) ?_
  refine lv_iconst (v := iI 4) hx hb (D_7 W_prog_9_method_9_code_64 13 rfl rfl) rfl ?_
  refine zald (ci := 8) (k := 0) hx hb hK rfl hZ15 g17.1 g17.2 rfl (Nat.le_of_ble_eq_true rfl) (by decide) (show (4 : Int) < 7 by decide) (D_46 W_prog_9_method_9_code_64 14 rfl rfl) ?_
  obtain ⟨g18, hf⟩ := gif hf
  refine W.eq (g2 := F0 m 79 ls [.int (iI (B15 8 (F15 7 l0 0) 0 4)), .ref (ad 0 (F15 7 l0 1) 0)]) (by rw [zrf_pos (ad := ad) (t := 0) g18.1]; try rfl) ?_
  obtain ⟨r19, F19, B19, hc19, hf⟩ := gbind hf
  refine va_callv (va_runV (As := [.int (iI (B15 8 (F15 7 l0 0) 0 4))]) (rest := []) ⟨hx, hb, hml, hown, hts⟩ (c_ByteRow_putDecimal (l := l) hc19) (cwV 1 hts (gdV k_8_174 k_8_175 k_8_176 k_1_2 k_8_177) rfl rfl rfl (by decide +kernel) ⟨Nat.le_of_ble_eq_true rfl, Nat.le_of_ble_eq_true rfl⟩) (zPV X hZ15 hS15 (ci := 0) g18.1 g18.2 (r := (RX0, TX0, 3)) rfl [.int (iI (B15 8 (F15 7 l0 0) 0 4))]) rfl rfl hl.1 rfl (lv_room (Nat.le_of_ble_eq_true rfl)) (D_182 W_prog_9_method_9_code_64 15 rfl rfl rfl) ⟨Nat.le_of_ble_eq_true rfl, Nat.le_of_ble_eq_true rfl⟩) hS15 (fun q _ h => zAin X hS15 q h) (zAin X hS15) (fun u19 t19 H19 locs19 ht19 hv19 hw19 hB19 hz19 hk19 hS19 => ?_)
  have hZ19 := zBack X ht19 hB19
  refine lv_aload_n hx hb (D_42 W_prog_9_method_9_code_64 18 rfl rfl) rfl (lv_at hl 0 rfl) ?_
  refine zget (ci := 7) (C := RX7) (T := TX7) (v := va_rf (zrf ad 0 (F19 7 l0 1))) (k := 1) hx hb hts inW_7 hown hK hZ19 g16.1 g16.2 rfl (by decide) k_2_99 rfl (D_180 W_prog_9_method_9_code_64 19 rfl rfl rfl) ?_
  refine lv_bipush (v := iI 47) hx hb (D_16 W_prog_9_method_9_code_64 22 rfl rfl rfl) (by decide) ?_
  obtain ⟨g20, hf⟩ := gif hf
  refine W.eq (g2 := F0 m 88 ls [.int (iI 47), .ref (ad 0 (F19 7 l0 1) 0)]) (by rw [zrf_pos (ad := ad) (t := 0) g20.1]; try rfl) ?_
  obtain ⟨r21, F21, B21, hc21, hf⟩ := gbind hf
  refine va_callv (va_runV (As := [.int (iI 47)]) (rest := []) ⟨hx, hb, hml, hown, hts⟩ (c_ByteRow_put (l := l) hc21) (cwV 1 hts (gdV k_8_180 k_2_171 k_2_172 k_1_2 k_2_173) rfl rfl rfl (by decide +kernel) ⟨Nat.le_of_ble_eq_true rfl, Nat.le_of_ble_eq_true rfl⟩) (zPV X hZ19 hS19 (ci := 0) g20.1 g20.2 (r := (RX0, TX0, 3)) rfl [.int (iI 47)]) rfl rfl hl.1 rfl (lv_room (Nat.le_of_ble_eq_true rfl)) (D_182 W_prog_9_method_9_code_64 24 rfl rfl rfl) ⟨Nat.le_of_ble_eq_true rfl, Nat.le_of_ble_eq_true rfl⟩) hS19 (fun q _ h => zAin X hS19 q h) (zAin X hS19) (fun u21 t21 H21 locs21 ht21 hv21 hw21 hB21 hz21 hk21 hS21 => ?_)
  have hZ21 := zBack X ht21 hB21
  refine lv_aload_n hx hb (D_42 W_prog_9_method_9_code_64 27 rfl rfl) rfl (lv_at hl 0 rfl) ?_
  refine zget (ci := 7) (C := RX7) (T := TX7) (v := va_rf (zrf ad 0 (F21 7 l0 1))) (k := 1) hx hb hts inW_7 hown hK hZ21 g16.1 g16.2 rfl (by decide) k_2_99 rfl (D_180 W_prog_9_method_9_code_64 28 rfl rfl rfl) ?_
  refine lv_aload_n hx hb (D_42 W_prog_9_method_9_code_64 31 rfl rfl) rfl (lv_at hl 0 rfl) ?_
  refine zget (ci := 7) (C := RX7) (T := TX7) (v := va_rf (zrf ad 8 (F21 7 l0 0))) (k := 0) hx hb hts inW_7 hown hK hZ21 g16.1 g16.2 rfl (by decide) k_2_98 rfl (D_180 W_prog_9_method_9_code_96 0 rfl rfl rfl) ?_
  obtain ⟨g22, hf⟩ := gif hf
  refine zunrf g22.1 ?_
  refine zget (ci := 8) (C := RX8) (T := TX8) (v := .ref (ad 8 (F21 7 l0 0) (0 + 1))) (k := 0) hx hb hts inW_8 hown hK hZ21 g22.1 g22.2 rfl (by decide) k_7_218 rfl (D_180 W_prog_9_method_9_code_96 3 rfl rfl rfl) ?_
  refine lv_iconst (v := iI 5) hx hb (D_8 W_prog_9_method_9_code_96 6 rfl rfl) rfl ?_
  refine zald (ci := 8) (k := 0) hx hb hK rfl hZ21 g22.1 g22.2 rfl (Nat.le_of_ble_eq_true rfl) (by decide) (show (5 : Int) < 7 by decide) (D_46 W_prog_9_method_9_code_96 7 rfl rfl) ?_
  obtain ⟨g23, hf⟩ := gif hf
  refine W.eq (g2 := F0 m 104 ls [.int (iI (B21 8 (F21 7 l0 0) 0 5)), .ref (ad 0 (F21 7 l0 1) 0)]) (by rw [zrf_pos (ad := ad) (t := 0) g23.1]; try rfl) ?_
  obtain ⟨r24, F24, B24, hc24, hf⟩ := gbind hf
  refine va_callv (va_runV (As := [.int (iI (B21 8 (F21 7 l0 0) 0 5))]) (rest := []) ⟨hx, hb, hml, hown, hts⟩ (c_ByteRow_putDecimal (l := l) hc24) (cwV 1 hts (gdV k_8_174 k_8_175 k_8_176 k_1_2 k_8_177) rfl rfl rfl (by decide +kernel) ⟨Nat.le_of_ble_eq_true rfl, Nat.le_of_ble_eq_true rfl⟩) (zPV X hZ21 hS21 (ci := 0) g23.1 g23.2 (r := (RX0, TX0, 3)) rfl [.int (iI (B21 8 (F21 7 l0 0) 0 5))]) rfl rfl hl.1 rfl (lv_room (Nat.le_of_ble_eq_true rfl)) (D_182 W_prog_9_method_9_code_96 8 rfl rfl rfl) ⟨Nat.le_of_ble_eq_true rfl, Nat.le_of_ble_eq_true rfl⟩) hS21 (fun q _ h => zAin X hS21 q h) (zAin X hS21) (fun u24 t24 H24 locs24 ht24 hv24 hw24 hB24 hz24 hk24 hS24 => ?_)
  have hZ24 := zBack X ht24 hB24
  refine lv_aload_n hx hb (D_42 W_prog_9_method_9_code_96 11 rfl rfl) rfl (lv_at hl 0 rfl) ?_
  refine zget (ci := 7) (C := RX7) (T := TX7) (v := va_rf (zrf ad 0 (F24 7 l0 1))) (k := 1) hx hb hts inW_7 hown hK hZ24 g16.1 g16.2 rfl (by decide) k_2_99 rfl (D_180 W_prog_9_method_9_code_96 12 rfl rfl rfl) ?_
  refine va_ldcS hx hb hown (hX.2.2.2.2.1 7 _ rfl).1 (D_18 W_prog_9_method_9_code_96 15 rfl rfl) ?_
  obtain ⟨g25, hf⟩ := gif hf
  refine W.eq (g2 := F0 m 113 ls [.ref (aS 7), .ref (ad 0 (F24 7 l0 1) 0)]) (by rw [zrf_pos (ad := ad) (t := 0) g25.1]; try rfl) ?_
  obtain ⟨r26, F26, B26, hc26, hf⟩ := gbind hf
  refine va_callv (va_runV (As := [.ref (aS 7)]) (rest := []) ⟨hx, hb, hml, hown, hts⟩ (c_ByteRow_putText (l := l) hc26) (cwV 1 hts (gdV k_8_172 k_7_129 k_7_130 k_1_2 k_7_131) rfl rfl rfl (by decide +kernel) ⟨Nat.le_of_ble_eq_true rfl, Nat.le_of_ble_eq_true rfl⟩) (zPV X hZ24 hS24 (ci := 0) g25.1 g25.2 (r := (RX0, TX0, 3)) rfl [.ref (aS 7)]) rfl rfl hl.1 rfl (lv_room (Nat.le_of_ble_eq_true rfl)) (D_182 W_prog_9_method_9_code_96 17 rfl rfl rfl) ⟨Nat.le_of_ble_eq_true rfl, Nat.le_of_ble_eq_true rfl⟩) hS24 (fun q _ h => zAin X hS24 q h) (zAin X hS24) (fun u26 t26 H26 locs26 ht26 hv26 hw26 hB26 hz26 hk26 hS26 => ?_)
  have hZ26 := zBack X ht26 hB26
  refine lv_aload_n hx hb (D_42 W_prog_9_method_9_code_96 20 rfl rfl) rfl (lv_at hl 0 rfl) ?_
  refine zget (ci := 7) (C := RX7) (T := TX7) (v := va_rf (zrf ad 0 (F26 7 l0 1))) (k := 1) hx hb hts inW_7 hown hK hZ26 g16.1 g16.2 rfl (by decide) k_2_99 rfl (D_180 W_prog_9_method_9_code_96 21 rfl rfl rfl) ?_
  refine lv_aload_n hx hb (D_42 W_prog_9_method_9_code_96 24 rfl rfl) rfl (lv_at hl 0 rfl) ?_
  refine zget (ci := 7) (C := RX7) (T := TX7) (v := va_rf (zrf ad 8 (F26 7 l0 0))) (k := 0) hx hb hts inW_7 hown hK hZ26 g16.1 g16.2 rfl (by decide) k_2_98 rfl (D_180 W_prog_9_method_9_code_96 25 rfl rfl rfl) ?_
  obtain ⟨g27, hf⟩ := gif hf
  refine zunrf g27.1 ?_
  refine zget (ci := 8) (C := RX8) (T := TX8) (v := .ref (ad 8 (F26 7 l0 0) (0 + 1))) (k := 0) hx hb hts inW_8 hown hK hZ26 g27.1 g27.2 rfl (by decide) k_7_218 rfl (D_180 W_prog_9_method_9_code_96 28 rfl rfl rfl) ?_
  refine lv_bipush (v := iI 6) hx hb (D_16 W_prog_9_method_9_code_96 31 rfl rfl rfl) (by decide) ?_
  refine zald (ci := 8) (k := 0) hx hb hK rfl hZ26 g27.1 g27.2 rfl (Nat.le_of_ble_eq_true rfl) (by decide) (show (6 : Int) < 7 by decide) (D_46 W_prog_9_method_9_code_128 1 rfl rfl) ?_
  obtain ⟨g28, hf⟩ := gif hf
  refine W.eq (g2 := F0 m 130 ls [.int (iI (B26 8 (F26 7 l0 0) 0 6)), .ref (ad 0 (F26 7 l0 1) 0)]) (by rw [zrf_pos (ad := ad) (t := 0) g28.1]; try rfl) ?_
  obtain ⟨r29, F29, B29, hc29, hf⟩ := gbind hf
  refine va_callv (va_runV (As := [.int (iI (B26 8 (F26 7 l0 0) 0 6))]) (rest := []) ⟨hx, hb, hml, hown, hts⟩ (c_ByteRow_putDecimal (l := l) hc29) (cwV 1 hts (gdV k_8_174 k_8_175 k_8_176 k_1_2 k_8_177) rfl rfl rfl (by decide +kernel) ⟨Nat.le_of_ble_eq_true rfl, Nat.le_of_ble_eq_true rfl⟩) (zPV X hZ26 hS26 (ci := 0) g28.1 g28.2 (r := (RX0, TX0, 3)) rfl [.int (iI (B26 8 (F26 7 l0 0) 0 6))]) rfl rfl hl.1 rfl (lv_room (Nat.le_of_ble_eq_true rfl)) (D_182 W_prog_9_method_9_code_128 2 rfl rfl rfl) ⟨Nat.le_of_ble_eq_true rfl, Nat.le_of_ble_eq_true rfl⟩) hS26 (fun q _ h => zAin X hS26 q h) (zAin X hS26) (fun u29 t29 H29 locs29 ht29 hv29 hw29 hB29 hz29 hk29 hS29 => ?_)
  have hZ29 := zBack X ht29 hB29
  refine lv_aload_n hx hb (D_42 W_prog_9_method_9_code_128 5 rfl rfl) rfl (lv_at hl 0 rfl) ?_
  refine zget (ci := 7) (C := RX7) (T := TX7) (v := va_rf (zrf ad 0 (F29 7 l0 1))) (k := 1) hx hb hts inW_7 hown hK hZ29 g16.1 g16.2 rfl (by decide) k_2_99 rfl (D_180 W_prog_9_method_9_code_128 6 rfl rfl rfl) ?_
  refine lv_bipush (v := iI 10) hx hb (D_16 W_prog_9_method_9_code_128 9 rfl rfl rfl) (by decide) ?_
  obtain ⟨g30, hf⟩ := gif hf
  refine W.eq (g2 := F0 m 139 ls [.int (iI 10), .ref (ad 0 (F29 7 l0 1) 0)]) (by rw [zrf_pos (ad := ad) (t := 0) g30.1]; try rfl) ?_
  obtain ⟨r31, F31, B31, hc31, hf⟩ := gbind hf
  refine va_callv (va_runV (As := [.int (iI 10)]) (rest := []) ⟨hx, hb, hml, hown, hts⟩ (c_ByteRow_put (l := l) hc31) (cwV 1 hts (gdV k_8_180 k_2_171 k_2_172 k_1_2 k_2_173) rfl rfl rfl (by decide +kernel) ⟨Nat.le_of_ble_eq_true rfl, Nat.le_of_ble_eq_true rfl⟩) (zPV X hZ29 hS29 (ci := 0) g30.1 g30.2 (r := (RX0, TX0, 3)) rfl [.int (iI 10)]) rfl rfl hl.1 rfl (lv_room (Nat.le_of_ble_eq_true rfl)) (D_182 W_prog_9_method_9_code_128 11 rfl rfl rfl) ⟨Nat.le_of_ble_eq_true rfl, Nat.le_of_ble_eq_true rfl⟩) hS29 (fun q _ h => zAin X hS29 q h) (zAin X hS29) (fun u31 t31 H31 locs31 ht31 hv31 hw31 hB31 hz31 hk31 hS31 => ?_)
  have hZ31 := zBack X ht31 hB31
  cases hf
  exact W.vret hx hb hr (fun t ht hW => ⟨⟨(), rfl, trivial, by rw [ht]; exact hZ31, va_K.moved hW.alike hK⟩, hS31.F ht⟩) hS31.2.2 (D_177 W_prog_9_method_9_code_128 14 rfl rfl) hlk

def f_Scribe_writeHead_25 (K : zK) (l1 : Int) (l0 : Int) (s0 : Int) (s1 : Nat) (F : zF) (B : zB) : zO := if 0 ≤ s0 ∧ s0 < K.2 0 then zbind (f_ByteRow_putText K s0 s1 F B) (fun r6 F6 B6 => if 0 ≤ l0 ∧ l0 < K.2 7 then if 0 ≤ (F6 7 l0 1) ∧ (F6 7 l0 1) < K.2 0 then if r32 l1 then zbind (f_ByteRow_putDecimal K (F6 7 l0 1) (zabs l1) F6 B6) (fun r10 F10 B10 => if 0 ≤ (F10 7 l0 0) ∧ (F10 7 l0 0) < K.2 8 then if r32 (B10 8 (F10 7 l0 0) 0 3) then (if (B10 8 (F10 7 l0 0) 0 3) = 1 then f_Scribe_writeHead_63 K l0 (F10 7 l0 1) 5 F10 B10 else f_Scribe_writeHead_63 K l0 (F10 7 l0 1) 6 F10 B10) else none else none) else none else none else none) else none
set_option maxHeartbeats 4000000 in
set_option maxRecDepth 100000 in
theorem b_Scribe_writeHead_25 {D : va_G} {ca : Nat → ClassId} {ad : Nat → Int → Nat → Nat} {L : List Nat} {aS vS : Nat → Nat} {A : Nat → Prop} {p : Program} {l : Launch} {e : Env} {s : State} {m : MethodId} {args : Array Value} {below : List Frame} {meth : Method} {c : Code} {K : zK} {r : Int} {F9 : zF} {B9 : zB} (X : zX D ca L aS vS A p s m args meth c prog_9_method_9_code 2 (Option.none : Option Jvm.ClassFile.FieldType) "StaveHouse$Scribe") {l1 : Int} {l0 : Int} {s0 : Int} {s1 : Nat} {F : zF} {B : zB} {H : Heap} {locs : List Loc} {ls : Array Slot} (hf : f_Scribe_writeHead_25 K l1 l0 s0 s1 F B = some (r, F9, B9)) (hZ : zH D ca ad lnC K.2 L F B A H) (hS : va_S A s.heap H locs) (hl : lv_has ls 2 [(1, .int (iI l1)), (0, .ref (ad 7 l0 0))]) : W p l e ({ frames := 5, cells := 0, slots := 0, locals := 107 } : Room) s m args below meth c H locs 0 0 (MQ below (Q_Scribe_writeHead K D ca ad L r F9 B9 A) args s 0 0 A) (F0 m 25 ls [.ref (aS s1), va_rf (zrf ad 0 s0)]) := by
  obtain ⟨hx, hb, hr, hml, hown, hts, hlk, hK, hA, hL, hX⟩ := id X
  replace hf : (if 0 ≤ s0 ∧ s0 < K.2 0 then zbind (f_ByteRow_putText K s0 s1 F B) (fun r6 F6 B6 => if 0 ≤ l0 ∧ l0 < K.2 7 then if 0 ≤ (F6 7 l0 1) ∧ (F6 7 l0 1) < K.2 0 then if r32 l1 then zbind (f_ByteRow_putDecimal K (F6 7 l0 1) (zabs l1) F6 B6) (fun r10 F10 B10 => if 0 ≤ (F10 7 l0 0) ∧ (F10 7 l0 0) < K.2 8 then if r32 (B10 8 (F10 7 l0 0) 0 3) then (if (B10 8 (F10 7 l0 0) 0 3) = 1 then f_Scribe_writeHead_63 K l0 (F10 7 l0 1) 5 F10 B10 else f_Scribe_writeHead_63 K l0 (F10 7 l0 1) 6 F10 B10) else none else none) else none else none else none) else none) = some (r, F9, B9) := hf
  obtain ⟨g5, hf⟩ := gif hf
  refine W.eq (g2 := F0 m 25 ls [.ref (aS s1), .ref (ad 0 s0 0)]) (by rw [zrf_pos (ad := ad) (t := 0) g5.1]; try rfl) ?_
  obtain ⟨r6, F6, B6, hc6, hf⟩ := gbind hf
  refine va_callv (va_runV (As := [.ref (aS s1)]) (rest := []) ⟨hx, hb, hml, hown, hts⟩ (c_ByteRow_putText (l := l) hc6) (cwV 1 hts (gdV k_8_172 k_7_129 k_7_130 k_1_2 k_7_131) rfl rfl rfl (by decide +kernel) ⟨Nat.le_of_ble_eq_true rfl, Nat.le_of_ble_eq_true rfl⟩) (zPV X hZ hS (ci := 0) g5.1 g5.2 (r := (RX0, TX0, 3)) rfl [.ref (aS s1)]) rfl rfl hl.1 rfl (lv_room (Nat.le_of_ble_eq_true rfl)) (D_182 W_prog_9_method_9_code_0 25 rfl rfl rfl) ⟨Nat.le_of_ble_eq_true rfl, Nat.le_of_ble_eq_true rfl⟩) hS (fun q _ h => zAin X hS q h) (zAin X hS) (fun u6 t6 H6 locs6 ht6 hv6 hw6 hB6 hz6 hk6 hS6 => ?_)
  have hZ6 := zBack X ht6 hB6
  refine lv_aload_n hx hb (D_42 W_prog_9_method_9_code_0 28 rfl rfl) rfl (lv_at hl 1 rfl) ?_
  obtain ⟨g7, hf⟩ := gif hf
  refine zget (ci := 7) (C := RX7) (T := TX7) (v := va_rf (zrf ad 0 (F6 7 l0 1))) (k := 1) hx hb hts inW_7 hown hK hZ6 g7.1 g7.2 rfl (by decide) k_2_99 rfl (D_180 W_prog_9_method_9_code_0 29 rfl rfl rfl) ?_
  refine lv_iload_n hx hb (D_27 W_prog_9_method_9_code_32 0 rfl rfl) rfl (lv_at hl 0 rfl) ?_
  obtain ⟨g8, hf⟩ := gif hf
  refine W.eq (g2 := F0 m 33 ls [.int (iI l1), .ref (ad 0 (F6 7 l0 1) 0)]) (by rw [zrf_pos (ad := ad) (t := 0) g8.1]; try rfl) ?_
  obtain ⟨g9, hf⟩ := gif hf
  refine va_mabs hx hb (by rw [hml]; exact hl.1.symm) hown (hts _ k_8_173) (hts _ k_4_229) (hts _ k_1_3) (hts _ k_4_230) (Nat.le_of_ble_eq_true rfl) (Nat.le_of_ble_eq_true rfl) (Nat.le_of_ble_eq_true rfl) (Nat.le_of_ble_eq_true rfl) (D_184 W_prog_9_method_9_code_32 1 rfl rfl rfl) ?_
  rw [zabs_e g9]
  obtain ⟨r10, F10, B10, hc10, hf⟩ := gbind hf
  refine va_callv (va_runV (As := [.int (iI (zabs l1))]) (rest := []) ⟨hx, hb, hml, hown, hts⟩ (c_ByteRow_putDecimal (l := l) hc10) (cwV 1 hts (gdV k_8_174 k_8_175 k_8_176 k_1_2 k_8_177) rfl rfl rfl (by decide +kernel) ⟨Nat.le_of_ble_eq_true rfl, Nat.le_of_ble_eq_true rfl⟩) (zPV X hZ6 hS6 (ci := 0) g8.1 g8.2 (r := (RX0, TX0, 3)) rfl [.int (iI (zabs l1))]) rfl rfl hl.1 rfl (lv_room (Nat.le_of_ble_eq_true rfl)) (D_182 W_prog_9_method_9_code_32 4 rfl rfl rfl) ⟨Nat.le_of_ble_eq_true rfl, Nat.le_of_ble_eq_true rfl⟩) hS6 (fun q _ h => zAin X hS6 q h) (zAin X hS6) (fun u10 t10 H10 locs10 ht10 hv10 hw10 hB10 hz10 hk10 hS10 => ?_)
  have hZ10 := zBack X ht10 hB10
  refine lv_aload_n hx hb (D_42 W_prog_9_method_9_code_32 7 rfl rfl) rfl (lv_at hl 1 rfl) ?_
  refine zget (ci := 7) (C := RX7) (T := TX7) (v := va_rf (zrf ad 0 (F10 7 l0 1))) (k := 1) hx hb hts inW_7 hown hK hZ10 g7.1 g7.2 rfl (by decide) k_2_99 rfl (D_180 W_prog_9_method_9_code_32 8 rfl rfl rfl) ?_
  refine lv_aload_n hx hb (D_42 W_prog_9_method_9_code_32 11 rfl rfl) rfl (lv_at hl 1 rfl) ?_
  refine zget (ci := 7) (C := RX7) (T := TX7) (v := va_rf (zrf ad 8 (F10 7 l0 0))) (k := 0) hx hb hts inW_7 hown hK hZ10 g7.1 g7.2 rfl (by decide) k_2_98 rfl (D_180 W_prog_9_method_9_code_32 12 rfl rfl rfl) ?_
  obtain ⟨g11, hf⟩ := gif hf
  refine zunrf g11.1 ?_
  refine zget (ci := 8) (C := RX8) (T := TX8) (v := .ref (ad 8 (F10 7 l0 0) (0 + 1))) (k := 0) hx hb hts inW_8 hown hK hZ10 g11.1 g11.2 rfl (by decide) k_7_218 rfl (D_180 W_prog_9_method_9_code_32 15 rfl rfl rfl) ?_
  refine lv_iconst (v := iI 3) hx hb (D_6 W_prog_9_method_9_code_32 18 rfl rfl) rfl ?_
  refine zald (ci := 8) (k := 0) hx hb hK rfl hZ10 g11.1 g11.2 rfl (Nat.le_of_ble_eq_true rfl) (by decide) (show (3 : Int) < 7 by decide) (D_46 W_prog_9_method_9_code_32 19 rfl rfl) ?_
  refine lv_iconst (v := iI 1) hx hb (D_4 W_prog_9_method_9_code_32 20 rfl rfl) rfl ?_
  obtain ⟨g12, hf⟩ := gif hf
  refine zne (tgt := 61) hx hb g12 (by decide) (D_160 W_prog_9_method_9_code_32 21 rfl rfl rfl) (by decide) (fun h13 => ?_) (fun h13 => ?_)
  · replace hf := gneg hf h13
    refine va_ldcS hx hb hown (hX.2.2.2.2.1 6 _ rfl).1 (D_18 W_prog_9_method_9_code_32 29 rfl rfl) ?_
    exact b_Scribe_writeHead_63 X hf hZ10 hS10 (lv_sub hl [1] rfl)
  · replace hf := gpos hf h13
    refine va_ldcS hx hb hown (hX.2.2.2.2.1 5 _ rfl).1 (D_18 W_prog_9_method_9_code_32 24 rfl rfl) ?_
    refine lv_goto (tgt := 63) hx hb (D_167 W_prog_9_method_9_code_32 26 rfl rfl rfl) (by decide) ?_
    exact b_Scribe_writeHead_63 X hf hZ10 hS10 (lv_sub hl [1] rfl)

def f_Scribe_writeHead (K : zK) (l0 : Int) (F : zF) (B : zB) : zO := if 0 ≤ l0 ∧ l0 < K.2 7 then if 0 ≤ (F 7 l0 0) ∧ (F 7 l0 0) < K.2 8 then if r32 (B 8 (F 7 l0 0) 0 2) then (if 0 ≤ (B 8 (F 7 l0 0) 0 2) then f_Scribe_writeHead_25 K (B 8 (F 7 l0 0) 0 2) l0 (F 7 l0 1) 4 F B else f_Scribe_writeHead_25 K (B 8 (F 7 l0 0) 0 2) l0 (F 7 l0 1) 3 F B) else none else none else none
set_option maxHeartbeats 4000000 in
set_option maxRecDepth 100000 in
theorem c_Scribe_writeHead {l : Launch} {D : va_G} {ca : Nat → ClassId} {ad : Nat → Int → Nat → Nat} {L : List Nat} {aS vS : Nat → Nat} {sz : Nat} {K : zK}  {l0 : Int} {F F9 : zF} {B B9 : zB} {r : Int} (hf : f_Scribe_writeHead K l0 F B = some (r, F9, B9)) : Met l ({ cls := "StaveHouse$Scribe", name := "writeHead", desc := "()V" } : Jvm.MethodName) (Cond.code ({ cls := "StaveHouse$Scribe", name := "writeHead", desc := "()V" } : Jvm.MethodName) prog_9_method_9_code 2 (Option.none : Option Jvm.ClassFile.FieldType) :: wAll) ({ frames := 5, cells := 0, slots := 0, locals := 107 } : Room) (va_Pc [.ref (ad 7 l0 0)] (zPre D ca ad lnC K.2 L aS vS F B sz)) (Q_Scribe_writeHead K D ca ad L r F9 B9 (zA L sz)) 0 0 (zA L sz) := by
  refine zMet (Qc := Q_Scribe_writeHead K D ca ad L r F9 B9) (lv := [(0, .ref (ad 7 l0 0))]) (by decide) (Nat.le_of_ble_eq_true rfl) rfl (fun A p e s m below meth c ls X hZ hS hl => ?_)
  obtain ⟨hx, hb, hr, hml, hown, hts, hlk, hK, hA, hL, hX⟩ := id X
  replace hf : (if 0 ≤ l0 ∧ l0 < K.2 7 then if 0 ≤ (F 7 l0 0) ∧ (F 7 l0 0) < K.2 8 then if r32 (B 8 (F 7 l0 0) 0 2) then (if 0 ≤ (B 8 (F 7 l0 0) 0 2) then f_Scribe_writeHead_25 K (B 8 (F 7 l0 0) 0 2) l0 (F 7 l0 1) 4 F B else f_Scribe_writeHead_25 K (B 8 (F 7 l0 0) 0 2) l0 (F 7 l0 1) 3 F B) else none else none else none) = some (r, F9, B9) := hf
  refine lv_aload_n hx hb (D_42 W_prog_9_method_9_code_0 0 rfl rfl) rfl (lv_at hl 0 rfl) ?_
  obtain ⟨g1, hf⟩ := gif hf
  refine zget (ci := 7) (C := RX7) (T := TX7) (v := va_rf (zrf ad 8 (F 7 l0 0))) (k := 0) hx hb hts inW_7 hown hK hZ g1.1 g1.2 rfl (by decide) k_2_98 rfl (D_180 W_prog_9_method_9_code_0 1 rfl rfl rfl) ?_
  obtain ⟨g2, hf⟩ := gif hf
  refine zunrf g2.1 ?_
  refine zget (ci := 8) (C := RX8) (T := TX8) (v := .ref (ad 8 (F 7 l0 0) (0 + 1))) (k := 0) hx hb hts inW_8 hown hK hZ g2.1 g2.2 rfl (by decide) k_7_218 rfl (D_180 W_prog_9_method_9_code_0 4 rfl rfl rfl) ?_
  refine lv_iconst (v := iI 2) hx hb (D_5 W_prog_9_method_9_code_0 7 rfl rfl) rfl ?_
  refine zald (ci := 8) (k := 0) hx hb hK rfl hZ g2.1 g2.2 rfl (Nat.le_of_ble_eq_true rfl) (by decide) (show (2 : Int) < 7 by decide) (D_46 W_prog_9_method_9_code_0 8 rfl rfl) ?_
  refine lv_istore_n (lv' := [(1, .int (iI (B 8 (F 7 l0 0) 0 2))), (0, .ref (ad 7 l0 0))]) hx hb (D_60 W_prog_9_method_9_code_0 9 rfl rfl) rfl hl (by decide) rfl (fun ls hl => ?_)
  refine lv_aload_n hx hb (D_42 W_prog_9_method_9_code_0 10 rfl rfl) rfl (lv_at hl 1 rfl) ?_
  refine zget (ci := 7) (C := RX7) (T := TX7) (v := va_rf (zrf ad 0 (F 7 l0 1))) (k := 1) hx hb hts inW_7 hown hK hZ g1.1 g1.2 rfl (by decide) k_2_99 rfl (D_180 W_prog_9_method_9_code_0 11 rfl rfl rfl) ?_
  refine lv_iload_n hx hb (D_27 W_prog_9_method_9_code_0 14 rfl rfl) rfl (lv_at hl 0 rfl) ?_
  obtain ⟨g3, hf⟩ := gif hf
  refine z0ge (tgt := 23) hx hb g3 (D_156 W_prog_9_method_9_code_0 15 rfl rfl rfl) (by decide) (fun h4 => ?_) (fun h4 => ?_)
  · replace hf := gpos hf h4
    refine va_ldcS hx hb hown (hX.2.2.2.2.1 4 _ rfl).1 (D_18 W_prog_9_method_9_code_0 23 rfl rfl) ?_
    exact b_Scribe_writeHead_25 X hf hZ hS (lv_sub hl [0, 1] rfl)
  · replace hf := gneg hf h4
    refine va_ldcS hx hb hown (hX.2.2.2.2.1 3 _ rfl).1 (D_18 W_prog_9_method_9_code_0 18 rfl rfl) ?_
    refine lv_goto (tgt := 25) hx hb (D_167 W_prog_9_method_9_code_0 20 rfl rfl rfl) (by decide) ?_
    exact b_Scribe_writeHead_25 X hf hZ hS (lv_sub hl [0, 1] rfl)

abbrev Q_Scribe_writeNote (K : zK) (D : va_G) (ca : Nat → ClassId) (ad : Nat → Int → Nat → Nat) (L : List Nat) (r : Int) (F : zF) (B : zB) (A : Nat → Prop) : Array Value → State → Outcome → State → Prop := va_Qv (S := Unit) (fun _ => True) (fun _ => zPo D ca ad lnC K.2 L F B A) A
def f_Scribe_writeNote_191 (K : zK) (s0 : Int) (s1 : Nat) (F : zF) (B : zB) : zO := if 0 ≤ s0 ∧ s0 < K.2 0 then zbind (f_ByteRow_putText K s0 s1 F B) (fun r48 F48 B48 => some (0, F48, B48)) else none
set_option maxHeartbeats 4000000 in
set_option maxRecDepth 100000 in
theorem b_Scribe_writeNote_191 {D : va_G} {ca : Nat → ClassId} {ad : Nat → Int → Nat → Nat} {L : List Nat} {aS vS : Nat → Nat} {A : Nat → Prop} {p : Program} {l : Launch} {e : Env} {s : State} {m : MethodId} {args : Array Value} {below : List Frame} {meth : Method} {c : Code} {K : zK} {r : Int} {F9 : zF} {B9 : zB} (X : zX D ca L aS vS A p s m args meth c prog_9_method_13_code 4 (Option.none : Option Jvm.ClassFile.FieldType) "StaveHouse$Scribe") {s0 : Int} {s1 : Nat} {F : zF} {B : zB} {H : Heap} {locs : List Loc} {ls : Array Slot} (hf : f_Scribe_writeNote_191 K s0 s1 F B = some (r, F9, B9)) (hZ : zH D ca ad lnC K.2 L F B A H) (hS : va_S A s.heap H locs) (hl : lv_has ls 4 []) : W p l e ({ frames := 5, cells := 0, slots := 0, locals := 108 } : Room) s m args below meth c H locs 0 0 (MQ below (Q_Scribe_writeNote K D ca ad L r F9 B9 A) args s 0 0 A) (F0 m 191 ls [.ref (aS s1), va_rf (zrf ad 0 s0)]) := by
  obtain ⟨hx, hb, hr, hml, hown, hts, hlk, hK, hA, hL, hX⟩ := id X
  replace hf : (if 0 ≤ s0 ∧ s0 < K.2 0 then zbind (f_ByteRow_putText K s0 s1 F B) (fun r48 F48 B48 => some (0, F48, B48)) else none) = some (r, F9, B9) := hf
  obtain ⟨g47, hf⟩ := gif hf
  refine W.eq (g2 := F0 m 191 ls [.ref (aS s1), .ref (ad 0 s0 0)]) (by rw [zrf_pos (ad := ad) (t := 0) g47.1]; try rfl) ?_
  obtain ⟨r48, F48, B48, hc48, hf⟩ := gbind hf
  refine va_callv (va_runV (As := [.ref (aS s1)]) (rest := []) ⟨hx, hb, hml, hown, hts⟩ (c_ByteRow_putText (l := l) hc48) (cwV 1 hts (gdV k_8_172 k_7_129 k_7_130 k_1_2 k_7_131) rfl rfl rfl (by decide +kernel) ⟨Nat.le_of_ble_eq_true rfl, Nat.le_of_ble_eq_true rfl⟩) (zPV X hZ hS (ci := 0) g47.1 g47.2 (r := (RX0, TX0, 3)) rfl [.ref (aS s1)]) rfl rfl hl.1 rfl (lv_room (Nat.le_of_ble_eq_true rfl)) (D_182 W_prog_9_method_13_code_160 31 rfl rfl rfl) ⟨Nat.le_of_ble_eq_true rfl, Nat.le_of_ble_eq_true rfl⟩) hS (fun q _ h => zAin X hS q h) (zAin X hS) (fun u48 t48 H48 locs48 ht48 hv48 hw48 hB48 hz48 hk48 hS48 => ?_)
  have hZ48 := zBack X ht48 hB48
  cases hf
  exact W.vret hx hb hr (fun t ht hW => ⟨⟨(), rfl, trivial, by rw [ht]; exact hZ48, va_K.moved hW.alike hK⟩, hS48.F ht⟩) hS48.2.2 (D_177 W_prog_9_method_13_code_192 2 rfl rfl) hlk

def f_Scribe_writeNote_189 (K : zK) (s0 : Int) (F : zF) (B : zB) : zO := f_Scribe_writeNote_191 K s0 16 F B
set_option maxHeartbeats 4000000 in
set_option maxRecDepth 100000 in
theorem b_Scribe_writeNote_189 {D : va_G} {ca : Nat → ClassId} {ad : Nat → Int → Nat → Nat} {L : List Nat} {aS vS : Nat → Nat} {A : Nat → Prop} {p : Program} {l : Launch} {e : Env} {s : State} {m : MethodId} {args : Array Value} {below : List Frame} {meth : Method} {c : Code} {K : zK} {r : Int} {F9 : zF} {B9 : zB} (X : zX D ca L aS vS A p s m args meth c prog_9_method_13_code 4 (Option.none : Option Jvm.ClassFile.FieldType) "StaveHouse$Scribe") {s0 : Int} {F : zF} {B : zB} {H : Heap} {locs : List Loc} {ls : Array Slot} (hf : f_Scribe_writeNote_189 K s0 F B = some (r, F9, B9)) (hZ : zH D ca ad lnC K.2 L F B A H) (hS : va_S A s.heap H locs) (hl : lv_has ls 4 []) : W p l e ({ frames := 5, cells := 0, slots := 0, locals := 108 } : Room) s m args below meth c H locs 0 0 (MQ below (Q_Scribe_writeNote K D ca ad L r F9 B9 A) args s 0 0 A) (F0 m 189 ls [va_rf (zrf ad 0 s0)]) := by
  obtain ⟨hx, hb, hr, hml, hown, hts, hlk, hK, hA, hL, hX⟩ := id X
  replace hf : (f_Scribe_writeNote_191 K s0 16 F B) = some (r, F9, B9) := hf
  refine va_ldcS hx hb hown (hX.2.2.2.2.1 16 _ rfl).1 (D_18 W_prog_9_method_13_code_160 29 rfl rfl) ?_
  exact b_Scribe_writeNote_191 X hf hZ hS (lv_sub hl [] rfl)

def f_Scribe_writeNote_142 (K : zK) : Nat → Int → Int → Int → Int → zF → zB → zO
  | 0, _, _, _, _, _, _ => none
  | n + 1, l3, l0, l1, l2, F, B => if r32 l3 then if r32 (2 - (zrm l1 3)) then (if (2 - (zrm l1 3)) ≤ l3 then if 0 ≤ l0 ∧ l0 < K.2 7 then if r32 l2 then (if l2 = 0 then f_Scribe_writeNote_189 K (F 7 l0 1) F B else if 0 ≤ (F 7 l0 1) ∧ (F 7 l0 1) < K.2 0 then if 0 ≤ (F 7 l0 4) ∧ (F 7 l0 4) < K.2 1 then zbind (f_Event_isRest K (F 7 l0 4) F B) (fun r41 F41 B41 => if r32 r41 then (if r41 = 0 then f_Scribe_writeNote_191 K (F 7 l0 1) 19 F41 B41 else f_Scribe_writeNote_189 K (F 7 l0 1) F41 B41) else none) else none else none) else none else none else if 0 ≤ l0 ∧ l0 < K.2 7 then if 0 ≤ (F 7 l0 1) ∧ (F 7 l0 1) < K.2 0 then zbind (f_ByteRow_put K (F 7 l0 1) 46 F B) (fun r46 F46 B46 => f_Scribe_writeNote_142 K n (l3 + 1) l0 l1 l2 F46 B46) else none else none) else none else none
set_option maxHeartbeats 4000000 in
set_option maxRecDepth 100000 in
theorem b_Scribe_writeNote_142 {D : va_G} {ca : Nat → ClassId} {ad : Nat → Int → Nat → Nat} {L : List Nat} {aS vS : Nat → Nat} {A : Nat → Prop} {p : Program} {l : Launch} {e : Env} {s : State} {m : MethodId} {args : Array Value} {below : List Frame} {meth : Method} {c : Code} {K : zK} {r : Int} {F9 : zF} {B9 : zB} (X : zX D ca L aS vS A p s m args meth c prog_9_method_13_code 4 (Option.none : Option Jvm.ClassFile.FieldType) "StaveHouse$Scribe") : ∀ {n : Nat} {l3 : Int} {l0 : Int} {l1 : Int} {l2 : Int} {F : zF} {B : zB} {H : Heap} {locs : List Loc} {ls : Array Slot}, f_Scribe_writeNote_142 K n l3 l0 l1 l2 F B = some (r, F9, B9) → zH D ca ad lnC K.2 L F B A H → va_S A s.heap H locs → lv_has ls 4 [(3, .int (iI l3)), (0, .ref (ad 7 l0 0)), (1, .int (iI l1)), (2, .int (iI l2))] → W p l e ({ frames := 5, cells := 0, slots := 0, locals := 108 } : Room) s m args below meth c H locs 0 0 (MQ below (Q_Scribe_writeNote K D ca ad L r F9 B9 A) args s 0 0 A) (F0 m 142 ls []) := by
  obtain ⟨hx, hb, hr, hml, hown, hts, hlk, hK, hA, hL, hX⟩ := id X
  intro n
  induction n with
  | zero =>
    intros
    rename_i hf _ _ _
    cases hf
  | succ n ih =>
    intro l3 l0 l1 l2 F B H locs ls hf hZ hS hl
    replace hf : (if r32 l3 then if r32 (2 - (zrm l1 3)) then (if (2 - (zrm l1 3)) ≤ l3 then if 0 ≤ l0 ∧ l0 < K.2 7 then if r32 l2 then (if l2 = 0 then f_Scribe_writeNote_189 K (F 7 l0 1) F B else if 0 ≤ (F 7 l0 1) ∧ (F 7 l0 1) < K.2 0 then if 0 ≤ (F 7 l0 4) ∧ (F 7 l0 4) < K.2 1 then zbind (f_Event_isRest K (F 7 l0 4) F B) (fun r41 F41 B41 => if r32 r41 then (if r41 = 0 then f_Scribe_writeNote_191 K (F 7 l0 1) 19 F41 B41 else f_Scribe_writeNote_189 K (F 7 l0 1) F41 B41) else none) else none else none) else none else none else if 0 ≤ l0 ∧ l0 < K.2 7 then if 0 ≤ (F 7 l0 1) ∧ (F 7 l0 1) < K.2 0 then zbind (f_ByteRow_put K (F 7 l0 1) 46 F B) (fun r46 F46 B46 => f_Scribe_writeNote_142 K n (l3 + 1) l0 l1 l2 F46 B46) else none else none) else none else none) = some (r, F9, B9) := hf
    refine lv_iload_n hx hb (D_29 W_prog_9_method_13_code_128 14 rfl rfl) rfl (lv_at hl 0 rfl) ?_
    refine lv_iconst (v := iI 2) hx hb (D_5 W_prog_9_method_13_code_128 15 rfl rfl) rfl ?_
    refine lv_iload_n hx hb (D_27 W_prog_9_method_13_code_128 16 rfl rfl) rfl (lv_at hl 2 rfl) ?_
    refine lv_iconst (v := iI 3) hx hb (D_6 W_prog_9_method_13_code_128 17 rfl rfl) rfl ?_
    refine zrm_r hx hb (by decide) (D_112 W_prog_9_method_13_code_128 18 rfl rfl) ?_
    refine zsub hx hb (D_100 W_prog_9_method_13_code_128 19 rfl rfl) ?_
    obtain ⟨g33, hf⟩ := gif hf
    obtain ⟨g34, hf⟩ := gif hf
    refine zge (tgt := 166) hx hb g33 g34 (D_162 W_prog_9_method_13_code_128 20 rfl rfl rfl) (by decide) (fun h35 => ?_) (fun h35 => ?_)
    · replace hf := gpos hf h35
      refine lv_aload_n hx hb (D_42 W_prog_9_method_13_code_160 6 rfl rfl) rfl (lv_at hl 1 rfl) ?_
      obtain ⟨g36, hf⟩ := gif hf
      refine zget (ci := 7) (C := RX7) (T := TX7) (v := va_rf (zrf ad 0 (F 7 l0 1))) (k := 1) hx hb hts inW_7 hown hK hZ g36.1 g36.2 rfl (by decide) k_2_99 rfl (D_180 W_prog_9_method_13_code_160 7 rfl rfl rfl) ?_
      refine lv_iload_n hx hb (D_28 W_prog_9_method_13_code_160 10 rfl rfl) rfl (lv_at hl 3 rfl) ?_
      obtain ⟨g37, hf⟩ := gif hf
      refine z0eq (tgt := 189) hx hb g37 (D_153 W_prog_9_method_13_code_160 11 rfl rfl rfl) (by decide) (fun h38 => ?_) (fun h38 => ?_)
      · replace hf := gpos hf h38
        exact b_Scribe_writeNote_189 X hf hZ hS (lv_sub hl [] rfl)
      · replace hf := gneg hf h38
        refine lv_aload_n hx hb (D_42 W_prog_9_method_13_code_160 14 rfl rfl) rfl (lv_at hl 1 rfl) ?_
        refine zget (ci := 7) (C := RX7) (T := TX7) (v := va_rf (zrf ad 1 (F 7 l0 4))) (k := 4) hx hb hts inW_7 hown hK hZ g36.1 g36.2 rfl (by decide) k_2_102 rfl (D_180 W_prog_9_method_13_code_160 15 rfl rfl rfl) ?_
        obtain ⟨g39, hf⟩ := gif hf
        refine W.eq (g2 := F0 m 178 ls [va_rf (zrf ad 1 (F 7 l0 4)), .ref (ad 0 (F 7 l0 1) 0)]) (by rw [zrf_pos (ad := ad) (t := 0) g39.1]; try rfl) ?_
        obtain ⟨g40, hf⟩ := gif hf
        refine W.eq (g2 := F0 m 178 ls [.ref (ad 1 (F 7 l0 4) 0), .ref (ad 0 (F 7 l0 1) 0)]) (by rw [zrf_pos (ad := ad) (t := 1) g40.1]; try rfl) ?_
        obtain ⟨r41, F41, B41, hc41, hf⟩ := gbind hf
        refine va_calli (va_runV (As := []) (rest := [.ref (ad 0 (F 7 l0 1) 0)]) ⟨hx, hb, hml, hown, hts⟩ (c_Event_isRest (l := l) hc41) (cwV 0 hts (gdV k_8_207 k_5_79 k_5_80 k_1_8 k_5_81) rfl rfl rfl (by decide +kernel) ⟨Nat.le_of_ble_eq_true rfl, Nat.le_of_ble_eq_true rfl⟩) (zPV X hZ hS (ci := 1) g40.1 g40.2 (r := (RX1, TX1, 14)) rfl []) rfl rfl hl.1 rfl (lv_room (Nat.le_of_ble_eq_true rfl)) (D_182 W_prog_9_method_13_code_160 18 rfl rfl rfl) ⟨Nat.le_of_ble_eq_true rfl, Nat.le_of_ble_eq_true rfl⟩) hS (fun q _ h => zAin X hS q h) (zAin X hS) (fun p41 u41 t41 H41 locs41 ht41 hv41 hw41 hB41 hz41 hk41 hS41 => ?_)
        have hZ41 := zBack X ht41 hB41
        subst hw41
        obtain ⟨g42, hf⟩ := gif hf
        refine z0ne (tgt := 189) hx hb g42 (D_154 W_prog_9_method_13_code_160 21 rfl rfl rfl) (by decide) (fun h43 => ?_) (fun h43 => ?_)
        · replace hf := gneg hf h43
          refine W.eq (g2 := F0 m 189 ls [va_rf (zrf ad 0 (F 7 l0 1))]) (by rw [zrf_pos (ad := ad) (t := 0) g39.1]; try rfl) ?_
          exact b_Scribe_writeNote_189 X hf hZ41 hS41 (lv_sub hl [] rfl)
        · replace hf := gpos hf h43
          refine va_ldcS hx hb hown (hX.2.2.2.2.1 19 _ rfl).1 (D_18 W_prog_9_method_13_code_160 24 rfl rfl) ?_
          refine lv_goto (tgt := 191) hx hb (D_167 W_prog_9_method_13_code_160 26 rfl rfl rfl) (by decide) ?_
          refine W.eq (g2 := F0 m 191 ls [.ref (aS 19), va_rf (zrf ad 0 (F 7 l0 1))]) (by rw [zrf_pos (ad := ad) (t := 0) g39.1]; try rfl) ?_
          exact b_Scribe_writeNote_191 X hf hZ41 hS41 (lv_sub hl [] rfl)
    · replace hf := gneg hf h35
      refine lv_aload_n hx hb (D_42 W_prog_9_method_13_code_128 23 rfl rfl) rfl (lv_at hl 1 rfl) ?_
      obtain ⟨g44, hf⟩ := gif hf
      refine zget (ci := 7) (C := RX7) (T := TX7) (v := va_rf (zrf ad 0 (F 7 l0 1))) (k := 1) hx hb hts inW_7 hown hK hZ g44.1 g44.2 rfl (by decide) k_2_99 rfl (D_180 W_prog_9_method_13_code_128 24 rfl rfl rfl) ?_
      refine lv_bipush (v := iI 46) hx hb (D_16 W_prog_9_method_13_code_128 27 rfl rfl rfl) (by decide) ?_
      obtain ⟨g45, hf⟩ := gif hf
      refine W.eq (g2 := F0 m 157 ls [.int (iI 46), .ref (ad 0 (F 7 l0 1) 0)]) (by rw [zrf_pos (ad := ad) (t := 0) g45.1]; try rfl) ?_
      obtain ⟨r46, F46, B46, hc46, hf⟩ := gbind hf
      refine va_callv (va_runV (As := [.int (iI 46)]) (rest := []) ⟨hx, hb, hml, hown, hts⟩ (c_ByteRow_put (l := l) hc46) (cwV 1 hts (gdV k_8_180 k_2_171 k_2_172 k_1_2 k_2_173) rfl rfl rfl (by decide +kernel) ⟨Nat.le_of_ble_eq_true rfl, Nat.le_of_ble_eq_true rfl⟩) (zPV X hZ hS (ci := 0) g45.1 g45.2 (r := (RX0, TX0, 3)) rfl [.int (iI 46)]) rfl rfl hl.1 rfl (lv_room (Nat.le_of_ble_eq_true rfl)) (D_182 W_prog_9_method_13_code_128 29 rfl rfl rfl) ⟨Nat.le_of_ble_eq_true rfl, Nat.le_of_ble_eq_true rfl⟩) hS (fun q _ h => zAin X hS q h) (zAin X hS) (fun u46 t46 H46 locs46 ht46 hv46 hw46 hB46 hz46 hk46 hS46 => ?_)
      have hZ46 := zBack X ht46 hB46
      refine lv_iinc (v := iI (l3 + 1)) (lv' := [(3, .int (iI (l3 + 1))), (0, .ref (ad 7 l0 0)), (1, .int (iI l1)), (2, .int (iI l2))]) hx hb d_9_13_160 hl (k := 0) rfl (iI_add _ 1) (by decide) rfl (fun ls hl => ?_)
      refine lv_goto (tgt := 142) hx hb (D_167 W_prog_9_method_13_code_160 3 rfl rfl rfl) (by decide) ?_
      exact ih hf hZ46 hS46 (lv_sub hl [0, 1, 2, 3] rfl)

def f_Scribe_writeNote_125 (K : zK) (l0 : Int) (l1 : Int) (l2 : Int) (s0 : Int) (s1 : Nat) (F : zF) (B : zB) : zO := if 0 ≤ s0 ∧ s0 < K.2 0 then zbind (f_ByteRow_putText K s0 s1 F B) (fun r28 F28 B28 => if 0 ≤ l0 ∧ l0 < K.2 7 then if 0 ≤ (F28 7 l0 1) ∧ (F28 7 l0 1) < K.2 0 then zbind (f_ByteRow_putDecimal K (F28 7 l0 1) (zshl 1 (zdv l1 3)) F28 B28) (fun r31 F31 B31 => f_Scribe_writeNote_142 K K.1 0 l0 l1 l2 F31 B31) else none else none) else none
set_option maxHeartbeats 4000000 in
set_option maxRecDepth 100000 in
theorem b_Scribe_writeNote_125 {D : va_G} {ca : Nat → ClassId} {ad : Nat → Int → Nat → Nat} {L : List Nat} {aS vS : Nat → Nat} {A : Nat → Prop} {p : Program} {l : Launch} {e : Env} {s : State} {m : MethodId} {args : Array Value} {below : List Frame} {meth : Method} {c : Code} {K : zK} {r : Int} {F9 : zF} {B9 : zB} (X : zX D ca L aS vS A p s m args meth c prog_9_method_13_code 4 (Option.none : Option Jvm.ClassFile.FieldType) "StaveHouse$Scribe") {l0 : Int} {l1 : Int} {l2 : Int} {s0 : Int} {s1 : Nat} {F : zF} {B : zB} {H : Heap} {locs : List Loc} {ls : Array Slot} (hf : f_Scribe_writeNote_125 K l0 l1 l2 s0 s1 F B = some (r, F9, B9)) (hZ : zH D ca ad lnC K.2 L F B A H) (hS : va_S A s.heap H locs) (hl : lv_has ls 4 [(0, .ref (ad 7 l0 0)), (1, .int (iI l1)), (2, .int (iI l2))]) : W p l e ({ frames := 5, cells := 0, slots := 0, locals := 108 } : Room) s m args below meth c H locs 0 0 (MQ below (Q_Scribe_writeNote K D ca ad L r F9 B9 A) args s 0 0 A) (F0 m 125 ls [.ref (aS s1), va_rf (zrf ad 0 s0)]) := by
  obtain ⟨hx, hb, hr, hml, hown, hts, hlk, hK, hA, hL, hX⟩ := id X
  replace hf : (if 0 ≤ s0 ∧ s0 < K.2 0 then zbind (f_ByteRow_putText K s0 s1 F B) (fun r28 F28 B28 => if 0 ≤ l0 ∧ l0 < K.2 7 then if 0 ≤ (F28 7 l0 1) ∧ (F28 7 l0 1) < K.2 0 then zbind (f_ByteRow_putDecimal K (F28 7 l0 1) (zshl 1 (zdv l1 3)) F28 B28) (fun r31 F31 B31 => f_Scribe_writeNote_142 K K.1 0 l0 l1 l2 F31 B31) else none else none) else none) = some (r, F9, B9) := hf
  obtain ⟨g27, hf⟩ := gif hf
  refine W.eq (g2 := F0 m 125 ls [.ref (aS s1), .ref (ad 0 s0 0)]) (by rw [zrf_pos (ad := ad) (t := 0) g27.1]; try rfl) ?_
  obtain ⟨r28, F28, B28, hc28, hf⟩ := gbind hf
  refine va_callv (va_runV (As := [.ref (aS s1)]) (rest := []) ⟨hx, hb, hml, hown, hts⟩ (c_ByteRow_putText (l := l) hc28) (cwV 1 hts (gdV k_8_172 k_7_129 k_7_130 k_1_2 k_7_131) rfl rfl rfl (by decide +kernel) ⟨Nat.le_of_ble_eq_true rfl, Nat.le_of_ble_eq_true rfl⟩) (zPV X hZ hS (ci := 0) g27.1 g27.2 (r := (RX0, TX0, 3)) rfl [.ref (aS s1)]) rfl rfl hl.1 rfl (lv_room (Nat.le_of_ble_eq_true rfl)) (D_182 W_prog_9_method_13_code_96 29 rfl rfl rfl) ⟨Nat.le_of_ble_eq_true rfl, Nat.le_of_ble_eq_true rfl⟩) hS (fun q _ h => zAin X hS q h) (zAin X hS) (fun u28 t28 H28 locs28 ht28 hv28 hw28 hB28 hz28 hk28 hS28 => ?_)
  have hZ28 := zBack X ht28 hB28
  refine lv_aload_n hx hb (D_42 W_prog_9_method_13_code_128 0 rfl rfl) rfl (lv_at hl 0 rfl) ?_
  obtain ⟨g29, hf⟩ := gif hf
  refine zget (ci := 7) (C := RX7) (T := TX7) (v := va_rf (zrf ad 0 (F28 7 l0 1))) (k := 1) hx hb hts inW_7 hown hK hZ28 g29.1 g29.2 rfl (by decide) k_2_99 rfl (D_180 W_prog_9_method_13_code_128 1 rfl rfl rfl) ?_
  refine lv_iconst (v := iI 1) hx hb (D_4 W_prog_9_method_13_code_128 4 rfl rfl) rfl ?_
  refine lv_iload_n hx hb (D_27 W_prog_9_method_13_code_128 5 rfl rfl) rfl (lv_at hl 1 rfl) ?_
  refine lv_iconst (v := iI 3) hx hb (D_6 W_prog_9_method_13_code_128 6 rfl rfl) rfl ?_
  refine zdv_r hx hb (by decide) (D_108 W_prog_9_method_13_code_128 7 rfl rfl) ?_
  refine zshl_r hx hb (D_120 W_prog_9_method_13_code_128 8 rfl rfl) ?_
  obtain ⟨g30, hf⟩ := gif hf
  refine W.eq (g2 := F0 m 137 ls [.int (iI (zshl 1 (zdv l1 3))), .ref (ad 0 (F28 7 l0 1) 0)]) (by rw [zrf_pos (ad := ad) (t := 0) g30.1]; try rfl) ?_
  obtain ⟨r31, F31, B31, hc31, hf⟩ := gbind hf
  refine va_callv (va_runV (As := [.int (iI (zshl 1 (zdv l1 3)))]) (rest := []) ⟨hx, hb, hml, hown, hts⟩ (c_ByteRow_putDecimal (l := l) hc31) (cwV 1 hts (gdV k_8_174 k_8_175 k_8_176 k_1_2 k_8_177) rfl rfl rfl (by decide +kernel) ⟨Nat.le_of_ble_eq_true rfl, Nat.le_of_ble_eq_true rfl⟩) (zPV X hZ28 hS28 (ci := 0) g30.1 g30.2 (r := (RX0, TX0, 3)) rfl [.int (iI (zshl 1 (zdv l1 3)))]) rfl rfl hl.1 rfl (lv_room (Nat.le_of_ble_eq_true rfl)) (D_182 W_prog_9_method_13_code_128 9 rfl rfl rfl) ⟨Nat.le_of_ble_eq_true rfl, Nat.le_of_ble_eq_true rfl⟩) hS28 (fun q _ h => zAin X hS28 q h) (zAin X hS28) (fun u31 t31 H31 locs31 ht31 hv31 hw31 hB31 hz31 hk31 hS31 => ?_)
  have hZ31 := zBack X ht31 hB31
  refine lv_iconst (v := iI 0) hx hb (D_3 W_prog_9_method_13_code_128 12 rfl rfl) rfl ?_
  refine lv_istore_n (lv' := [(3, .int (iI 0)), (0, .ref (ad 7 l0 0)), (1, .int (iI l1)), (2, .int (iI l2))]) hx hb (D_62 W_prog_9_method_13_code_128 13 rfl rfl) rfl hl (by decide) rfl (fun ls hl => ?_)
  exact b_Scribe_writeNote_142 X hf hZ31 hS31 (lv_sub hl [0, 1, 2, 3] rfl)

def f_Scribe_writeNote_72 (rec46 : Int → Int → Int → Int → zF → zB → zO) (K : zK) (l3 : Int) (l0 : Int) (l1 : Int) (l2 : Int) (s0 : Int) (s1 : Nat) (F : zF) (B : zB) : zO := if 0 ≤ s0 ∧ s0 < K.2 0 then zbind (f_ByteRow_putText K s0 s1 F B) (fun r22 F22 B22 => if 0 ≤ l0 ∧ l0 < K.2 7 then if 0 ≤ (F22 7 l0 4) ∧ (F22 7 l0 4) < K.2 1 then if 0 ≤ l3 ∧ l3 < 6 then zbind (f_Scribe_writePitch K l0 (B22 1 (F22 7 l0 4) 12 l3) (B22 1 (F22 7 l0 4) 13 l3) F22 B22) (fun r26 F26 B26 => rec46 (l3 + 1) l0 l1 l2 F26 B26) else none else none else none) else none
set_option maxHeartbeats 4000000 in
set_option maxRecDepth 100000 in
theorem b_Scribe_writeNote_72 {D : va_G} {ca : Nat → ClassId} {ad : Nat → Int → Nat → Nat} {L : List Nat} {aS vS : Nat → Nat} {A : Nat → Prop} {p : Program} {l : Launch} {e : Env} {s : State} {m : MethodId} {args : Array Value} {below : List Frame} {meth : Method} {c : Code} {K : zK} {r : Int} {F9 : zF} {B9 : zB} (X : zX D ca L aS vS A p s m args meth c prog_9_method_13_code 4 (Option.none : Option Jvm.ClassFile.FieldType) "StaveHouse$Scribe") {rec46 : Int → Int → Int → Int → zF → zB → zO} (hrec46 : ∀ {l3 : Int} {l0 : Int} {l1 : Int} {l2 : Int} {F : zF} {B : zB} {H : Heap} {locs : List Loc} {ls : Array Slot}, rec46 l3 l0 l1 l2 F B = some (r, F9, B9) → zH D ca ad lnC K.2 L F B A H → va_S A s.heap H locs → lv_has ls 4 [(3, .int (iI l3)), (0, .ref (ad 7 l0 0)), (1, .int (iI l1)), (2, .int (iI l2))] → W p l e ({ frames := 5, cells := 0, slots := 0, locals := 108 } : Room) s m args below meth c H locs 0 0 (MQ below (Q_Scribe_writeNote K D ca ad L r F9 B9 A) args s 0 0 A) (F0 m 46 ls [])) {l3 : Int} {l0 : Int} {l1 : Int} {l2 : Int} {s0 : Int} {s1 : Nat} {F : zF} {B : zB} {H : Heap} {locs : List Loc} {ls : Array Slot} (hf : f_Scribe_writeNote_72 rec46 K l3 l0 l1 l2 s0 s1 F B = some (r, F9, B9)) (hZ : zH D ca ad lnC K.2 L F B A H) (hS : va_S A s.heap H locs) (hl : lv_has ls 4 [(3, .int (iI l3)), (0, .ref (ad 7 l0 0)), (1, .int (iI l1)), (2, .int (iI l2))]) : W p l e ({ frames := 5, cells := 0, slots := 0, locals := 108 } : Room) s m args below meth c H locs 0 0 (MQ below (Q_Scribe_writeNote K D ca ad L r F9 B9 A) args s 0 0 A) (F0 m 72 ls [.ref (aS s1), va_rf (zrf ad 0 s0)]) := by
  obtain ⟨hx, hb, hr, hml, hown, hts, hlk, hK, hA, hL, hX⟩ := id X
  replace hf : (if 0 ≤ s0 ∧ s0 < K.2 0 then zbind (f_ByteRow_putText K s0 s1 F B) (fun r22 F22 B22 => if 0 ≤ l0 ∧ l0 < K.2 7 then if 0 ≤ (F22 7 l0 4) ∧ (F22 7 l0 4) < K.2 1 then if 0 ≤ l3 ∧ l3 < 6 then zbind (f_Scribe_writePitch K l0 (B22 1 (F22 7 l0 4) 12 l3) (B22 1 (F22 7 l0 4) 13 l3) F22 B22) (fun r26 F26 B26 => rec46 (l3 + 1) l0 l1 l2 F26 B26) else none else none else none) else none) = some (r, F9, B9) := hf
  obtain ⟨g21, hf⟩ := gif hf
  refine W.eq (g2 := F0 m 72 ls [.ref (aS s1), .ref (ad 0 s0 0)]) (by rw [zrf_pos (ad := ad) (t := 0) g21.1]; try rfl) ?_
  obtain ⟨r22, F22, B22, hc22, hf⟩ := gbind hf
  refine va_callv (va_runV (As := [.ref (aS s1)]) (rest := []) ⟨hx, hb, hml, hown, hts⟩ (c_ByteRow_putText (l := l) hc22) (cwV 1 hts (gdV k_8_172 k_7_129 k_7_130 k_1_2 k_7_131) rfl rfl rfl (by decide +kernel) ⟨Nat.le_of_ble_eq_true rfl, Nat.le_of_ble_eq_true rfl⟩) (zPV X hZ hS (ci := 0) g21.1 g21.2 (r := (RX0, TX0, 3)) rfl [.ref (aS s1)]) rfl rfl hl.1 rfl (lv_room (Nat.le_of_ble_eq_true rfl)) (D_182 W_prog_9_method_13_code_64 8 rfl rfl rfl) ⟨Nat.le_of_ble_eq_true rfl, Nat.le_of_ble_eq_true rfl⟩) hS (fun q _ h => zAin X hS q h) (zAin X hS) (fun u22 t22 H22 locs22 ht22 hv22 hw22 hB22 hz22 hk22 hS22 => ?_)
  have hZ22 := zBack X ht22 hB22
  refine lv_aload_n hx hb (D_42 W_prog_9_method_13_code_64 11 rfl rfl) rfl (lv_at hl 1 rfl) ?_
  refine lv_aload_n hx hb (D_42 W_prog_9_method_13_code_64 12 rfl rfl) rfl (lv_at hl 1 rfl) ?_
  obtain ⟨g23, hf⟩ := gif hf
  refine zget (ci := 7) (C := RX7) (T := TX7) (v := va_rf (zrf ad 1 (F22 7 l0 4))) (k := 4) hx hb hts inW_7 hown hK hZ22 g23.1 g23.2 rfl (by decide) k_2_102 rfl (D_180 W_prog_9_method_13_code_64 13 rfl rfl rfl) ?_
  obtain ⟨g24, hf⟩ := gif hf
  refine zunrf g24.1 ?_
  refine zget (ci := 1) (C := RX1) (T := TX1) (v := .ref (ad 1 (F22 7 l0 4) (12 + 1))) (k := 12) hx hb hts inW_1 hown hK hZ22 g24.1 g24.2 rfl (by decide) k_2_61 rfl (D_180 W_prog_9_method_13_code_64 16 rfl rfl rfl) ?_
  refine lv_iload_n hx hb (D_29 W_prog_9_method_13_code_64 19 rfl rfl) rfl (lv_at hl 0 rfl) ?_
  obtain ⟨g25, hf⟩ := gif hf
  refine zald (ci := 1) (k := 12) hx hb hK rfl hZ22 g24.1 g24.2 rfl (Nat.le_of_ble_eq_true rfl) g25.1 g25.2 (D_46 W_prog_9_method_13_code_64 20 rfl rfl) ?_
  refine lv_aload_n hx hb (D_42 W_prog_9_method_13_code_64 21 rfl rfl) rfl (lv_at hl 1 rfl) ?_
  refine zget (ci := 7) (C := RX7) (T := TX7) (v := va_rf (zrf ad 1 (F22 7 l0 4))) (k := 4) hx hb hts inW_7 hown hK hZ22 g23.1 g23.2 rfl (by decide) k_2_102 rfl (D_180 W_prog_9_method_13_code_64 22 rfl rfl rfl) ?_
  refine zunrf g24.1 ?_
  refine zget (ci := 1) (C := RX1) (T := TX1) (v := .ref (ad 1 (F22 7 l0 4) (13 + 1))) (k := 13) hx hb hts inW_1 hown hK hZ22 g24.1 g24.2 rfl (by decide) k_2_67 rfl (D_180 W_prog_9_method_13_code_64 25 rfl rfl rfl) ?_
  refine lv_iload_n hx hb (D_29 W_prog_9_method_13_code_64 28 rfl rfl) rfl (lv_at hl 0 rfl) ?_
  refine zald (ci := 1) (k := 13) hx hb hK rfl hZ22 g24.1 g24.2 rfl (Nat.le_of_ble_eq_true rfl) g25.1 g25.2 (D_46 W_prog_9_method_13_code_64 29 rfl rfl) ?_
  obtain ⟨r26, F26, B26, hc26, hf⟩ := gbind hf
  refine va_callv (va_runV (As := [.int (iI (B22 1 (F22 7 l0 4) 12 l3)), .int (iI (B22 1 (F22 7 l0 4) 13 l3))]) (rest := []) ⟨hx, hb, hml, hown, hts⟩ (c_Scribe_writePitch (l := l) hc26) (cwV 2 hts (gdV k_8_211 k_8_213 ks_120 k_1_7 k_8_214) rfl rfl rfl (by decide +kernel) ⟨Nat.le_of_ble_eq_true rfl, Nat.le_of_ble_eq_true rfl⟩) (zPV X hZ22 hS22 (ci := 7) g23.1 g23.2 (r := (RX7, TX7, 9)) rfl [.int (iI (B22 1 (F22 7 l0 4) 12 l3)), .int (iI (B22 1 (F22 7 l0 4) 13 l3))]) rfl rfl hl.1 rfl (lv_room (Nat.le_of_ble_eq_true rfl)) (D_182 W_prog_9_method_13_code_64 30 rfl rfl rfl) ⟨Nat.le_of_ble_eq_true rfl, Nat.le_of_ble_eq_true rfl⟩) hS22 (fun q _ h => zAin X hS22 q h) (zAin X hS22) (fun u26 t26 H26 locs26 ht26 hv26 hw26 hB26 hz26 hk26 hS26 => ?_)
  have hZ26 := zBack X ht26 hB26
  refine lv_iinc (v := iI (l3 + 1)) (lv' := [(3, .int (iI (l3 + 1))), (0, .ref (ad 7 l0 0)), (1, .int (iI l1)), (2, .int (iI l2))]) hx hb d_9_13_97 hl (k := 0) rfl (iI_add _ 1) (by decide) rfl (fun ls hl => ?_)
  refine lv_goto (tgt := 46) hx hb (D_167 W_prog_9_method_13_code_96 4 rfl rfl rfl) (by decide) ?_
  exact hrec46 hf hZ26 hS26 (lv_sub hl [0, 1, 2, 3] rfl)

def f_Scribe_writeNote_46 (K : zK) : Nat → Int → Int → Int → Int → zF → zB → zO
  | 0, _, _, _, _, _, _ => none
  | n + 1, l3, l0, l1, l2, F, B => if 0 ≤ l0 ∧ l0 < K.2 7 then if 0 ≤ (F 7 l0 4) ∧ (F 7 l0 4) < K.2 1 then if r32 l3 then if r32 (F 1 (F 7 l0 4) 10) then (if (F 1 (F 7 l0 4) 10) ≤ l3 then (if (F 1 (F 7 l0 4) 10) ≤ 1 then f_Scribe_writeNote_125 K l0 l1 l2 (F 7 l0 1) 18 F B else f_Scribe_writeNote_125 K l0 l1 l2 (F 7 l0 1) 17 F B) else (if l3 ≤ 0 then f_Scribe_writeNote_72 (f_Scribe_writeNote_46 K n) K l3 l0 l1 l2 (F 7 l0 1) 15 F B else f_Scribe_writeNote_72 (f_Scribe_writeNote_46 K n) K l3 l0 l1 l2 (F 7 l0 1) 16 F B)) else none else none else none else none
set_option maxHeartbeats 4000000 in
set_option maxRecDepth 100000 in
theorem b_Scribe_writeNote_46 {D : va_G} {ca : Nat → ClassId} {ad : Nat → Int → Nat → Nat} {L : List Nat} {aS vS : Nat → Nat} {A : Nat → Prop} {p : Program} {l : Launch} {e : Env} {s : State} {m : MethodId} {args : Array Value} {below : List Frame} {meth : Method} {c : Code} {K : zK} {r : Int} {F9 : zF} {B9 : zB} (X : zX D ca L aS vS A p s m args meth c prog_9_method_13_code 4 (Option.none : Option Jvm.ClassFile.FieldType) "StaveHouse$Scribe") : ∀ {n : Nat} {l3 : Int} {l0 : Int} {l1 : Int} {l2 : Int} {F : zF} {B : zB} {H : Heap} {locs : List Loc} {ls : Array Slot}, f_Scribe_writeNote_46 K n l3 l0 l1 l2 F B = some (r, F9, B9) → zH D ca ad lnC K.2 L F B A H → va_S A s.heap H locs → lv_has ls 4 [(3, .int (iI l3)), (0, .ref (ad 7 l0 0)), (1, .int (iI l1)), (2, .int (iI l2))] → W p l e ({ frames := 5, cells := 0, slots := 0, locals := 108 } : Room) s m args below meth c H locs 0 0 (MQ below (Q_Scribe_writeNote K D ca ad L r F9 B9 A) args s 0 0 A) (F0 m 46 ls []) := by
  obtain ⟨hx, hb, hr, hml, hown, hts, hlk, hK, hA, hL, hX⟩ := id X
  intro n
  induction n with
  | zero =>
    intros
    rename_i hf _ _ _
    cases hf
  | succ n ih =>
    intro l3 l0 l1 l2 F B H locs ls hf hZ hS hl
    replace hf : (if 0 ≤ l0 ∧ l0 < K.2 7 then if 0 ≤ (F 7 l0 4) ∧ (F 7 l0 4) < K.2 1 then if r32 l3 then if r32 (F 1 (F 7 l0 4) 10) then (if (F 1 (F 7 l0 4) 10) ≤ l3 then (if (F 1 (F 7 l0 4) 10) ≤ 1 then f_Scribe_writeNote_125 K l0 l1 l2 (F 7 l0 1) 18 F B else f_Scribe_writeNote_125 K l0 l1 l2 (F 7 l0 1) 17 F B) else (if l3 ≤ 0 then f_Scribe_writeNote_72 (f_Scribe_writeNote_46 K n) K l3 l0 l1 l2 (F 7 l0 1) 15 F B else f_Scribe_writeNote_72 (f_Scribe_writeNote_46 K n) K l3 l0 l1 l2 (F 7 l0 1) 16 F B)) else none else none else none else none) = some (r, F9, B9) := hf
    refine lv_iload_n hx hb (D_29 W_prog_9_method_13_code_32 14 rfl rfl) rfl (lv_at hl 0 rfl) ?_
    refine lv_aload_n hx hb (D_42 W_prog_9_method_13_code_32 15 rfl rfl) rfl (lv_at hl 1 rfl) ?_
    obtain ⟨g14, hf⟩ := gif hf
    refine zget (ci := 7) (C := RX7) (T := TX7) (v := va_rf (zrf ad 1 (F 7 l0 4))) (k := 4) hx hb hts inW_7 hown hK hZ g14.1 g14.2 rfl (by decide) k_2_102 rfl (D_180 W_prog_9_method_13_code_32 16 rfl rfl rfl) ?_
    obtain ⟨g15, hf⟩ := gif hf
    refine zunrf g15.1 ?_
    refine zget (ci := 1) (C := RX1) (T := TX1) (v := .int (iI (F 1 (F 7 l0 4) 10))) (k := 10) hx hb hts inW_1 hown hK hZ g15.1 g15.2 rfl (by decide) k_2_50 rfl (D_180 W_prog_9_method_13_code_32 19 rfl rfl rfl) ?_
    obtain ⟨g16, hf⟩ := gif hf
    obtain ⟨g17, hf⟩ := gif hf
    refine zge (tgt := 103) hx hb g16 g17 (D_162 W_prog_9_method_13_code_32 22 rfl rfl rfl) (by decide) (fun h18 => ?_) (fun h18 => ?_)
    · replace hf := gpos hf h18
      refine lv_aload_n hx hb (D_42 W_prog_9_method_13_code_96 7 rfl rfl) rfl (lv_at hl 1 rfl) ?_
      refine zget (ci := 7) (C := RX7) (T := TX7) (v := va_rf (zrf ad 0 (F 7 l0 1))) (k := 1) hx hb hts inW_7 hown hK hZ g14.1 g14.2 rfl (by decide) k_2_99 rfl (D_180 W_prog_9_method_13_code_96 8 rfl rfl rfl) ?_
      refine lv_aload_n hx hb (D_42 W_prog_9_method_13_code_96 11 rfl rfl) rfl (lv_at hl 1 rfl) ?_
      refine zget (ci := 7) (C := RX7) (T := TX7) (v := va_rf (zrf ad 1 (F 7 l0 4))) (k := 4) hx hb hts inW_7 hown hK hZ g14.1 g14.2 rfl (by decide) k_2_102 rfl (D_180 W_prog_9_method_13_code_96 12 rfl rfl rfl) ?_
      refine zunrf g15.1 ?_
      refine zget (ci := 1) (C := RX1) (T := TX1) (v := .int (iI (F 1 (F 7 l0 4) 10))) (k := 10) hx hb hts inW_1 hown hK hZ g15.1 g15.2 rfl (by decide) k_2_50 rfl (D_180 W_prog_9_method_13_code_96 15 rfl rfl rfl) ?_
      refine lv_iconst (v := iI 1) hx hb (D_4 W_prog_9_method_13_code_96 18 rfl rfl) rfl ?_
      refine zle (tgt := 123) hx hb g17 (by decide) (D_164 W_prog_9_method_13_code_96 19 rfl rfl rfl) (by decide) (fun h19 => ?_) (fun h19 => ?_)
      · replace hf := gpos hf h19
        refine va_ldcS hx hb hown (hX.2.2.2.2.1 18 _ rfl).1 (D_18 W_prog_9_method_13_code_96 27 rfl rfl) ?_
        exact b_Scribe_writeNote_125 X hf hZ hS (lv_sub hl [1, 2, 3] rfl)
      · replace hf := gneg hf h19
        refine va_ldcS hx hb hown (hX.2.2.2.2.1 17 _ rfl).1 (D_18 W_prog_9_method_13_code_96 22 rfl rfl) ?_
        refine lv_goto (tgt := 125) hx hb (D_167 W_prog_9_method_13_code_96 24 rfl rfl rfl) (by decide) ?_
        exact b_Scribe_writeNote_125 X hf hZ hS (lv_sub hl [1, 2, 3] rfl)
    · replace hf := gneg hf h18
      refine lv_aload_n hx hb (D_42 W_prog_9_method_13_code_32 25 rfl rfl) rfl (lv_at hl 1 rfl) ?_
      refine zget (ci := 7) (C := RX7) (T := TX7) (v := va_rf (zrf ad 0 (F 7 l0 1))) (k := 1) hx hb hts inW_7 hown hK hZ g14.1 g14.2 rfl (by decide) k_2_99 rfl (D_180 W_prog_9_method_13_code_32 26 rfl rfl rfl) ?_
      refine lv_iload_n hx hb (D_29 W_prog_9_method_13_code_32 29 rfl rfl) rfl (lv_at hl 0 rfl) ?_
      refine z0le (tgt := 70) hx hb g16 (D_158 W_prog_9_method_13_code_32 30 rfl rfl rfl) (by decide) (fun h20 => ?_) (fun h20 => ?_)
      · replace hf := gpos hf h20
        refine va_ldcS hx hb hown (hX.2.2.2.2.1 15 _ rfl).1 (D_18 W_prog_9_method_13_code_64 6 rfl rfl) ?_
        exact b_Scribe_writeNote_72 X ih hf hZ hS (lv_sub hl [0, 1, 2, 3] rfl)
      · replace hf := gneg hf h20
        refine va_ldcS hx hb hown (hX.2.2.2.2.1 16 _ rfl).1 (D_18 W_prog_9_method_13_code_64 1 rfl rfl) ?_
        refine lv_goto (tgt := 72) hx hb (D_167 W_prog_9_method_13_code_64 3 rfl rfl rfl) (by decide) ?_
        exact b_Scribe_writeNote_72 X ih hf hZ hS (lv_sub hl [0, 1, 2, 3] rfl)

def f_Scribe_writeNote_41 (K : zK) (l0 : Int) (l1 : Int) (l2 : Int) (s0 : Int) (s1 : Nat) (F : zF) (B : zB) : zO := if 0 ≤ s0 ∧ s0 < K.2 0 then zbind (f_ByteRow_putText K s0 s1 F B) (fun r13 F13 B13 => f_Scribe_writeNote_46 K K.1 0 l0 l1 l2 F13 B13) else none
set_option maxHeartbeats 4000000 in
set_option maxRecDepth 100000 in
theorem b_Scribe_writeNote_41 {D : va_G} {ca : Nat → ClassId} {ad : Nat → Int → Nat → Nat} {L : List Nat} {aS vS : Nat → Nat} {A : Nat → Prop} {p : Program} {l : Launch} {e : Env} {s : State} {m : MethodId} {args : Array Value} {below : List Frame} {meth : Method} {c : Code} {K : zK} {r : Int} {F9 : zF} {B9 : zB} (X : zX D ca L aS vS A p s m args meth c prog_9_method_13_code 4 (Option.none : Option Jvm.ClassFile.FieldType) "StaveHouse$Scribe") {l0 : Int} {l1 : Int} {l2 : Int} {s0 : Int} {s1 : Nat} {F : zF} {B : zB} {H : Heap} {locs : List Loc} {ls : Array Slot} (hf : f_Scribe_writeNote_41 K l0 l1 l2 s0 s1 F B = some (r, F9, B9)) (hZ : zH D ca ad lnC K.2 L F B A H) (hS : va_S A s.heap H locs) (hl : lv_has ls 4 [(0, .ref (ad 7 l0 0)), (1, .int (iI l1)), (2, .int (iI l2))]) : W p l e ({ frames := 5, cells := 0, slots := 0, locals := 108 } : Room) s m args below meth c H locs 0 0 (MQ below (Q_Scribe_writeNote K D ca ad L r F9 B9 A) args s 0 0 A) (F0 m 41 ls [.ref (aS s1), va_rf (zrf ad 0 s0)]) := by
  obtain ⟨hx, hb, hr, hml, hown, hts, hlk, hK, hA, hL, hX⟩ := id X
  replace hf : (if 0 ≤ s0 ∧ s0 < K.2 0 then zbind (f_ByteRow_putText K s0 s1 F B) (fun r13 F13 B13 => f_Scribe_writeNote_46 K K.1 0 l0 l1 l2 F13 B13) else none) = some (r, F9, B9) := hf
  obtain ⟨g12, hf⟩ := gif hf
  refine W.eq (g2 := F0 m 41 ls [.ref (aS s1), .ref (ad 0 s0 0)]) (by rw [zrf_pos (ad := ad) (t := 0) g12.1]; try rfl) ?_
  obtain ⟨r13, F13, B13, hc13, hf⟩ := gbind hf
  refine va_callv (va_runV (As := [.ref (aS s1)]) (rest := []) ⟨hx, hb, hml, hown, hts⟩ (c_ByteRow_putText (l := l) hc13) (cwV 1 hts (gdV k_8_172 k_7_129 k_7_130 k_1_2 k_7_131) rfl rfl rfl (by decide +kernel) ⟨Nat.le_of_ble_eq_true rfl, Nat.le_of_ble_eq_true rfl⟩) (zPV X hZ hS (ci := 0) g12.1 g12.2 (r := (RX0, TX0, 3)) rfl [.ref (aS s1)]) rfl rfl hl.1 rfl (lv_room (Nat.le_of_ble_eq_true rfl)) (D_182 W_prog_9_method_13_code_32 9 rfl rfl rfl) ⟨Nat.le_of_ble_eq_true rfl, Nat.le_of_ble_eq_true rfl⟩) hS (fun q _ h => zAin X hS q h) (zAin X hS) (fun u13 t13 H13 locs13 ht13 hv13 hw13 hB13 hz13 hk13 hS13 => ?_)
  have hZ13 := zBack X ht13 hB13
  refine lv_iconst (v := iI 0) hx hb (D_3 W_prog_9_method_13_code_32 12 rfl rfl) rfl ?_
  refine lv_istore_n (lv' := [(3, .int (iI 0)), (0, .ref (ad 7 l0 0)), (1, .int (iI l1)), (2, .int (iI l2))]) hx hb (D_62 W_prog_9_method_13_code_32 13 rfl rfl) rfl hl (by decide) rfl (fun ls hl => ?_)
  exact b_Scribe_writeNote_46 X hf hZ13 hS13 (lv_sub hl [0, 1, 2, 3] rfl)

def f_Scribe_writeNote_19 (K : zK) (l0 : Int) (l1 : Int) (l2 : Int) (F : zF) (B : zB) : zO := if 0 ≤ l0 ∧ l0 < K.2 7 then if 0 ≤ (F 7 l0 4) ∧ (F 7 l0 4) < K.2 1 then if r32 (F 1 (F 7 l0 4) 10) then (if (F 1 (F 7 l0 4) 10) ≤ 1 then f_Scribe_writeNote_41 K l0 l1 l2 (F 7 l0 1) 15 F B else f_Scribe_writeNote_41 K l0 l1 l2 (F 7 l0 1) 14 F B) else none else none else none
set_option maxHeartbeats 4000000 in
set_option maxRecDepth 100000 in
theorem b_Scribe_writeNote_19 {D : va_G} {ca : Nat → ClassId} {ad : Nat → Int → Nat → Nat} {L : List Nat} {aS vS : Nat → Nat} {A : Nat → Prop} {p : Program} {l : Launch} {e : Env} {s : State} {m : MethodId} {args : Array Value} {below : List Frame} {meth : Method} {c : Code} {K : zK} {r : Int} {F9 : zF} {B9 : zB} (X : zX D ca L aS vS A p s m args meth c prog_9_method_13_code 4 (Option.none : Option Jvm.ClassFile.FieldType) "StaveHouse$Scribe") {l0 : Int} {l1 : Int} {l2 : Int} {F : zF} {B : zB} {H : Heap} {locs : List Loc} {ls : Array Slot} (hf : f_Scribe_writeNote_19 K l0 l1 l2 F B = some (r, F9, B9)) (hZ : zH D ca ad lnC K.2 L F B A H) (hS : va_S A s.heap H locs) (hl : lv_has ls 4 [(0, .ref (ad 7 l0 0)), (1, .int (iI l1)), (2, .int (iI l2))]) : W p l e ({ frames := 5, cells := 0, slots := 0, locals := 108 } : Room) s m args below meth c H locs 0 0 (MQ below (Q_Scribe_writeNote K D ca ad L r F9 B9 A) args s 0 0 A) (F0 m 19 ls []) := by
  obtain ⟨hx, hb, hr, hml, hown, hts, hlk, hK, hA, hL, hX⟩ := id X
  replace hf : (if 0 ≤ l0 ∧ l0 < K.2 7 then if 0 ≤ (F 7 l0 4) ∧ (F 7 l0 4) < K.2 1 then if r32 (F 1 (F 7 l0 4) 10) then (if (F 1 (F 7 l0 4) 10) ≤ 1 then f_Scribe_writeNote_41 K l0 l1 l2 (F 7 l0 1) 15 F B else f_Scribe_writeNote_41 K l0 l1 l2 (F 7 l0 1) 14 F B) else none else none else none) = some (r, F9, B9) := hf
  refine lv_aload_n hx hb (D_42 W_prog_9_method_13_code_0 19 rfl rfl) rfl (lv_at hl 0 rfl) ?_
  obtain ⟨g8, hf⟩ := gif hf
  refine zget (ci := 7) (C := RX7) (T := TX7) (v := va_rf (zrf ad 0 (F 7 l0 1))) (k := 1) hx hb hts inW_7 hown hK hZ g8.1 g8.2 rfl (by decide) k_2_99 rfl (D_180 W_prog_9_method_13_code_0 20 rfl rfl rfl) ?_
  refine lv_aload_n hx hb (D_42 W_prog_9_method_13_code_0 23 rfl rfl) rfl (lv_at hl 0 rfl) ?_
  refine zget (ci := 7) (C := RX7) (T := TX7) (v := va_rf (zrf ad 1 (F 7 l0 4))) (k := 4) hx hb hts inW_7 hown hK hZ g8.1 g8.2 rfl (by decide) k_2_102 rfl (D_180 W_prog_9_method_13_code_0 24 rfl rfl rfl) ?_
  obtain ⟨g9, hf⟩ := gif hf
  refine zunrf g9.1 ?_
  refine zget (ci := 1) (C := RX1) (T := TX1) (v := .int (iI (F 1 (F 7 l0 4) 10))) (k := 10) hx hb hts inW_1 hown hK hZ g9.1 g9.2 rfl (by decide) k_2_50 rfl (D_180 W_prog_9_method_13_code_0 27 rfl rfl rfl) ?_
  refine lv_iconst (v := iI 1) hx hb (D_4 W_prog_9_method_13_code_0 30 rfl rfl) rfl ?_
  obtain ⟨g10, hf⟩ := gif hf
  refine zle (tgt := 39) hx hb g10 (by decide) (D_164 W_prog_9_method_13_code_0 31 rfl rfl rfl) (by decide) (fun h11 => ?_) (fun h11 => ?_)
  · replace hf := gpos hf h11
    refine va_ldcS hx hb hown (hX.2.2.2.2.1 15 _ rfl).1 (D_18 W_prog_9_method_13_code_32 7 rfl rfl) ?_
    exact b_Scribe_writeNote_41 X hf hZ hS (lv_sub hl [0, 1, 2] rfl)
  · replace hf := gneg hf h11
    refine va_ldcS hx hb hown (hX.2.2.2.2.1 14 _ rfl).1 (D_18 W_prog_9_method_13_code_32 2 rfl rfl) ?_
    refine lv_goto (tgt := 41) hx hb (D_167 W_prog_9_method_13_code_32 4 rfl rfl rfl) (by decide) ?_
    exact b_Scribe_writeNote_41 X hf hZ hS (lv_sub hl [0, 1, 2] rfl)

def f_Scribe_writeNote (K : zK) (l0 : Int) (l1 : Int) (l2 : Int) (F : zF) (B : zB) : zO := if 0 ≤ l0 ∧ l0 < K.2 7 then if 0 ≤ (F 7 l0 4) ∧ (F 7 l0 4) < K.2 1 then zbind (f_Event_isRest K (F 7 l0 4) F B) (fun r3 F3 B3 => if r32 r3 then (if r3 = 0 then f_Scribe_writeNote_19 K l0 l1 l2 F3 B3 else if 0 ≤ (F3 7 l0 1) ∧ (F3 7 l0 1) < K.2 0 then zbind (f_ByteRow_put K (F3 7 l0 1) 114 F3 B3) (fun r7 F7 B7 => f_Scribe_writeNote_19 K l0 l1 l2 F7 B7) else none) else none) else none else none
set_option maxHeartbeats 4000000 in
set_option maxRecDepth 100000 in
theorem c_Scribe_writeNote {l : Launch} {D : va_G} {ca : Nat → ClassId} {ad : Nat → Int → Nat → Nat} {L : List Nat} {aS vS : Nat → Nat} {sz : Nat} {K : zK}  {l0 : Int} {l1 : Int} {l2 : Int} {F F9 : zF} {B B9 : zB} {r : Int} (hf : f_Scribe_writeNote K l0 l1 l2 F B = some (r, F9, B9)) : Met l ({ cls := "StaveHouse$Scribe", name := "writeNote", desc := "(IZ)V" } : Jvm.MethodName) (Cond.code ({ cls := "StaveHouse$Scribe", name := "writeNote", desc := "(IZ)V" } : Jvm.MethodName) prog_9_method_13_code 4 (Option.none : Option Jvm.ClassFile.FieldType) :: wAll) ({ frames := 5, cells := 0, slots := 0, locals := 108 } : Room) (va_Pc [.ref (ad 7 l0 0), .int (iI l1), .int (iI l2)] (zPre D ca ad lnC K.2 L aS vS F B sz)) (Q_Scribe_writeNote K D ca ad L r F9 B9 (zA L sz)) 0 0 (zA L sz) := by
  refine zMet (Qc := Q_Scribe_writeNote K D ca ad L r F9 B9) (lv := [(0, .ref (ad 7 l0 0)), (1, .int (iI l1)), (2, .int (iI l2))]) (by decide) (Nat.le_of_ble_eq_true rfl) rfl (fun A p e s m below meth c ls X hZ hS hl => ?_)
  obtain ⟨hx, hb, hr, hml, hown, hts, hlk, hK, hA, hL, hX⟩ := id X
  replace hf : (if 0 ≤ l0 ∧ l0 < K.2 7 then if 0 ≤ (F 7 l0 4) ∧ (F 7 l0 4) < K.2 1 then zbind (f_Event_isRest K (F 7 l0 4) F B) (fun r3 F3 B3 => if r32 r3 then (if r3 = 0 then f_Scribe_writeNote_19 K l0 l1 l2 F3 B3 else if 0 ≤ (F3 7 l0 1) ∧ (F3 7 l0 1) < K.2 0 then zbind (f_ByteRow_put K (F3 7 l0 1) 114 F3 B3) (fun r7 F7 B7 => f_Scribe_writeNote_19 K l0 l1 l2 F7 B7) else none) else none) else none else none) = some (r, F9, B9) := hf
  refine lv_aload_n hx hb (D_42 W_prog_9_method_13_code_0 0 rfl rfl) rfl (lv_at hl 0 rfl) ?_
  obtain ⟨g1, hf⟩ := gif hf
  refine zget (ci := 7) (C := RX7) (T := TX7) (v := va_rf (zrf ad 1 (F 7 l0 4))) (k := 4) hx hb hts inW_7 hown hK hZ g1.1 g1.2 rfl (by decide) k_2_102 rfl (D_180 W_prog_9_method_13_code_0 1 rfl rfl rfl) ?_
  obtain ⟨g2, hf⟩ := gif hf
  refine W.eq (g2 := F0 m 4 ls [.ref (ad 1 (F 7 l0 4) 0)]) (by rw [zrf_pos (ad := ad) (t := 1) g2.1]; try rfl) ?_
  obtain ⟨r3, F3, B3, hc3, hf⟩ := gbind hf
  refine va_calli (va_runV (As := []) (rest := []) ⟨hx, hb, hml, hown, hts⟩ (c_Event_isRest (l := l) hc3) (cwV 0 hts (gdV k_8_207 k_5_79 k_5_80 k_1_8 k_5_81) rfl rfl rfl (by decide +kernel) ⟨Nat.le_of_ble_eq_true rfl, Nat.le_of_ble_eq_true rfl⟩) (zPV X hZ hS (ci := 1) g2.1 g2.2 (r := (RX1, TX1, 14)) rfl []) rfl rfl hl.1 rfl (lv_room (Nat.le_of_ble_eq_true rfl)) (D_182 W_prog_9_method_13_code_0 4 rfl rfl rfl) ⟨Nat.le_of_ble_eq_true rfl, Nat.le_of_ble_eq_true rfl⟩) hS (fun q _ h => zAin X hS q h) (zAin X hS) (fun p3 u3 t3 H3 locs3 ht3 hv3 hw3 hB3 hz3 hk3 hS3 => ?_)
  have hZ3 := zBack X ht3 hB3
  subst hw3
  obtain ⟨g4, hf⟩ := gif hf
  refine z0eq (tgt := 19) hx hb g4 (D_153 W_prog_9_method_13_code_0 7 rfl rfl rfl) (by decide) (fun h5 => ?_) (fun h5 => ?_)
  · replace hf := gpos hf h5
    exact b_Scribe_writeNote_19 X hf hZ3 hS3 (lv_sub hl [0, 1, 2] rfl)
  · replace hf := gneg hf h5
    refine lv_aload_n hx hb (D_42 W_prog_9_method_13_code_0 10 rfl rfl) rfl (lv_at hl 0 rfl) ?_
    refine zget (ci := 7) (C := RX7) (T := TX7) (v := va_rf (zrf ad 0 (F3 7 l0 1))) (k := 1) hx hb hts inW_7 hown hK hZ3 g1.1 g1.2 rfl (by decide) k_2_99 rfl (D_180 W_prog_9_method_13_code_0 11 rfl rfl rfl) ?_
    refine lv_bipush (v := iI 114) hx hb (D_16 W_prog_9_method_13_code_0 14 rfl rfl rfl) (by decide) ?_
    obtain ⟨g6, hf⟩ := gif hf
    refine W.eq (g2 := F0 m 16 ls [.int (iI 114), .ref (ad 0 (F3 7 l0 1) 0)]) (by rw [zrf_pos (ad := ad) (t := 0) g6.1]; try rfl) ?_
    obtain ⟨r7, F7, B7, hc7, hf⟩ := gbind hf
    refine va_callv (va_runV (As := [.int (iI 114)]) (rest := []) ⟨hx, hb, hml, hown, hts⟩ (c_ByteRow_put (l := l) hc7) (cwV 1 hts (gdV k_8_180 k_2_171 k_2_172 k_1_2 k_2_173) rfl rfl rfl (by decide +kernel) ⟨Nat.le_of_ble_eq_true rfl, Nat.le_of_ble_eq_true rfl⟩) (zPV X hZ3 hS3 (ci := 0) g6.1 g6.2 (r := (RX0, TX0, 3)) rfl [.int (iI 114)]) rfl rfl hl.1 rfl (lv_room (Nat.le_of_ble_eq_true rfl)) (D_182 W_prog_9_method_13_code_0 16 rfl rfl rfl) ⟨Nat.le_of_ble_eq_true rfl, Nat.le_of_ble_eq_true rfl⟩) hS3 (fun q _ h => zAin X hS3 q h) (zAin X hS3) (fun u7 t7 H7 locs7 ht7 hv7 hw7 hB7 hz7 hk7 hS7 => ?_)
    have hZ7 := zBack X ht7 hB7
    exact b_Scribe_writeNote_19 X hf hZ7 hS7 (lv_sub hl [0, 1, 2] rfl)

abbrev Q_Performance_playOn (K : zK) (D : va_G) (ca : Nat → ClassId) (ad : Nat → Int → Nat → Nat) (L : List Nat) (r : Int) (F : zF) (B : zB) (A : Nat → Prop) : Array Value → State → Outcome → State → Prop := va_Qi (S := Unit) (fun p _ => p = iI r) (fun _ => zPo D ca ad lnC K.2 L F B A) A
def f_Performance_playOn_45 (K : zK) : Nat → Int → Int → Int → zF → zB → zO
  | 0, _, _, _, _, _ => none
  | n + 1, l3, l0, l2, F, B => if r32 l3 then if r32 l2 then (if l2 ≤ l3 then if 0 ≤ l0 ∧ l0 < K.2 5 then some ((F 5 l0 2) + l2, (zup3 (zup3 F 5 l0 3 l2) 5 l0 2 ((F 5 l0 2) + l2)), B) else none else if 0 ≤ l0 ∧ l0 < K.2 5 then if 0 ≤ l3 ∧ l3 < 1000 then if r32 (B 5 l0 6 l3) then if r32 (zmin 32767 (B 5 l0 6 l3)) then zbind (f_Performance_nextCode K l0 (zup3 F 5 l0 11 ((F 5 l0 11) + (zdv ((zmax (-32768) (zmin 32767 (B 5 l0 6 l3))) - (F 5 l0 11)) 2))) (zup4 B 5 l0 4 l3 ((F 5 l0 11) + (zdv ((zmax (-32768) (zmin 32767 (B 5 l0 6 l3))) - (F 5 l0 11)) 2)))) (fun r24 F24 B24 => f_Performance_playOn_45 K n (l3 + 1) l0 l2 F24 (zup4 B24 5 l0 5 l3 r24)) else none else none else none else none) else none else none
set_option maxHeartbeats 4000000 in
set_option maxRecDepth 100000 in
theorem b_Performance_playOn_45 {D : va_G} {ca : Nat → ClassId} {ad : Nat → Int → Nat → Nat} {L : List Nat} {aS vS : Nat → Nat} {A : Nat → Prop} {p : Program} {l : Launch} {e : Env} {s : State} {m : MethodId} {args : Array Value} {below : List Frame} {meth : Method} {c : Code} {K : zK} {r : Int} {F9 : zF} {B9 : zB} (X : zX D ca L aS vS A p s m args meth c prog_7_method_24_code 5 (Option.some Jvm.ClassFile.FieldType.int) "StaveHouse$Performance") : ∀ {n : Nat} {l3 : Int} {l0 : Int} {l2 : Int} {F : zF} {B : zB} {H : Heap} {locs : List Loc} {ls : Array Slot}, f_Performance_playOn_45 K n l3 l0 l2 F B = some (r, F9, B9) → zH D ca ad lnC K.2 L F B A H → va_S A s.heap H locs → lv_has ls 5 [(3, .int (iI l3)), (0, .ref (ad 5 l0 0)), (2, .int (iI l2))] → W p l e ({ frames := 4, cells := 0, slots := 0, locals := 88 } : Room) s m args below meth c H locs 0 0 (MQ below (Q_Performance_playOn K D ca ad L r F9 B9 A) args s 0 0 A) (F0 m 45 ls []) := by
  obtain ⟨hx, hb, hr, hml, hown, hts, hlk, hK, hA, hL, hX⟩ := id X
  intro n
  induction n with
  | zero =>
    intros
    rename_i hf _ _ _
    cases hf
  | succ n ih =>
    intro l3 l0 l2 F B H locs ls hf hZ hS hl
    replace hf : (if r32 l3 then if r32 l2 then (if l2 ≤ l3 then if 0 ≤ l0 ∧ l0 < K.2 5 then some ((F 5 l0 2) + l2, (zup3 (zup3 F 5 l0 3 l2) 5 l0 2 ((F 5 l0 2) + l2)), B) else none else if 0 ≤ l0 ∧ l0 < K.2 5 then if 0 ≤ l3 ∧ l3 < 1000 then if r32 (B 5 l0 6 l3) then if r32 (zmin 32767 (B 5 l0 6 l3)) then zbind (f_Performance_nextCode K l0 (zup3 F 5 l0 11 ((F 5 l0 11) + (zdv ((zmax (-32768) (zmin 32767 (B 5 l0 6 l3))) - (F 5 l0 11)) 2))) (zup4 B 5 l0 4 l3 ((F 5 l0 11) + (zdv ((zmax (-32768) (zmin 32767 (B 5 l0 6 l3))) - (F 5 l0 11)) 2)))) (fun r24 F24 B24 => f_Performance_playOn_45 K n (l3 + 1) l0 l2 F24 (zup4 B24 5 l0 5 l3 r24)) else none else none else none else none) else none else none) = some (r, F9, B9) := hf
    refine lv_iload_n hx hb (D_29 W_prog_7_method_24_code_32 13 rfl rfl) rfl (lv_at hl 0 rfl) ?_
    refine lv_iload_n hx hb (D_28 W_prog_7_method_24_code_32 14 rfl rfl) rfl (lv_at hl 2 rfl) ?_
    obtain ⟨g12, hf⟩ := gif hf
    obtain ⟨g13, hf⟩ := gif hf
    refine zge (tgt := 114) hx hb g12 g13 (D_162 W_prog_7_method_24_code_32 15 rfl rfl rfl) (by decide) (fun h14 => ?_) (fun h14 => ?_)
    · replace hf := gpos hf h14
      refine lv_aload_n hx hb (D_42 W_prog_7_method_24_code_96 18 rfl rfl) rfl (lv_at hl 1 rfl) ?_
      refine lv_iload_n hx hb (D_28 W_prog_7_method_24_code_96 19 rfl rfl) rfl (lv_at hl 2 rfl) ?_
      obtain ⟨g15, hf⟩ := gif hf
      refine zput (ci := 5) (C := RX5) (T := TX5) (k := 3) (v := l2) (w := .int (iI l2)) hx hb hts inW_5 tyX5 tyX5_ok nmX5 hown hK hZ hS g15.1 g15.2 rfl (by decide) k_6_69 rfl (fun G h => congrArg (fun q => Value.int (iI q)) h) rfl rfl (zno (by decide)) (D_181 W_prog_7_method_24_code_96 20 rfl rfl rfl) (fun H16 locs16 hZ16 hS16 => ?_)
      refine lv_aload_n hx hb (D_42 W_prog_7_method_24_code_96 23 rfl rfl) rfl (lv_at hl 1 rfl) ?_
      refine lv_dup hx hb (D_89 W_prog_7_method_24_code_96 24 rfl rfl) rfl ?_
      refine zget (ci := 5) (C := RX5) (T := TX5) (v := .int (iI (F 5 l0 2))) (k := 2) hx hb hts inW_5 hown hK hZ16 g15.1 g15.2 rfl (by decide) k_6_68 (congrArg (fun q : Int => Value.int (iI q)) (show (zup3 F 5 l0 3 l2) 5 l0 2 = F 5 l0 2 by simp [zup3])) (D_180 W_prog_7_method_24_code_96 25 rfl rfl rfl) ?_
      refine lv_iload_n hx hb (D_28 W_prog_7_method_24_code_96 28 rfl rfl) rfl (lv_at hl 2 rfl) ?_
      refine zadd hx hb (D_96 W_prog_7_method_24_code_96 29 rfl rfl) ?_
      refine zput (ci := 5) (C := RX5) (T := TX5) (k := 2) (v := ((F 5 l0 2) + l2)) (w := .int (iI ((F 5 l0 2) + l2))) hx hb hts inW_5 tyX5 tyX5_ok nmX5 hown hK hZ16 hS16 g15.1 g15.2 rfl (by decide) k_6_68 rfl (fun G h => congrArg (fun q => Value.int (iI q)) h) rfl rfl (zno (by decide)) (D_181 W_prog_7_method_24_code_96 30 rfl rfl rfl) (fun H17 locs17 hZ17 hS17 => ?_)
      refine lv_aload_n hx hb (D_42 W_prog_7_method_24_code_128 1 rfl rfl) rfl (lv_at hl 1 rfl) ?_
      refine zget (ci := 5) (C := RX5) (T := TX5) (v := .int (iI ((F 5 l0 2) + l2))) (k := 2) hx hb hts inW_5 hown hK hZ17 g15.1 g15.2 rfl (by decide) k_6_68 (congrArg (fun q : Int => Value.int (iI q)) (show (zup3 (zup3 F 5 l0 3 l2) 5 l0 2 ((F 5 l0 2) + l2)) 5 l0 2 = (F 5 l0 2) + l2 by simp [zup3])) (D_180 W_prog_7_method_24_code_128 2 rfl rfl rfl) ?_
      cases hf
      exact W.iret hx hb hr (fun t ht hW => ⟨⟨_, (), rfl, rfl, by rw [ht]; exact hZ17, va_K.moved hW.alike hK⟩, hS17.F ht⟩) hS17.2.2 (D_172 W_prog_7_method_24_code_128 5 rfl rfl) hlk
    · replace hf := gneg hf h14
      refine lv_sipush (v := iI (-32768)) hx hb (D_17 W_prog_7_method_24_code_32 18 rfl rfl rfl) (by decide) ?_
      refine lv_sipush (v := iI 32767) hx hb (D_17 W_prog_7_method_24_code_32 21 rfl rfl rfl) (by decide) ?_
      refine lv_aload_n hx hb (D_42 W_prog_7_method_24_code_32 24 rfl rfl) rfl (lv_at hl 1 rfl) ?_
      obtain ⟨g18, hf⟩ := gif hf
      refine zget (ci := 5) (C := RX5) (T := TX5) (v := .ref (ad 5 l0 (6 + 1))) (k := 6) hx hb hts inW_5 hown hK hZ g18.1 g18.2 rfl (by decide) k_6_75 rfl (D_180 W_prog_7_method_24_code_32 25 rfl rfl rfl) ?_
      refine lv_iload_n hx hb (D_29 W_prog_7_method_24_code_32 28 rfl rfl) rfl (lv_at hl 0 rfl) ?_
      obtain ⟨g19, hf⟩ := gif hf
      refine zald (ci := 5) (k := 6) hx hb hK rfl hZ g18.1 g18.2 rfl (Nat.le_of_ble_eq_true rfl) g19.1 g19.2 (D_46 W_prog_7_method_24_code_32 29 rfl rfl) ?_
      obtain ⟨g20, hf⟩ := gif hf
      refine va_mmin hx hb (by rw [hml]; exact hl.1.symm) hown (hts _ k_6_134) (hts _ k_3_97) (hts _ k_1_3) (hts _ k_3_98) (Nat.le_of_ble_eq_true rfl) (Nat.le_of_ble_eq_true rfl) (Nat.le_of_ble_eq_true rfl) (Nat.le_of_ble_eq_true rfl) (D_184 W_prog_7_method_24_code_32 30 rfl rfl rfl) ?_
      rw [zmin_e (by decide) g20]
      obtain ⟨g21, hf⟩ := gif hf
      refine va_mmax hx hb (by rw [hml]; exact hl.1.symm) hown (hts _ k_6_153) (hts _ k_1_39) (hts _ k_1_3) (hts _ k_1_40) (Nat.le_of_ble_eq_true rfl) (Nat.le_of_ble_eq_true rfl) (Nat.le_of_ble_eq_true rfl) (Nat.le_of_ble_eq_true rfl) (D_184 W_prog_7_method_24_code_64 1 rfl rfl rfl) ?_
      rw [zmax_e (by decide) g21]
      refine lv_istore (lv' := [(4, .int (iI (zmax (-32768) (zmin 32767 (B 5 l0 6 l3))))), (3, .int (iI l3)), (0, .ref (ad 5 l0 0)), (2, .int (iI l2))]) hx hb (D_54 W_prog_7_method_24_code_64 4 rfl rfl) hl (by decide) rfl (fun ls hl => ?_)
      refine lv_aload_n hx hb (D_42 W_prog_7_method_24_code_64 6 rfl rfl) rfl (lv_at hl 2 rfl) ?_
      refine lv_dup hx hb (D_89 W_prog_7_method_24_code_64 7 rfl rfl) rfl ?_
      refine zget (ci := 5) (C := RX5) (T := TX5) (v := .int (iI (F 5 l0 11))) (k := 11) hx hb hts inW_5 hown hK hZ g18.1 g18.2 rfl (by decide) k_6_80 rfl (D_180 W_prog_7_method_24_code_64 8 rfl rfl rfl) ?_
      refine lv_iload hx hb (D_21 W_prog_7_method_24_code_64 11 rfl rfl) (lv_at hl 0 rfl) ?_
      refine lv_aload_n hx hb (D_42 W_prog_7_method_24_code_64 13 rfl rfl) rfl (lv_at hl 2 rfl) ?_
      refine zget (ci := 5) (C := RX5) (T := TX5) (v := .int (iI (F 5 l0 11))) (k := 11) hx hb hts inW_5 hown hK hZ g18.1 g18.2 rfl (by decide) k_6_80 rfl (D_180 W_prog_7_method_24_code_64 14 rfl rfl rfl) ?_
      refine zsub hx hb (D_100 W_prog_7_method_24_code_64 17 rfl rfl) ?_
      refine lv_iconst (v := iI 2) hx hb (D_5 W_prog_7_method_24_code_64 18 rfl rfl) rfl ?_
      refine zdv_r hx hb (by decide) (D_108 W_prog_7_method_24_code_64 19 rfl rfl) ?_
      refine zadd hx hb (D_96 W_prog_7_method_24_code_64 20 rfl rfl) ?_
      refine zput (ci := 5) (C := RX5) (T := TX5) (k := 11) (v := ((F 5 l0 11) + (zdv ((zmax (-32768) (zmin 32767 (B 5 l0 6 l3))) - (F 5 l0 11)) 2))) (w := .int (iI ((F 5 l0 11) + (zdv ((zmax (-32768) (zmin 32767 (B 5 l0 6 l3))) - (F 5 l0 11)) 2)))) hx hb hts inW_5 tyX5 tyX5_ok nmX5 hown hK hZ hS g18.1 g18.2 rfl (by decide) k_6_80 rfl (fun G h => congrArg (fun q => Value.int (iI q)) h) rfl rfl (zno (by decide)) (D_181 W_prog_7_method_24_code_64 21 rfl rfl rfl) (fun H22 locs22 hZ22 hS22 => ?_)
      refine lv_aload_n hx hb (D_42 W_prog_7_method_24_code_64 24 rfl rfl) rfl (lv_at hl 2 rfl) ?_
      refine zget (ci := 5) (C := RX5) (T := TX5) (v := .ref (ad 5 l0 (4 + 1))) (k := 4) hx hb hts inW_5 hown hK hZ22 g18.1 g18.2 rfl (by decide) k_6_71 rfl (D_180 W_prog_7_method_24_code_64 25 rfl rfl rfl) ?_
      refine lv_iload_n hx hb (D_29 W_prog_7_method_24_code_64 28 rfl rfl) rfl (lv_at hl 1 rfl) ?_
      refine lv_aload_n hx hb (D_42 W_prog_7_method_24_code_64 29 rfl rfl) rfl (lv_at hl 2 rfl) ?_
      refine zget (ci := 5) (C := RX5) (T := TX5) (v := .int (iI ((F 5 l0 11) + (zdv ((zmax (-32768) (zmin 32767 (B 5 l0 6 l3))) - (F 5 l0 11)) 2)))) (k := 11) hx hb hts inW_5 hown hK hZ22 g18.1 g18.2 rfl (by decide) k_6_80 (congrArg (fun q : Int => Value.int (iI q)) (show (zup3 F 5 l0 11 ((F 5 l0 11) + (zdv ((zmax (-32768) (zmin 32767 (B 5 l0 6 l3))) - (F 5 l0 11)) 2))) 5 l0 11 = (F 5 l0 11) + (zdv ((zmax (-32768) (zmin 32767 (B 5 l0 6 l3))) - (F 5 l0 11)) 2) by simp [zup3])) (D_180 W_prog_7_method_24_code_64 30 rfl rfl rfl) ?_
      refine zast (ci := 5) (k := 4) hx hb hK rfl hZ22 hS22 g18.1 g18.2 rfl (Nat.le_of_ble_eq_true rfl) g19.1 g19.2 (D_79 W_prog_7_method_24_code_96 1 rfl rfl) (fun H23 locs23 hZ23 hS23 => ?_)
      refine lv_aload_n hx hb (D_42 W_prog_7_method_24_code_96 2 rfl rfl) rfl (lv_at hl 2 rfl) ?_
      refine zget (ci := 5) (C := RX5) (T := TX5) (v := .ref (ad 5 l0 (5 + 1))) (k := 5) hx hb hts inW_5 hown hK hZ23 g18.1 g18.2 rfl (by decide) k_6_73 rfl (D_180 W_prog_7_method_24_code_96 3 rfl rfl rfl) ?_
      refine lv_iload_n hx hb (D_29 W_prog_7_method_24_code_96 6 rfl rfl) rfl (lv_at hl 1 rfl) ?_
      refine lv_aload_n hx hb (D_42 W_prog_7_method_24_code_96 7 rfl rfl) rfl (lv_at hl 2 rfl) ?_
      obtain ⟨r24, F24, B24, hc24, hf⟩ := gbind hf
      refine va_calli (va_runV (As := []) (rest := [.int (iI l3), .ref (ad 5 l0 (5 + 1))]) ⟨hx, hb, hml, hown, hts⟩ (c_Performance_nextCode (l := l) hc24) (cwV 0 hts (gdV k_9_22 k_9_24 ks_124 k_1_20 k_9_25) rfl rfl rfl (by decide +kernel) ⟨Nat.le_of_ble_eq_true rfl, Nat.le_of_ble_eq_true rfl⟩) (zPV X hZ23 hS23 (ci := 5) g18.1 g18.2 (r := (RX5, TX5, 14)) rfl []) rfl rfl hl.1 rfl (lv_room (Nat.le_of_ble_eq_true rfl)) (D_182 W_prog_7_method_24_code_96 8 rfl rfl rfl) ⟨Nat.le_of_ble_eq_true rfl, Nat.le_of_ble_eq_true rfl⟩) hS23 (fun q _ h => zAin X hS23 q h) (zAin X hS23) (fun p24 u24 t24 H24 locs24 ht24 hv24 hw24 hB24 hz24 hk24 hS24 => ?_)
      have hZ24 := zBack X ht24 hB24
      subst hw24
      refine zast (ci := 5) (k := 5) hx hb hK rfl hZ24 hS24 g18.1 g18.2 rfl (Nat.le_of_ble_eq_true rfl) g19.1 g19.2 (D_79 W_prog_7_method_24_code_96 11 rfl rfl) (fun H25 locs25 hZ25 hS25 => ?_)
      refine lv_iinc (v := iI (l3 + 1)) (lv' := [(3, .int (iI (l3 + 1))), (4, .int (iI (zmax (-32768) (zmin 32767 (B 5 l0 6 l3))))), (0, .ref (ad 5 l0 0)), (2, .int (iI l2))]) hx hb d_7_24_108 hl (k := 1) rfl (iI_add _ 1) (by decide) rfl (fun ls hl => ?_)
      refine lv_goto (tgt := 45) hx hb (D_167 W_prog_7_method_24_code_96 15 rfl rfl rfl) (by decide) ?_
      exact ih hf hZ25 hS25 (lv_sub hl [0, 2, 3] rfl)

def f_Performance_playOn_22 (K : zK) : Nat → Int → Int → Int → Int → zF → zB → zO
  | 0, _, _, _, _, _, _ => none
  | n + 1, l3, l0, l1, l2, F, B => if 0 ≤ l0 ∧ l0 < K.2 5 then if r32 l3 then if r32 (F 5 l0 0) then (if (F 5 l0 0) ≤ l3 then f_Performance_playOn_45 K K.1 0 l0 l2 F B else zbind (f_Performance_mixSound K l0 l1 l3 l2 F B) (fun r11 F11 B11 => f_Performance_playOn_22 K n (l3 + 1) l0 l1 l2 F11 B11)) else none else none else none
set_option maxHeartbeats 4000000 in
set_option maxRecDepth 100000 in
theorem b_Performance_playOn_22 {D : va_G} {ca : Nat → ClassId} {ad : Nat → Int → Nat → Nat} {L : List Nat} {aS vS : Nat → Nat} {A : Nat → Prop} {p : Program} {l : Launch} {e : Env} {s : State} {m : MethodId} {args : Array Value} {below : List Frame} {meth : Method} {c : Code} {K : zK} {r : Int} {F9 : zF} {B9 : zB} (X : zX D ca L aS vS A p s m args meth c prog_7_method_24_code 5 (Option.some Jvm.ClassFile.FieldType.int) "StaveHouse$Performance") : ∀ {n : Nat} {l3 : Int} {l0 : Int} {l1 : Int} {l2 : Int} {F : zF} {B : zB} {H : Heap} {locs : List Loc} {ls : Array Slot}, f_Performance_playOn_22 K n l3 l0 l1 l2 F B = some (r, F9, B9) → zH D ca ad lnC K.2 L F B A H → va_S A s.heap H locs → lv_has ls 5 [(3, .int (iI l3)), (0, .ref (ad 5 l0 0)), (1, .ref (ad 6 l1 0)), (2, .int (iI l2))] → W p l e ({ frames := 4, cells := 0, slots := 0, locals := 88 } : Room) s m args below meth c H locs 0 0 (MQ below (Q_Performance_playOn K D ca ad L r F9 B9 A) args s 0 0 A) (F0 m 22 ls []) := by
  obtain ⟨hx, hb, hr, hml, hown, hts, hlk, hK, hA, hL, hX⟩ := id X
  intro n
  induction n with
  | zero =>
    intros
    rename_i hf _ _ _
    cases hf
  | succ n ih =>
    intro l3 l0 l1 l2 F B H locs ls hf hZ hS hl
    replace hf : (if 0 ≤ l0 ∧ l0 < K.2 5 then if r32 l3 then if r32 (F 5 l0 0) then (if (F 5 l0 0) ≤ l3 then f_Performance_playOn_45 K K.1 0 l0 l2 F B else zbind (f_Performance_mixSound K l0 l1 l3 l2 F B) (fun r11 F11 B11 => f_Performance_playOn_22 K n (l3 + 1) l0 l1 l2 F11 B11)) else none else none else none) = some (r, F9, B9) := hf
    refine lv_iload_n hx hb (D_29 W_prog_7_method_24_code_0 22 rfl rfl) rfl (lv_at hl 0 rfl) ?_
    refine lv_aload_n hx hb (D_42 W_prog_7_method_24_code_0 23 rfl rfl) rfl (lv_at hl 1 rfl) ?_
    obtain ⟨g7, hf⟩ := gif hf
    refine zget (ci := 5) (C := RX5) (T := TX5) (v := .int (iI (F 5 l0 0))) (k := 0) hx hb hts inW_5 hown hK hZ g7.1 g7.2 rfl (by decide) k_6_63 rfl (D_180 W_prog_7_method_24_code_0 24 rfl rfl rfl) ?_
    obtain ⟨g8, hf⟩ := gif hf
    obtain ⟨g9, hf⟩ := gif hf
    refine zge (tgt := 43) hx hb g8 g9 (D_162 W_prog_7_method_24_code_0 27 rfl rfl rfl) (by decide) (fun h10 => ?_) (fun h10 => ?_)
    · replace hf := gpos hf h10
      refine lv_iconst (v := iI 0) hx hb (D_3 W_prog_7_method_24_code_32 11 rfl rfl) rfl ?_
      refine lv_istore_n (lv' := [(3, .int (iI 0)), (0, .ref (ad 5 l0 0)), (1, .ref (ad 6 l1 0)), (2, .int (iI l2))]) hx hb (D_62 W_prog_7_method_24_code_32 12 rfl rfl) rfl hl (by decide) rfl (fun ls hl => ?_)
      exact b_Performance_playOn_45 X hf hZ hS (lv_sub hl [0, 1, 3] rfl)
    · replace hf := gneg hf h10
      refine lv_aload_n hx hb (D_42 W_prog_7_method_24_code_0 30 rfl rfl) rfl (lv_at hl 1 rfl) ?_
      refine lv_aload_n hx hb (D_43 W_prog_7_method_24_code_0 31 rfl rfl) rfl (lv_at hl 2 rfl) ?_
      refine lv_iload_n hx hb (D_29 W_prog_7_method_24_code_32 0 rfl rfl) rfl (lv_at hl 0 rfl) ?_
      refine lv_iload_n hx hb (D_28 W_prog_7_method_24_code_32 1 rfl rfl) rfl (lv_at hl 3 rfl) ?_
      obtain ⟨r11, F11, B11, hc11, hf⟩ := gbind hf
      refine va_callv (va_runV (As := [.ref (ad 6 l1 0), .int (iI l3), .int (iI l2)]) (rest := []) ⟨hx, hb, hml, hown, hts⟩ (c_Performance_mixSound (l := l) hc11) (cwV 3 hts (gdV k_9_2 k_9_4 ks_123 k_1_20 k_9_5) rfl rfl rfl (by decide +kernel) ⟨Nat.le_of_ble_eq_true rfl, Nat.le_of_ble_eq_true rfl⟩) (zPV X hZ hS (ci := 5) g7.1 g7.2 (r := (RX5, TX5, 14)) rfl [.ref (ad 6 l1 0), .int (iI l3), .int (iI l2)]) rfl rfl hl.1 rfl (lv_room (Nat.le_of_ble_eq_true rfl)) (D_182 W_prog_7_method_24_code_32 2 rfl rfl rfl) ⟨Nat.le_of_ble_eq_true rfl, Nat.le_of_ble_eq_true rfl⟩) hS (fun q _ h => zAin X hS q h) (zAin X hS) (fun u11 t11 H11 locs11 ht11 hv11 hw11 hB11 hz11 hk11 hS11 => ?_)
      have hZ11 := zBack X ht11 hB11
      refine lv_iinc (v := iI (l3 + 1)) (lv' := [(3, .int (iI (l3 + 1))), (0, .ref (ad 5 l0 0)), (1, .ref (ad 6 l1 0)), (2, .int (iI l2))]) hx hb d_7_24_37 hl (k := 0) rfl (iI_add _ 1) (by decide) rfl (fun ls hl => ?_)
      refine lv_goto (tgt := 22) hx hb (D_167 W_prog_7_method_24_code_32 8 rfl rfl rfl) (by decide) ?_
      exact ih hf hZ11 hS11 (lv_sub hl [0, 1, 2, 3] rfl)

def f_Performance_playOn_2 (K : zK) : Nat → Int → Int → Int → Int → zF → zB → zO
  | 0, _, _, _, _, _, _ => none
  | n + 1, l3, l0, l1, l2, F, B => if r32 l3 then if r32 l2 then (if l2 ≤ l3 then f_Performance_playOn_22 K K.1 0 l0 l1 l2 F B else if 0 ≤ l0 ∧ l0 < K.2 5 then if 0 ≤ l3 ∧ l3 < 1000 then f_Performance_playOn_2 K n (l3 + 1) l0 l1 l2 F (zup4 B 5 l0 6 l3 0) else none else none) else none else none
set_option maxHeartbeats 4000000 in
set_option maxRecDepth 100000 in
theorem b_Performance_playOn_2 {D : va_G} {ca : Nat → ClassId} {ad : Nat → Int → Nat → Nat} {L : List Nat} {aS vS : Nat → Nat} {A : Nat → Prop} {p : Program} {l : Launch} {e : Env} {s : State} {m : MethodId} {args : Array Value} {below : List Frame} {meth : Method} {c : Code} {K : zK} {r : Int} {F9 : zF} {B9 : zB} (X : zX D ca L aS vS A p s m args meth c prog_7_method_24_code 5 (Option.some Jvm.ClassFile.FieldType.int) "StaveHouse$Performance") : ∀ {n : Nat} {l3 : Int} {l0 : Int} {l1 : Int} {l2 : Int} {F : zF} {B : zB} {H : Heap} {locs : List Loc} {ls : Array Slot}, f_Performance_playOn_2 K n l3 l0 l1 l2 F B = some (r, F9, B9) → zH D ca ad lnC K.2 L F B A H → va_S A s.heap H locs → lv_has ls 5 [(3, .int (iI l3)), (0, .ref (ad 5 l0 0)), (1, .ref (ad 6 l1 0)), (2, .int (iI l2))] → W p l e ({ frames := 4, cells := 0, slots := 0, locals := 88 } : Room) s m args below meth c H locs 0 0 (MQ below (Q_Performance_playOn K D ca ad L r F9 B9 A) args s 0 0 A) (F0 m 2 ls []) := by
  obtain ⟨hx, hb, hr, hml, hown, hts, hlk, hK, hA, hL, hX⟩ := id X
  intro n
  induction n with
  | zero =>
    intros
    rename_i hf _ _ _
    cases hf
  | succ n ih =>
    intro l3 l0 l1 l2 F B H locs ls hf hZ hS hl
    replace hf : (if r32 l3 then if r32 l2 then (if l2 ≤ l3 then f_Performance_playOn_22 K K.1 0 l0 l1 l2 F B else if 0 ≤ l0 ∧ l0 < K.2 5 then if 0 ≤ l3 ∧ l3 < 1000 then f_Performance_playOn_2 K n (l3 + 1) l0 l1 l2 F (zup4 B 5 l0 6 l3 0) else none else none) else none else none) = some (r, F9, B9) := hf
    refine lv_iload_n hx hb (D_29 W_prog_7_method_24_code_0 2 rfl rfl) rfl (lv_at hl 0 rfl) ?_
    refine lv_iload_n hx hb (D_28 W_prog_7_method_24_code_0 3 rfl rfl) rfl (lv_at hl 3 rfl) ?_
    obtain ⟨g1, hf⟩ := gif hf
    obtain ⟨g2, hf⟩ := gif hf
    refine zge (tgt := 20) hx hb g1 g2 (D_162 W_prog_7_method_24_code_0 4 rfl rfl rfl) (by decide) (fun h3 => ?_) (fun h3 => ?_)
    · replace hf := gpos hf h3
      refine lv_iconst (v := iI 0) hx hb (D_3 W_prog_7_method_24_code_0 20 rfl rfl) rfl ?_
      refine lv_istore_n (lv' := [(3, .int (iI 0)), (0, .ref (ad 5 l0 0)), (1, .ref (ad 6 l1 0)), (2, .int (iI l2))]) hx hb (D_62 W_prog_7_method_24_code_0 21 rfl rfl) rfl hl (by decide) rfl (fun ls hl => ?_)
      exact b_Performance_playOn_22 X hf hZ hS (lv_sub hl [0, 1, 2, 3] rfl)
    · replace hf := gneg hf h3
      refine lv_aload_n hx hb (D_42 W_prog_7_method_24_code_0 7 rfl rfl) rfl (lv_at hl 1 rfl) ?_
      obtain ⟨g4, hf⟩ := gif hf
      refine zget (ci := 5) (C := RX5) (T := TX5) (v := .ref (ad 5 l0 (6 + 1))) (k := 6) hx hb hts inW_5 hown hK hZ g4.1 g4.2 rfl (by decide) k_6_75 rfl (D_180 W_prog_7_method_24_code_0 8 rfl rfl rfl) ?_
      refine lv_iload_n hx hb (D_29 W_prog_7_method_24_code_0 11 rfl rfl) rfl (lv_at hl 0 rfl) ?_
      refine lv_iconst (v := iI 0) hx hb (D_3 W_prog_7_method_24_code_0 12 rfl rfl) rfl ?_
      obtain ⟨g5, hf⟩ := gif hf
      refine zast (ci := 5) (k := 6) hx hb hK rfl hZ hS g4.1 g4.2 rfl (Nat.le_of_ble_eq_true rfl) g5.1 g5.2 (D_79 W_prog_7_method_24_code_0 13 rfl rfl) (fun H6 locs6 hZ6 hS6 => ?_)
      refine lv_iinc (v := iI (l3 + 1)) (lv' := [(3, .int (iI (l3 + 1))), (0, .ref (ad 5 l0 0)), (1, .ref (ad 6 l1 0)), (2, .int (iI l2))]) hx hb d_7_24_14 hl (k := 0) rfl (iI_add _ 1) (by decide) rfl (fun ls hl => ?_)
      refine lv_goto (tgt := 2) hx hb (D_167 W_prog_7_method_24_code_0 17 rfl rfl rfl) (by decide) ?_
      exact ih hf hZ6 hS6 (lv_sub hl [0, 1, 2, 3] rfl)

def f_Performance_playOn (K : zK) (l0 : Int) (l1 : Int) (l2 : Int) (F : zF) (B : zB) : zO := f_Performance_playOn_2 K K.1 0 l0 l1 l2 F B
set_option maxHeartbeats 4000000 in
set_option maxRecDepth 100000 in
theorem c_Performance_playOn {l : Launch} {D : va_G} {ca : Nat → ClassId} {ad : Nat → Int → Nat → Nat} {L : List Nat} {aS vS : Nat → Nat} {sz : Nat} {K : zK}  {l0 : Int} {l1 : Int} {l2 : Int} {F F9 : zF} {B B9 : zB} {r : Int} (hf : f_Performance_playOn K l0 l1 l2 F B = some (r, F9, B9)) : Met l ({ cls := "StaveHouse$Performance", name := "playOn", desc := "(LStaveHouse$Piece;I)I" } : Jvm.MethodName) (Cond.code ({ cls := "StaveHouse$Performance", name := "playOn", desc := "(LStaveHouse$Piece;I)I" } : Jvm.MethodName) prog_7_method_24_code 5 (Option.some Jvm.ClassFile.FieldType.int) :: wAll) ({ frames := 4, cells := 0, slots := 0, locals := 88 } : Room) (va_Pc [.ref (ad 5 l0 0), .ref (ad 6 l1 0), .int (iI l2)] (zPre D ca ad lnC K.2 L aS vS F B sz)) (Q_Performance_playOn K D ca ad L r F9 B9 (zA L sz)) 0 0 (zA L sz) := by
  refine zMet (Qc := Q_Performance_playOn K D ca ad L r F9 B9) (lv := [(0, .ref (ad 5 l0 0)), (1, .ref (ad 6 l1 0)), (2, .int (iI l2))]) (by decide) (Nat.le_of_ble_eq_true rfl) rfl (fun A p e s m below meth c ls X hZ hS hl => ?_)
  obtain ⟨hx, hb, hr, hml, hown, hts, hlk, hK, hA, hL, hX⟩ := id X
  replace hf : (f_Performance_playOn_2 K K.1 0 l0 l1 l2 F B) = some (r, F9, B9) := hf
  refine lv_iconst (v := iI 0) hx hb (D_3 W_prog_7_method_24_code_0 0 rfl rfl) rfl ?_
  refine lv_istore_n (lv' := [(3, .int (iI 0)), (0, .ref (ad 5 l0 0)), (1, .ref (ad 6 l1 0)), (2, .int (iI l2))]) hx hb (D_62 W_prog_7_method_24_code_0 1 rfl rfl) rfl hl (by decide) rfl (fun ls hl => ?_)
  exact b_Performance_playOn_2 X hf hZ hS (lv_sub hl [0, 1, 2, 3] rfl)

abbrev Q_Study_chordTold (K : zK) (D : va_G) (ca : Nat → ClassId) (ad : Nat → Int → Nat → Nat) (L : List Nat) (r : Int) (F : zF) (B : zB) (A : Nat → Prop) : Array Value → State → Outcome → State → Prop := va_Ql (S := Unit) (fun p _ => p = lI r) (fun _ => zPo D ca ad lnC K.2 L F B A) A
def f_Study_chordTold_189 (K : zK) (s0 : Int) (F : zF) (B : zB) : zO := some (s0, F, B)
set_option maxHeartbeats 4000000 in
set_option maxRecDepth 100000 in
theorem b_Study_chordTold_189 {D : va_G} {ca : Nat → ClassId} {ad : Nat → Int → Nat → Nat} {L : List Nat} {aS vS : Nat → Nat} {A : Nat → Prop} {p : Program} {l : Launch} {e : Env} {s : State} {m : MethodId} {args : Array Value} {below : List Frame} {meth : Method} {c : Code} {K : zK} {r : Int} {F9 : zF} {B9 : zB} (X : zX D ca L aS vS A p s m args meth c prog_11_method_12_code 7 (Option.some Jvm.ClassFile.FieldType.long) "StaveHouse$Study") {s0 : Int} {F : zF} {B : zB} {H : Heap} {locs : List Loc} {ls : Array Slot} (hf : f_Study_chordTold_189 K s0 F B = some (r, F9, B9)) (hZ : zH D ca ad lnC K.2 L F B A H) (hS : va_S A s.heap H locs) (hl : lv_has ls 7 []) : W p l e ({ frames := 4, cells := 0, slots := 0, locals := 91 } : Room) s m args below meth c H locs 0 0 (MQ below (Q_Study_chordTold K D ca ad L r F9 B9 A) args s 0 0 A) (F0 m 189 ls [.long (lI s0)]) := by
  obtain ⟨hx, hb, hr, hml, hown, hts, hlk, hK, hA, hL, hX⟩ := id X
  replace hf : (some (s0, F, B)) = some (r, F9, B9) := hf
  cases hf
  exact W.lret hx hb hr (fun t ht hW => ⟨⟨_, (), rfl, rfl, by rw [ht]; exact hZ, va_K.moved hW.alike hK⟩, hS.F ht⟩) hS.2.2 (D_173 W_prog_11_method_12_code_160 29 rfl rfl) hlk

def f_Study_chordTold_89 (K : zK) (s0 : Int) (F : zF) (B : zB) : zO := some (s0, F, B)
set_option maxHeartbeats 4000000 in
set_option maxRecDepth 100000 in
theorem b_Study_chordTold_89 {D : va_G} {ca : Nat → ClassId} {ad : Nat → Int → Nat → Nat} {L : List Nat} {aS vS : Nat → Nat} {A : Nat → Prop} {p : Program} {l : Launch} {e : Env} {s : State} {m : MethodId} {args : Array Value} {below : List Frame} {meth : Method} {c : Code} {K : zK} {r : Int} {F9 : zF} {B9 : zB} (X : zX D ca L aS vS A p s m args meth c prog_11_method_12_code 7 (Option.some Jvm.ClassFile.FieldType.long) "StaveHouse$Study") {s0 : Int} {F : zF} {B : zB} {H : Heap} {locs : List Loc} {ls : Array Slot} (hf : f_Study_chordTold_89 K s0 F B = some (r, F9, B9)) (hZ : zH D ca ad lnC K.2 L F B A H) (hS : va_S A s.heap H locs) (hl : lv_has ls 7 []) : W p l e ({ frames := 4, cells := 0, slots := 0, locals := 91 } : Room) s m args below meth c H locs 0 0 (MQ below (Q_Study_chordTold K D ca ad L r F9 B9 A) args s 0 0 A) (F0 m 89 ls [.long (lI s0)]) := by
  obtain ⟨hx, hb, hr, hml, hown, hts, hlk, hK, hA, hL, hX⟩ := id X
  replace hf : (some (s0, F, B)) = some (r, F9, B9) := hf
  cases hf
  exact W.lret hx hb hr (fun t ht hW => ⟨⟨_, (), rfl, rfl, by rw [ht]; exact hZ, va_K.moved hW.alike hK⟩, hS.F ht⟩) hS.2.2 (D_173 W_prog_11_method_12_code_64 25 rfl rfl) hlk

def f_Study_chordTold_54 (rec15 : Int → Int → Int → Int → Int → Int → Int → zF → zB → zO) (K : zK) (l4 : Int) (l6 : Int) (l0 : Int) (l1 : Int) (l2 : Int) (l3 : Int) (s0 : Int) (F : zF) (B : zB) : zO := rec15 (l6 + 1) s0 l4 l0 l1 l2 l3 F B
set_option maxHeartbeats 4000000 in
set_option maxRecDepth 100000 in
theorem b_Study_chordTold_54 {D : va_G} {ca : Nat → ClassId} {ad : Nat → Int → Nat → Nat} {L : List Nat} {aS vS : Nat → Nat} {A : Nat → Prop} {p : Program} {l : Launch} {e : Env} {s : State} {m : MethodId} {args : Array Value} {below : List Frame} {meth : Method} {c : Code} {K : zK} {r : Int} {F9 : zF} {B9 : zB} (X : zX D ca L aS vS A p s m args meth c prog_11_method_12_code 7 (Option.some Jvm.ClassFile.FieldType.long) "StaveHouse$Study") {rec15 : Int → Int → Int → Int → Int → Int → Int → zF → zB → zO} (hrec15 : ∀ {l6 : Int} {l5 : Int} {l4 : Int} {l0 : Int} {l1 : Int} {l2 : Int} {l3 : Int} {F : zF} {B : zB} {H : Heap} {locs : List Loc} {ls : Array Slot}, rec15 l6 l5 l4 l0 l1 l2 l3 F B = some (r, F9, B9) → zH D ca ad lnC K.2 L F B A H → va_S A s.heap H locs → lv_has ls 7 [(6, .int (iI l6)), (5, .int (iI l5)), (4, .int (iI l4)), (0, .ref (ad 9 l0 0)), (1, .ref (ad 6 l1 0)), (2, .int (iI l2)), (3, .int (iI l3))] → W p l e ({ frames := 4, cells := 0, slots := 0, locals := 91 } : Room) s m args below meth c H locs 0 0 (MQ below (Q_Study_chordTold K D ca ad L r F9 B9 A) args s 0 0 A) (F0 m 15 ls [])) {l4 : Int} {l6 : Int} {l0 : Int} {l1 : Int} {l2 : Int} {l3 : Int} {s0 : Int} {F : zF} {B : zB} {H : Heap} {locs : List Loc} {ls : Array Slot} (hf : f_Study_chordTold_54 rec15 K l4 l6 l0 l1 l2 l3 s0 F B = some (r, F9, B9)) (hZ : zH D ca ad lnC K.2 L F B A H) (hS : va_S A s.heap H locs) (hl : lv_has ls 7 [(4, .int (iI l4)), (6, .int (iI l6)), (0, .ref (ad 9 l0 0)), (1, .ref (ad 6 l1 0)), (2, .int (iI l2)), (3, .int (iI l3))]) : W p l e ({ frames := 4, cells := 0, slots := 0, locals := 91 } : Room) s m args below meth c H locs 0 0 (MQ below (Q_Study_chordTold K D ca ad L r F9 B9 A) args s 0 0 A) (F0 m 54 ls [.int (iI s0)]) := by
  obtain ⟨hx, hb, hr, hml, hown, hts, hlk, hK, hA, hL, hX⟩ := id X
  replace hf : (rec15 (l6 + 1) s0 l4 l0 l1 l2 l3 F B) = some (r, F9, B9) := hf
  refine lv_istore (lv' := [(5, .int (iI s0)), (4, .int (iI l4)), (6, .int (iI l6)), (0, .ref (ad 9 l0 0)), (1, .ref (ad 6 l1 0)), (2, .int (iI l2)), (3, .int (iI l3))]) hx hb (D_54 W_prog_11_method_12_code_32 22 rfl rfl) hl (by decide) rfl (fun ls hl => ?_)
  refine lv_iinc (v := iI (l6 + 1)) (lv' := [(6, .int (iI (l6 + 1))), (5, .int (iI s0)), (4, .int (iI l4)), (0, .ref (ad 9 l0 0)), (1, .ref (ad 6 l1 0)), (2, .int (iI l2)), (3, .int (iI l3))]) hx hb d_11_12_56 hl (k := 2) rfl (iI_add _ 1) (by decide) rfl (fun ls hl => ?_)
  refine lv_goto (tgt := 15) hx hb (D_167 W_prog_11_method_12_code_32 27 rfl rfl rfl) (by decide) ?_
  exact hrec15 hf hZ hS (lv_sub hl [0, 1, 2, 3, 4, 5, 6] rfl)

def f_Study_chordTold_15 (K : zK) : Nat → Int → Int → Int → Int → Int → Int → Int → zF → zB → zO
  | 0, _, _, _, _, _, _, _, _, _ => none
  | n + 1, l6, l5, l4, l0, l1, l2, l3, F, B => if r32 l6 then (if 7 ≤ l6 then if r32 l3 then (if l3 = 2 then if r32 l4 then some (l4, F, B) else none else if r32 l5 then (if l5 = (-1) then (if l3 = 3 then f_Study_chordTold_89 K (-1) F B else f_Study_chordTold_89 K 0 F B) else (if l3 = 3 then if 0 ≤ l0 ∧ l0 < K.2 9 then zbind (f_Study_chordKind K l0 l5 F B) (fun r11 F11 B11 => if r32 r11 then some (r11, F11, B11) else none) else none else (if l3 = 4 then some (l5, F, B) else (if l3 = 5 then if 0 ≤ l0 ∧ l0 < K.2 9 then zbind (f_Study_alterationOf K l0 l5 F B) (fun r16 F16 B16 => if r32 r16 then some (r16, F16, B16) else none) else none else (if l3 = 6 then if 0 ≤ l0 ∧ l0 < K.2 9 then zbind (f_Study_bassLetter K l0 l1 l2 F B) (fun r20 F20 B20 => zbind (f_Math_floorMod K (r20 - l5) 7 F20 B20) (fun r21 F21 B21 => if r32 (zdv r21 2) then some (zdv r21 2, F21, B21) else none)) else none else (if l3 = 7 then zbind (f_Study_tonic K l1 F B) (fun r24 F24 B24 => zbind (f_Math_floorMod K (l5 - r24) 7 F24 B24) (fun r25 F25 B25 => if r32 r25 then some (r25, F25, B25) else none)) else if 0 ≤ l0 ∧ l0 < K.2 9 then zbind (f_Study_isForeign K l0 l1 F B) (fun r28 F28 B28 => if r32 r28 then (if r28 = 0 then f_Study_chordTold_189 K 0 F28 B28 else f_Study_chordTold_189 K 1 F28 B28) else none) else none)))))) else none) else none else if 0 ≤ l0 ∧ l0 < K.2 9 then if 0 ≤ l6 ∧ l6 < 7 then zbind (f_Integer_bitCount K (B 9 l0 10 l6) F B) (fun r36 F36 B36 => zbind (f_Study_chordKind K l0 l6 F36 B36) (fun r37 F37 B37 => if r32 r37 then (if r37 = (-1) then f_Study_chordTold_54 (f_Study_chordTold_15 K n) K (l4 + r36) l6 l0 l1 l2 l3 l5 F37 B37 else f_Study_chordTold_54 (f_Study_chordTold_15 K n) K (l4 + r36) l6 l0 l1 l2 l3 l6 F37 B37) else none)) else none else none) else none
set_option maxHeartbeats 4000000 in
set_option maxRecDepth 100000 in
theorem b_Study_chordTold_15 {D : va_G} {ca : Nat → ClassId} {ad : Nat → Int → Nat → Nat} {L : List Nat} {aS vS : Nat → Nat} {A : Nat → Prop} {p : Program} {l : Launch} {e : Env} {s : State} {m : MethodId} {args : Array Value} {below : List Frame} {meth : Method} {c : Code} {K : zK} {r : Int} {F9 : zF} {B9 : zB} (X : zX D ca L aS vS A p s m args meth c prog_11_method_12_code 7 (Option.some Jvm.ClassFile.FieldType.long) "StaveHouse$Study") : ∀ {n : Nat} {l6 : Int} {l5 : Int} {l4 : Int} {l0 : Int} {l1 : Int} {l2 : Int} {l3 : Int} {F : zF} {B : zB} {H : Heap} {locs : List Loc} {ls : Array Slot}, f_Study_chordTold_15 K n l6 l5 l4 l0 l1 l2 l3 F B = some (r, F9, B9) → zH D ca ad lnC K.2 L F B A H → va_S A s.heap H locs → lv_has ls 7 [(6, .int (iI l6)), (5, .int (iI l5)), (4, .int (iI l4)), (0, .ref (ad 9 l0 0)), (1, .ref (ad 6 l1 0)), (2, .int (iI l2)), (3, .int (iI l3))] → W p l e ({ frames := 4, cells := 0, slots := 0, locals := 91 } : Room) s m args below meth c H locs 0 0 (MQ below (Q_Study_chordTold K D ca ad L r F9 B9 A) args s 0 0 A) (F0 m 15 ls []) := by
  obtain ⟨hx, hb, hr, hml, hown, hts, hlk, hK, hA, hL, hX⟩ := id X
  intro n
  induction n with
  | zero =>
    intros
    rename_i hf _ _ _
    cases hf
  | succ n ih =>
    intro l6 l5 l4 l0 l1 l2 l3 F B H locs ls hf hZ hS hl
    replace hf : (if r32 l6 then (if 7 ≤ l6 then if r32 l3 then (if l3 = 2 then if r32 l4 then some (l4, F, B) else none else if r32 l5 then (if l5 = (-1) then (if l3 = 3 then f_Study_chordTold_89 K (-1) F B else f_Study_chordTold_89 K 0 F B) else (if l3 = 3 then if 0 ≤ l0 ∧ l0 < K.2 9 then zbind (f_Study_chordKind K l0 l5 F B) (fun r11 F11 B11 => if r32 r11 then some (r11, F11, B11) else none) else none else (if l3 = 4 then some (l5, F, B) else (if l3 = 5 then if 0 ≤ l0 ∧ l0 < K.2 9 then zbind (f_Study_alterationOf K l0 l5 F B) (fun r16 F16 B16 => if r32 r16 then some (r16, F16, B16) else none) else none else (if l3 = 6 then if 0 ≤ l0 ∧ l0 < K.2 9 then zbind (f_Study_bassLetter K l0 l1 l2 F B) (fun r20 F20 B20 => zbind (f_Math_floorMod K (r20 - l5) 7 F20 B20) (fun r21 F21 B21 => if r32 (zdv r21 2) then some (zdv r21 2, F21, B21) else none)) else none else (if l3 = 7 then zbind (f_Study_tonic K l1 F B) (fun r24 F24 B24 => zbind (f_Math_floorMod K (l5 - r24) 7 F24 B24) (fun r25 F25 B25 => if r32 r25 then some (r25, F25, B25) else none)) else if 0 ≤ l0 ∧ l0 < K.2 9 then zbind (f_Study_isForeign K l0 l1 F B) (fun r28 F28 B28 => if r32 r28 then (if r28 = 0 then f_Study_chordTold_189 K 0 F28 B28 else f_Study_chordTold_189 K 1 F28 B28) else none) else none)))))) else none) else none else if 0 ≤ l0 ∧ l0 < K.2 9 then if 0 ≤ l6 ∧ l6 < 7 then zbind (f_Integer_bitCount K (B 9 l0 10 l6) F B) (fun r36 F36 B36 => zbind (f_Study_chordKind K l0 l6 F36 B36) (fun r37 F37 B37 => if r32 r37 then (if r37 = (-1) then f_Study_chordTold_54 (f_Study_chordTold_15 K n) K (l4 + r36) l6 l0 l1 l2 l3 l5 F37 B37 else f_Study_chordTold_54 (f_Study_chordTold_15 K n) K (l4 + r36) l6 l0 l1 l2 l3 l6 F37 B37) else none)) else none else none) else none) = some (r, F9, B9) := hf
    refine lv_iload hx hb (D_21 W_prog_11_method_12_code_0 15 rfl rfl) (lv_at hl 0 rfl) ?_
    refine lv_bipush (v := iI 7) hx hb (D_16 W_prog_11_method_12_code_0 17 rfl rfl rfl) (by decide) ?_
    obtain ⟨g3, hf⟩ := gif hf
    refine zge (tgt := 62) hx hb g3 (by decide) (D_162 W_prog_11_method_12_code_0 19 rfl rfl rfl) (by decide) (fun h4 => ?_) (fun h4 => ?_)
    · replace hf := gpos hf h4
      refine lv_iload_n hx hb (D_29 W_prog_11_method_12_code_32 30 rfl rfl) rfl (lv_at hl 6 rfl) ?_
      refine lv_iconst (v := iI 2) hx hb (D_5 W_prog_11_method_12_code_32 31 rfl rfl) rfl ?_
      obtain ⟨g5, hf⟩ := gif hf
      refine zne (tgt := 71) hx hb g5 (by decide) (D_160 W_prog_11_method_12_code_64 0 rfl rfl rfl) (by decide) (fun h6 => ?_) (fun h6 => ?_)
      · replace hf := gneg hf h6
        refine lv_iload hx hb (D_21 W_prog_11_method_12_code_64 7 rfl rfl) (lv_at hl 1 rfl) ?_
        refine lv_iconst (v := iI (-1)) hx hb (D_2 W_prog_11_method_12_code_64 9 rfl rfl) rfl ?_
        obtain ⟨g7, hf⟩ := gif hf
        refine zne (tgt := 90) hx hb g7 (by decide) (D_160 W_prog_11_method_12_code_64 10 rfl rfl rfl) (by decide) (fun h8 => ?_) (fun h8 => ?_)
        · replace hf := gneg hf h8
          refine lv_iload_n hx hb (D_29 W_prog_11_method_12_code_64 26 rfl rfl) rfl (lv_at hl 6 rfl) ?_
          by_cases h9 : l3 = 3
          · replace hf := gpos hf h9
            refine lv_tableIn (off := 33) (tgt := 124) hx hb d_11_12_91 (by rw [iI_to g5, h9]; decide) (by rw [iI_to g5, h9]; decide) (by rw [iI_to g5, h9]; rfl) (by decide) ?_
            refine lv_aload_n hx hb (D_42 W_prog_11_method_12_code_96 28 rfl rfl) rfl (lv_at hl 3 rfl) ?_
            refine lv_iload hx hb (D_21 W_prog_11_method_12_code_96 29 rfl rfl) (lv_at hl 1 rfl) ?_
            obtain ⟨g10, hf⟩ := gif hf
            obtain ⟨r11, F11, B11, hc11, hf⟩ := gbind hf
            refine va_calli (va_runV (As := [.int (iI l5)]) (rest := []) ⟨hx, hb, hml, hown, hts⟩ (c_Study_chordKind (l := l) hc11) (cwV 1 hts (gdV k_9_48 k_9_50 ks_126 k_1_19 k_9_51) rfl rfl rfl (by decide +kernel) ⟨Nat.le_of_ble_eq_true rfl, Nat.le_of_ble_eq_true rfl⟩) (zPV X hZ hS (ci := 9) g10.1 g10.2 (r := (RX9, TX9, 11)) rfl [.int (iI l5)]) rfl rfl hl.1 rfl (lv_room (Nat.le_of_ble_eq_true rfl)) (D_182 W_prog_11_method_12_code_96 31 rfl rfl rfl) ⟨Nat.le_of_ble_eq_true rfl, Nat.le_of_ble_eq_true rfl⟩) hS (fun q _ h => zAin X hS q h) (zAin X hS) (fun p11 u11 t11 H11 locs11 ht11 hv11 hw11 hB11 hz11 hk11 hS11 => ?_)
            have hZ11 := zBack X ht11 hB11
            subst hw11
            obtain ⟨g12, hf⟩ := gif hf
            refine zi2l hx hb g12 (D_133 W_prog_11_method_12_code_128 2 rfl rfl) ?_
            cases hf
            exact W.lret hx hb hr (fun t ht hW => ⟨⟨_, (), rfl, rfl, by rw [ht]; exact hZ11, va_K.moved hW.alike hK⟩, hS11.F ht⟩) hS11.2.2 (D_173 W_prog_11_method_12_code_128 3 rfl rfl) hlk
          replace hf := gneg hf h9
          by_cases h13 : l3 = 4
          · replace hf := gpos hf h13
            refine lv_tableIn (off := 41) (tgt := 132) hx hb d_11_12_91 (by rw [iI_to g5, h13]; decide) (by rw [iI_to g5, h13]; decide) (by rw [iI_to g5, h13]; rfl) (by decide) ?_
            refine lv_iload hx hb (D_21 W_prog_11_method_12_code_128 4 rfl rfl) (lv_at hl 1 rfl) ?_
            refine zi2l hx hb g7 (D_133 W_prog_11_method_12_code_128 6 rfl rfl) ?_
            cases hf
            exact W.lret hx hb hr (fun t ht hW => ⟨⟨_, (), rfl, rfl, by rw [ht]; exact hZ, va_K.moved hW.alike hK⟩, hS.F ht⟩) hS.2.2 (D_173 W_prog_11_method_12_code_128 7 rfl rfl) hlk
          replace hf := gneg hf h13
          by_cases h14 : l3 = 5
          · replace hf := gpos hf h14
            refine lv_tableIn (off := 45) (tgt := 136) hx hb d_11_12_91 (by rw [iI_to g5, h14]; decide) (by rw [iI_to g5, h14]; decide) (by rw [iI_to g5, h14]; rfl) (by decide) ?_
            refine lv_aload_n hx hb (D_42 W_prog_11_method_12_code_128 8 rfl rfl) rfl (lv_at hl 3 rfl) ?_
            refine lv_iload hx hb (D_21 W_prog_11_method_12_code_128 9 rfl rfl) (lv_at hl 1 rfl) ?_
            obtain ⟨g15, hf⟩ := gif hf
            obtain ⟨r16, F16, B16, hc16, hf⟩ := gbind hf
            refine va_calli (va_runV (As := [.int (iI l5)]) (rest := []) ⟨hx, hb, hml, hown, hts⟩ (c_Study_alterationOf (l := l) hc16) (cwV 1 hts (gdV k_9_57 k_9_59 ks_128 k_1_19 k_9_60) rfl rfl rfl (by decide +kernel) ⟨Nat.le_of_ble_eq_true rfl, Nat.le_of_ble_eq_true rfl⟩) (zPV X hZ hS (ci := 9) g15.1 g15.2 (r := (RX9, TX9, 11)) rfl [.int (iI l5)]) rfl rfl hl.1 rfl (lv_room (Nat.le_of_ble_eq_true rfl)) (D_182 W_prog_11_method_12_code_128 11 rfl rfl rfl) ⟨Nat.le_of_ble_eq_true rfl, Nat.le_of_ble_eq_true rfl⟩) hS (fun q _ h => zAin X hS q h) (zAin X hS) (fun p16 u16 t16 H16 locs16 ht16 hv16 hw16 hB16 hz16 hk16 hS16 => ?_)
            have hZ16 := zBack X ht16 hB16
            subst hw16
            obtain ⟨g17, hf⟩ := gif hf
            refine zi2l hx hb g17 (D_133 W_prog_11_method_12_code_128 14 rfl rfl) ?_
            cases hf
            exact W.lret hx hb hr (fun t ht hW => ⟨⟨_, (), rfl, rfl, by rw [ht]; exact hZ16, va_K.moved hW.alike hK⟩, hS16.F ht⟩) hS16.2.2 (D_173 W_prog_11_method_12_code_128 15 rfl rfl) hlk
          replace hf := gneg hf h14
          by_cases h18 : l3 = 6
          · replace hf := gpos hf h18
            refine lv_tableIn (off := 53) (tgt := 144) hx hb d_11_12_91 (by rw [iI_to g5, h18]; decide) (by rw [iI_to g5, h18]; decide) (by rw [iI_to g5, h18]; rfl) (by decide) ?_
            refine lv_aload_n hx hb (D_42 W_prog_11_method_12_code_128 16 rfl rfl) rfl (lv_at hl 3 rfl) ?_
            refine lv_aload_n hx hb (D_43 W_prog_11_method_12_code_128 17 rfl rfl) rfl (lv_at hl 4 rfl) ?_
            refine lv_iload_n hx hb (D_28 W_prog_11_method_12_code_128 18 rfl rfl) rfl (lv_at hl 5 rfl) ?_
            obtain ⟨g19, hf⟩ := gif hf
            obtain ⟨r20, F20, B20, hc20, hf⟩ := gbind hf
            refine va_calli (va_runV (As := [.ref (ad 6 l1 0), .int (iI l2)]) (rest := []) ⟨hx, hb, hml, hown, hts⟩ (c_Study_bassLetter (l := l) hc20) (cwV 2 hts (gdV k_9_65 k_9_67 ks_129 k_1_19 k_9_68) rfl rfl rfl (by decide +kernel) ⟨Nat.le_of_ble_eq_true rfl, Nat.le_of_ble_eq_true rfl⟩) (zPV X hZ hS (ci := 9) g19.1 g19.2 (r := (RX9, TX9, 11)) rfl [.ref (ad 6 l1 0), .int (iI l2)]) rfl rfl hl.1 rfl (lv_room (Nat.le_of_ble_eq_true rfl)) (D_182 W_prog_11_method_12_code_128 19 rfl rfl rfl) ⟨Nat.le_of_ble_eq_true rfl, Nat.le_of_ble_eq_true rfl⟩) hS (fun q _ h => zAin X hS q h) (zAin X hS) (fun p20 u20 t20 H20 locs20 ht20 hv20 hw20 hB20 hz20 hk20 hS20 => ?_)
            have hZ20 := zBack X ht20 hB20
            subst hw20
            refine lv_iload hx hb (D_21 W_prog_11_method_12_code_128 22 rfl rfl) (lv_at hl 1 rfl) ?_
            refine zsub hx hb (D_100 W_prog_11_method_12_code_128 24 rfl rfl) ?_
            refine lv_bipush (v := iI 7) hx hb (D_16 W_prog_11_method_12_code_128 25 rfl rfl rfl) (by decide) ?_
            obtain ⟨r21, F21, B21, hc21, hf⟩ := gbind hf
            refine va_calli (va_runS (As := [.int (iI (r20 - l5)), .int (iI 7)]) (rest := []) ⟨hx, hb, hml, hown, hts⟩ (c_Math_floorMod (l := l) hc21) (va_cwS 2 hts (gdS k_6_38 k_4_71 k_1_3 k_4_72) rfl rfl rfl (by decide +kernel) ⟨Nat.le_of_ble_eq_true rfl, Nat.le_of_ble_eq_true rfl⟩) (zPS X hZ20 hS20 [.int (iI (r20 - l5)), .int (iI 7)]) rfl rfl hl.1 rfl (lv_room (Nat.le_of_ble_eq_true rfl)) (D_184 W_prog_11_method_12_code_128 27 rfl rfl rfl) ⟨Nat.le_of_ble_eq_true rfl, Nat.le_of_ble_eq_true rfl⟩) hS20 (fun q _ h => zAin X hS20 q h) (zAin X hS20) (fun p21 u21 t21 H21 locs21 ht21 hv21 hw21 hB21 hz21 hk21 hS21 => ?_)
            have hZ21 := zBack X ht21 hB21
            subst hw21
            refine lv_iconst (v := iI 2) hx hb (D_5 W_prog_11_method_12_code_128 30 rfl rfl) rfl ?_
            refine zdv_r hx hb (by decide) (D_108 W_prog_11_method_12_code_128 31 rfl rfl) ?_
            obtain ⟨g22, hf⟩ := gif hf
            refine zi2l hx hb g22 (D_133 W_prog_11_method_12_code_160 0 rfl rfl) ?_
            cases hf
            exact W.lret hx hb hr (fun t ht hW => ⟨⟨_, (), rfl, rfl, by rw [ht]; exact hZ21, va_K.moved hW.alike hK⟩, hS21.F ht⟩) hS21.2.2 (D_173 W_prog_11_method_12_code_160 1 rfl rfl) hlk
          replace hf := gneg hf h18
          by_cases h23 : l3 = 7
          · replace hf := gpos hf h23
            refine lv_tableIn (off := 71) (tgt := 162) hx hb d_11_12_91 (by rw [iI_to g5, h23]; decide) (by rw [iI_to g5, h23]; decide) (by rw [iI_to g5, h23]; rfl) (by decide) ?_
            refine lv_iload hx hb (D_21 W_prog_11_method_12_code_160 2 rfl rfl) (lv_at hl 1 rfl) ?_
            refine lv_aload_n hx hb (D_43 W_prog_11_method_12_code_160 4 rfl rfl) rfl (lv_at hl 4 rfl) ?_
            obtain ⟨r24, F24, B24, hc24, hf⟩ := gbind hf
            refine va_calli (va_runS (As := [.ref (ad 6 l1 0)]) (rest := [.int (iI l5)]) ⟨hx, hb, hml, hown, hts⟩ (c_Study_tonic (l := l) hc24) (va_cwS 1 hts (gdS k_9_69 k_9_70 k_1_19 k_9_71) rfl rfl rfl (by decide +kernel) ⟨Nat.le_of_ble_eq_true rfl, Nat.le_of_ble_eq_true rfl⟩) (zPS X hZ hS [.ref (ad 6 l1 0)]) rfl rfl hl.1 rfl (lv_room (Nat.le_of_ble_eq_true rfl)) (D_184 W_prog_11_method_12_code_160 5 rfl rfl rfl) ⟨Nat.le_of_ble_eq_true rfl, Nat.le_of_ble_eq_true rfl⟩) hS (fun q _ h => zAin X hS q h) (zAin X hS) (fun p24 u24 t24 H24 locs24 ht24 hv24 hw24 hB24 hz24 hk24 hS24 => ?_)
            have hZ24 := zBack X ht24 hB24
            subst hw24
            refine zsub hx hb (D_100 W_prog_11_method_12_code_160 8 rfl rfl) ?_
            refine lv_bipush (v := iI 7) hx hb (D_16 W_prog_11_method_12_code_160 9 rfl rfl rfl) (by decide) ?_
            obtain ⟨r25, F25, B25, hc25, hf⟩ := gbind hf
            refine va_calli (va_runS (As := [.int (iI (l5 - r24)), .int (iI 7)]) (rest := []) ⟨hx, hb, hml, hown, hts⟩ (c_Math_floorMod (l := l) hc25) (va_cwS 2 hts (gdS k_6_38 k_4_71 k_1_3 k_4_72) rfl rfl rfl (by decide +kernel) ⟨Nat.le_of_ble_eq_true rfl, Nat.le_of_ble_eq_true rfl⟩) (zPS X hZ24 hS24 [.int (iI (l5 - r24)), .int (iI 7)]) rfl rfl hl.1 rfl (lv_room (Nat.le_of_ble_eq_true rfl)) (D_184 W_prog_11_method_12_code_160 11 rfl rfl rfl) ⟨Nat.le_of_ble_eq_true rfl, Nat.le_of_ble_eq_true rfl⟩) hS24 (fun q _ h => zAin X hS24 q h) (zAin X hS24) (fun p25 u25 t25 H25 locs25 ht25 hv25 hw25 hB25 hz25 hk25 hS25 => ?_)
            have hZ25 := zBack X ht25 hB25
            subst hw25
            obtain ⟨g26, hf⟩ := gif hf
            refine zi2l hx hb g26 (D_133 W_prog_11_method_12_code_160 14 rfl rfl) ?_
            cases hf
            exact W.lret hx hb hr (fun t ht hW => ⟨⟨_, (), rfl, rfl, by rw [ht]; exact hZ25, va_K.moved hW.alike hK⟩, hS25.F ht⟩) hS25.2.2 (D_173 W_prog_11_method_12_code_160 15 rfl rfl) hlk
          replace hf := gneg hf h23
          refine lv_tableOut (tgt := 176) hx hb d_11_12_91 (by rw [iI_to g5]; omega) (by decide) ?_
          refine lv_aload_n hx hb (D_42 W_prog_11_method_12_code_160 16 rfl rfl) rfl (lv_at hl 3 rfl) ?_
          refine lv_aload_n hx hb (D_43 W_prog_11_method_12_code_160 17 rfl rfl) rfl (lv_at hl 4 rfl) ?_
          obtain ⟨g27, hf⟩ := gif hf
          obtain ⟨r28, F28, B28, hc28, hf⟩ := gbind hf
          refine va_calli (va_runV (As := [.ref (ad 6 l1 0)]) (rest := []) ⟨hx, hb, hml, hown, hts⟩ (c_Study_isForeign (l := l) hc28) (cwV 1 hts (gdV k_9_72 k_9_74 ks_130 k_1_19 k_9_75) rfl rfl rfl (by decide +kernel) ⟨Nat.le_of_ble_eq_true rfl, Nat.le_of_ble_eq_true rfl⟩) (zPV X hZ hS (ci := 9) g27.1 g27.2 (r := (RX9, TX9, 11)) rfl [.ref (ad 6 l1 0)]) rfl rfl hl.1 rfl (lv_room (Nat.le_of_ble_eq_true rfl)) (D_182 W_prog_11_method_12_code_160 18 rfl rfl rfl) ⟨Nat.le_of_ble_eq_true rfl, Nat.le_of_ble_eq_true rfl⟩) hS (fun q _ h => zAin X hS q h) (zAin X hS) (fun p28 u28 t28 H28 locs28 ht28 hv28 hw28 hB28 hz28 hk28 hS28 => ?_)
          have hZ28 := zBack X ht28 hB28
          subst hw28
          obtain ⟨g29, hf⟩ := gif hf
          refine z0eq (tgt := 188) hx hb g29 (D_153 W_prog_11_method_12_code_160 21 rfl rfl rfl) (by decide) (fun h30 => ?_) (fun h30 => ?_)
          · replace hf := gpos hf h30
            refine lv_lconst (v := lI 0) hx hb (D_9 W_prog_11_method_12_code_160 28 rfl rfl) (by decide) ?_
            exact b_Study_chordTold_189 X hf hZ28 hS28 (lv_sub hl [] rfl)
          · replace hf := gneg hf h30
            refine lv_lconst (v := lI 1) hx hb (D_10 W_prog_11_method_12_code_160 24 rfl rfl) (by decide) ?_
            refine lv_goto (tgt := 189) hx hb (D_167 W_prog_11_method_12_code_160 25 rfl rfl rfl) (by decide) ?_
            exact b_Study_chordTold_189 X hf hZ28 hS28 (lv_sub hl [] rfl)
        · replace hf := gpos hf h8
          refine lv_iload_n hx hb (D_29 W_prog_11_method_12_code_64 13 rfl rfl) rfl (lv_at hl 6 rfl) ?_
          refine lv_iconst (v := iI 3) hx hb (D_6 W_prog_11_method_12_code_64 14 rfl rfl) rfl ?_
          refine zne (tgt := 88) hx hb g5 (by decide) (D_160 W_prog_11_method_12_code_64 15 rfl rfl rfl) (by decide) (fun h31 => ?_) (fun h31 => ?_)
          · replace hf := gneg hf h31
            refine lv_lconst (v := lI 0) hx hb (D_9 W_prog_11_method_12_code_64 24 rfl rfl) (by decide) ?_
            exact b_Study_chordTold_89 X hf hZ hS (lv_sub hl [] rfl)
          · replace hf := gpos hf h31
            refine lv_ldc2 hx hb hown (hts _ k_6_8) (D_20 W_prog_11_method_12_code_64 18 rfl rfl rfl) ?_
            refine W.eq (g2 := F0 m 85 ls [.long (lI (-1))]) rfl ?_
            refine lv_goto (tgt := 89) hx hb (D_167 W_prog_11_method_12_code_64 21 rfl rfl rfl) (by decide) ?_
            exact b_Study_chordTold_89 X hf hZ hS (lv_sub hl [] rfl)
      · replace hf := gpos hf h6
        refine lv_iload hx hb (D_21 W_prog_11_method_12_code_64 3 rfl rfl) (lv_at hl 2 rfl) ?_
        obtain ⟨g33, hf⟩ := gif hf
        refine zi2l hx hb g33 (D_133 W_prog_11_method_12_code_64 5 rfl rfl) ?_
        cases hf
        exact W.lret hx hb hr (fun t ht hW => ⟨⟨_, (), rfl, rfl, by rw [ht]; exact hZ, va_K.moved hW.alike hK⟩, hS.F ht⟩) hS.2.2 (D_173 W_prog_11_method_12_code_64 6 rfl rfl) hlk
    · replace hf := gneg hf h4
      refine lv_iload hx hb (D_21 W_prog_11_method_12_code_0 22 rfl rfl) (lv_at hl 2 rfl) ?_
      refine lv_aload_n hx hb (D_42 W_prog_11_method_12_code_0 24 rfl rfl) rfl (lv_at hl 3 rfl) ?_
      obtain ⟨g34, hf⟩ := gif hf
      refine zget (ci := 9) (C := RX9) (T := TX9) (v := .ref (ad 9 l0 (10 + 1))) (k := 10) hx hb hts inW_9 hown hK hZ g34.1 g34.2 rfl (by decide) k_5_211 rfl (D_180 W_prog_11_method_12_code_0 25 rfl rfl rfl) ?_
      refine lv_iload hx hb (D_21 W_prog_11_method_12_code_0 28 rfl rfl) (lv_at hl 0 rfl) ?_
      obtain ⟨g35, hf⟩ := gif hf
      refine zald (ci := 9) (k := 10) hx hb hK rfl hZ g34.1 g34.2 rfl (Nat.le_of_ble_eq_true rfl) g35.1 g35.2 (D_46 W_prog_11_method_12_code_0 30 rfl rfl) ?_
      obtain ⟨r36, F36, B36, hc36, hf⟩ := gbind hf
      refine va_calli (va_runS (As := [.int (iI (B 9 l0 10 l6))]) (rest := [.int (iI l4)]) ⟨hx, hb, hml, hown, hts⟩ (c_Integer_bitCount (l := l) hc36) (va_cwS 1 hts (gdS k_9_47 k_7_170 k_1_22 k_7_171) rfl rfl rfl (by decide +kernel) ⟨Nat.le_of_ble_eq_true rfl, Nat.le_of_ble_eq_true rfl⟩) (zPS X hZ hS [.int (iI (B 9 l0 10 l6))]) rfl rfl hl.1 rfl (lv_room (Nat.le_of_ble_eq_true rfl)) (D_184 W_prog_11_method_12_code_0 31 rfl rfl rfl) ⟨Nat.le_of_ble_eq_true rfl, Nat.le_of_ble_eq_true rfl⟩) hS (fun q _ h => zAin X hS q h) (zAin X hS) (fun p36 u36 t36 H36 locs36 ht36 hv36 hw36 hB36 hz36 hk36 hS36 => ?_)
      have hZ36 := zBack X ht36 hB36
      subst hw36
      refine zadd hx hb (D_96 W_prog_11_method_12_code_32 2 rfl rfl) ?_
      refine lv_istore (lv' := [(4, .int (iI (l4 + r36))), (6, .int (iI l6)), (5, .int (iI l5)), (0, .ref (ad 9 l0 0)), (1, .ref (ad 6 l1 0)), (2, .int (iI l2)), (3, .int (iI l3))]) hx hb (D_54 W_prog_11_method_12_code_32 3 rfl rfl) hl (by decide) rfl (fun ls hl => ?_)
      refine lv_aload_n hx hb (D_42 W_prog_11_method_12_code_32 5 rfl rfl) rfl (lv_at hl 3 rfl) ?_
      refine lv_iload hx hb (D_21 W_prog_11_method_12_code_32 6 rfl rfl) (lv_at hl 1 rfl) ?_
      obtain ⟨r37, F37, B37, hc37, hf⟩ := gbind hf
      refine va_calli (va_runV (As := [.int (iI l6)]) (rest := []) ⟨hx, hb, hml, hown, hts⟩ (c_Study_chordKind (l := l) hc37) (cwV 1 hts (gdV k_9_48 k_9_50 ks_126 k_1_19 k_9_51) rfl rfl rfl (by decide +kernel) ⟨Nat.le_of_ble_eq_true rfl, Nat.le_of_ble_eq_true rfl⟩) (zPV X hZ36 hS36 (ci := 9) g34.1 g34.2 (r := (RX9, TX9, 11)) rfl [.int (iI l6)]) rfl rfl hl.1 rfl (lv_room (Nat.le_of_ble_eq_true rfl)) (D_182 W_prog_11_method_12_code_32 8 rfl rfl rfl) ⟨Nat.le_of_ble_eq_true rfl, Nat.le_of_ble_eq_true rfl⟩) hS36 (fun q _ h => zAin X hS36 q h) (zAin X hS36) (fun p37 u37 t37 H37 locs37 ht37 hv37 hw37 hB37 hz37 hk37 hS37 => ?_)
      have hZ37 := zBack X ht37 hB37
      subst hw37
      refine lv_iconst (v := iI (-1)) hx hb (D_2 W_prog_11_method_12_code_32 11 rfl rfl) rfl ?_
      obtain ⟨g38, hf⟩ := gif hf
      refine zeq (tgt := 52) hx hb g38 (by decide) (D_159 W_prog_11_method_12_code_32 12 rfl rfl rfl) (by decide) (fun h39 => ?_) (fun h39 => ?_)
      · replace hf := gpos hf h39
        refine lv_iload hx hb (D_21 W_prog_11_method_12_code_32 20 rfl rfl) (lv_at hl 2 rfl) ?_
        exact b_Study_chordTold_54 X ih hf hZ37 hS37 (lv_sub hl [0, 1, 3, 4, 5, 6] rfl)
      · replace hf := gneg hf h39
        refine lv_iload hx hb (D_21 W_prog_11_method_12_code_32 15 rfl rfl) (lv_at hl 1 rfl) ?_
        refine lv_goto (tgt := 54) hx hb (D_167 W_prog_11_method_12_code_32 17 rfl rfl rfl) (by decide) ?_
        exact b_Study_chordTold_54 X ih hf hZ37 hS37 (lv_sub hl [0, 1, 3, 4, 5, 6] rfl)

def f_Study_chordTold (K : zK) (l0 : Int) (l1 : Int) (l2 : Int) (l3 : Int) (F : zF) (B : zB) : zO := if 0 ≤ l0 ∧ l0 < K.2 9 then zbind (f_Study_takeClasses K l0 l1 l2 F B) (fun r2 F2 B2 => f_Study_chordTold_15 K K.1 0 (-1) 0 l0 l1 l2 l3 F2 B2) else none
set_option maxHeartbeats 4000000 in
set_option maxRecDepth 100000 in
theorem c_Study_chordTold {l : Launch} {D : va_G} {ca : Nat → ClassId} {ad : Nat → Int → Nat → Nat} {L : List Nat} {aS vS : Nat → Nat} {sz : Nat} {K : zK}  {l0 : Int} {l1 : Int} {l2 : Int} {l3 : Int} {F F9 : zF} {B B9 : zB} {r : Int} (hf : f_Study_chordTold K l0 l1 l2 l3 F B = some (r, F9, B9)) : Met l ({ cls := "StaveHouse$Study", name := "chordTold", desc := "(LStaveHouse$Piece;II)J" } : Jvm.MethodName) (Cond.code ({ cls := "StaveHouse$Study", name := "chordTold", desc := "(LStaveHouse$Piece;II)J" } : Jvm.MethodName) prog_11_method_12_code 7 (Option.some Jvm.ClassFile.FieldType.long) :: wAll) ({ frames := 4, cells := 0, slots := 0, locals := 91 } : Room) (va_Pc [.ref (ad 9 l0 0), .ref (ad 6 l1 0), .int (iI l2), .int (iI l3)] (zPre D ca ad lnC K.2 L aS vS F B sz)) (Q_Study_chordTold K D ca ad L r F9 B9 (zA L sz)) 0 0 (zA L sz) := by
  refine zMet (Qc := Q_Study_chordTold K D ca ad L r F9 B9) (lv := [(0, .ref (ad 9 l0 0)), (1, .ref (ad 6 l1 0)), (2, .int (iI l2)), (3, .int (iI l3))]) (by decide) (Nat.le_of_ble_eq_true rfl) rfl (fun A p e s m below meth c ls X hZ hS hl => ?_)
  obtain ⟨hx, hb, hr, hml, hown, hts, hlk, hK, hA, hL, hX⟩ := id X
  replace hf : (if 0 ≤ l0 ∧ l0 < K.2 9 then zbind (f_Study_takeClasses K l0 l1 l2 F B) (fun r2 F2 B2 => f_Study_chordTold_15 K K.1 0 (-1) 0 l0 l1 l2 l3 F2 B2) else none) = some (r, F9, B9) := hf
  refine lv_aload_n hx hb (D_42 W_prog_11_method_12_code_0 0 rfl rfl) rfl (lv_at hl 0 rfl) ?_
  refine lv_aload_n hx hb (D_43 W_prog_11_method_12_code_0 1 rfl rfl) rfl (lv_at hl 1 rfl) ?_
  refine lv_iload_n hx hb (D_28 W_prog_11_method_12_code_0 2 rfl rfl) rfl (lv_at hl 2 rfl) ?_
  obtain ⟨g1, hf⟩ := gif hf
  obtain ⟨r2, F2, B2, hc2, hf⟩ := gbind hf
  refine va_callv (va_runV (As := [.ref (ad 6 l1 0), .int (iI l2)]) (rest := []) ⟨hx, hb, hml, hown, hts⟩ (c_Study_takeClasses (l := l) hc2) (cwV 2 hts (gdV k_9_43 k_9_45 ks_125 k_1_19 k_9_46) rfl rfl rfl (by decide +kernel) ⟨Nat.le_of_ble_eq_true rfl, Nat.le_of_ble_eq_true rfl⟩) (zPV X hZ hS (ci := 9) g1.1 g1.2 (r := (RX9, TX9, 11)) rfl [.ref (ad 6 l1 0), .int (iI l2)]) rfl rfl hl.1 rfl (lv_room (Nat.le_of_ble_eq_true rfl)) (D_182 W_prog_11_method_12_code_0 3 rfl rfl rfl) ⟨Nat.le_of_ble_eq_true rfl, Nat.le_of_ble_eq_true rfl⟩) hS (fun q _ h => zAin X hS q h) (zAin X hS) (fun u2 t2 H2 locs2 ht2 hv2 hw2 hB2 hz2 hk2 hS2 => ?_)
  have hZ2 := zBack X ht2 hB2
  refine lv_iconst (v := iI 0) hx hb (D_3 W_prog_11_method_12_code_0 6 rfl rfl) rfl ?_
  refine lv_istore (lv' := [(4, .int (iI 0)), (0, .ref (ad 9 l0 0)), (1, .ref (ad 6 l1 0)), (2, .int (iI l2)), (3, .int (iI l3))]) hx hb (D_54 W_prog_11_method_12_code_0 7 rfl rfl) hl (by decide) rfl (fun ls hl => ?_)
  refine lv_iconst (v := iI (-1)) hx hb (D_2 W_prog_11_method_12_code_0 9 rfl rfl) rfl ?_
  refine lv_istore (lv' := [(5, .int (iI (-1))), (4, .int (iI 0)), (0, .ref (ad 9 l0 0)), (1, .ref (ad 6 l1 0)), (2, .int (iI l2)), (3, .int (iI l3))]) hx hb (D_54 W_prog_11_method_12_code_0 10 rfl rfl) hl (by decide) rfl (fun ls hl => ?_)
  refine lv_iconst (v := iI 0) hx hb (D_3 W_prog_11_method_12_code_0 12 rfl rfl) rfl ?_
  refine lv_istore (lv' := [(6, .int (iI 0)), (5, .int (iI (-1))), (4, .int (iI 0)), (0, .ref (ad 9 l0 0)), (1, .ref (ad 6 l1 0)), (2, .int (iI l2)), (3, .int (iI l3))]) hx hb (D_54 W_prog_11_method_12_code_0 13 rfl rfl) hl (by decide) rfl (fun ls hl => ?_)
  exact b_Study_chordTold_15 X hf hZ2 hS2 (lv_sub hl [0, 1, 2, 3, 4, 5, 6] rfl)

abbrev Q_Part_followedFor (K : zK) (D : va_G) (ca : Nat → ClassId) (ad : Nat → Int → Nat → Nat) (L : List Nat) (r : Int) (F : zF) (B : zB) (A : Nat → Prop) : Array Value → State → Outcome → State → Prop := va_Qi (S := Unit) (fun p _ => p = iI r) (fun _ => zPo D ca ad lnC K.2 L F B A) A
def f_Part_followedFor_164 (K : zK) (l5 : Int) (F : zF) (B : zB) : zO := some (l5, F, B)
set_option maxHeartbeats 4000000 in
set_option maxRecDepth 100000 in
theorem b_Part_followedFor_164 {D : va_G} {ca : Nat → ClassId} {ad : Nat → Int → Nat → Nat} {L : List Nat} {aS vS : Nat → Nat} {A : Nat → Prop} {p : Program} {l : Launch} {e : Env} {s : State} {m : MethodId} {args : Array Value} {below : List Frame} {meth : Method} {c : Code} {K : zK} {r : Int} {F9 : zF} {B9 : zB} (X : zX D ca L aS vS A p s m args meth c prog_6_method_27_code 9 (Option.some Jvm.ClassFile.FieldType.int) "StaveHouse$Part") {l5 : Int} {F : zF} {B : zB} {H : Heap} {locs : List Loc} {ls : Array Slot} (hf : f_Part_followedFor_164 K l5 F B = some (r, F9, B9)) (hZ : zH D ca ad lnC K.2 L F B A H) (hS : va_S A s.heap H locs) (hl : lv_has ls 9 [(5, .int (iI l5))]) : W p l e ({ frames := 5, cells := 0, slots := 0, locals := 106 } : Room) s m args below meth c H locs 0 0 (MQ below (Q_Part_followedFor K D ca ad L r F9 B9 A) args s 0 0 A) (F0 m 164 ls []) := by
  obtain ⟨hx, hb, hr, hml, hown, hts, hlk, hK, hA, hL, hX⟩ := id X
  replace hf : (some (l5, F, B)) = some (r, F9, B9) := hf
  refine lv_iload hx hb (D_21 W_prog_6_method_27_code_160 4 rfl rfl) (lv_at hl 0 rfl) ?_
  cases hf
  exact W.iret hx hb hr (fun t ht hW => ⟨⟨_, (), rfl, rfl, by rw [ht]; exact hZ, va_K.moved hW.alike hK⟩, hS.F ht⟩) hS.2.2 (D_172 W_prog_6_method_27_code_160 6 rfl rfl) hlk

def f_Part_followedFor_158 (rec48 : Int → Int → Int → Int → Int → Int → zF → zB → zO) (K : zK) (l5 : Int) (l4 : Int) (l0 : Int) (l1 : Int) (l2 : Int) (l3 : Int) (F : zF) (B : zB) : zO := rec48 (l5 + 1) l4 l0 l1 l2 l3 F B
set_option maxHeartbeats 4000000 in
set_option maxRecDepth 100000 in
theorem b_Part_followedFor_158 {D : va_G} {ca : Nat → ClassId} {ad : Nat → Int → Nat → Nat} {L : List Nat} {aS vS : Nat → Nat} {A : Nat → Prop} {p : Program} {l : Launch} {e : Env} {s : State} {m : MethodId} {args : Array Value} {below : List Frame} {meth : Method} {c : Code} {K : zK} {r : Int} {F9 : zF} {B9 : zB} (X : zX D ca L aS vS A p s m args meth c prog_6_method_27_code 9 (Option.some Jvm.ClassFile.FieldType.int) "StaveHouse$Part") {rec48 : Int → Int → Int → Int → Int → Int → zF → zB → zO} (hrec48 : ∀ {l5 : Int} {l4 : Int} {l0 : Int} {l1 : Int} {l2 : Int} {l3 : Int} {F : zF} {B : zB} {H : Heap} {locs : List Loc} {ls : Array Slot}, rec48 l5 l4 l0 l1 l2 l3 F B = some (r, F9, B9) → zH D ca ad lnC K.2 L F B A H → va_S A s.heap H locs → lv_has ls 9 [(5, .int (iI l5)), (4, .int (iI l4)), (0, .ref (ad 4 l0 0)), (1, .ref (ad 4 l1 0)), (2, .int (iI l2)), (3, .int (iI l3))] → W p l e ({ frames := 5, cells := 0, slots := 0, locals := 106 } : Room) s m args below meth c H locs 0 0 (MQ below (Q_Part_followedFor K D ca ad L r F9 B9 A) args s 0 0 A) (F0 m 48 ls [])) {l5 : Int} {l4 : Int} {l0 : Int} {l1 : Int} {l2 : Int} {l3 : Int} {F : zF} {B : zB} {H : Heap} {locs : List Loc} {ls : Array Slot} (hf : f_Part_followedFor_158 rec48 K l5 l4 l0 l1 l2 l3 F B = some (r, F9, B9)) (hZ : zH D ca ad lnC K.2 L F B A H) (hS : va_S A s.heap H locs) (hl : lv_has ls 9 [(5, .int (iI l5)), (4, .int (iI l4)), (0, .ref (ad 4 l0 0)), (1, .ref (ad 4 l1 0)), (2, .int (iI l2)), (3, .int (iI l3))]) : W p l e ({ frames := 5, cells := 0, slots := 0, locals := 106 } : Room) s m args below meth c H locs 0 0 (MQ below (Q_Part_followedFor K D ca ad L r F9 B9 A) args s 0 0 A) (F0 m 158 ls []) := by
  obtain ⟨hx, hb, hr, hml, hown, hts, hlk, hK, hA, hL, hX⟩ := id X
  replace hf : (rec48 (l5 + 1) l4 l0 l1 l2 l3 F B) = some (r, F9, B9) := hf
  refine lv_iinc (v := iI (l5 + 1)) (lv' := [(5, .int (iI (l5 + 1))), (4, .int (iI l4)), (0, .ref (ad 4 l0 0)), (1, .ref (ad 4 l1 0)), (2, .int (iI l2)), (3, .int (iI l3))]) hx hb d_6_27_158 hl (k := 0) rfl (iI_add _ 1) (by decide) rfl (fun ls hl => ?_)
  refine lv_goto (tgt := 48) hx hb (D_167 W_prog_6_method_27_code_160 1 rfl rfl rfl) (by decide) ?_
  exact hrec48 hf hZ hS (lv_sub hl [0, 1, 2, 3, 4, 5] rfl)

def f_Part_followedFor_155 (K : zK) (l5 : Int) (F : zF) (B : zB) : zO := some (l5, F, B)
set_option maxHeartbeats 4000000 in
set_option maxRecDepth 100000 in
theorem b_Part_followedFor_155 {D : va_G} {ca : Nat → ClassId} {ad : Nat → Int → Nat → Nat} {L : List Nat} {aS vS : Nat → Nat} {A : Nat → Prop} {p : Program} {l : Launch} {e : Env} {s : State} {m : MethodId} {args : Array Value} {below : List Frame} {meth : Method} {c : Code} {K : zK} {r : Int} {F9 : zF} {B9 : zB} (X : zX D ca L aS vS A p s m args meth c prog_6_method_27_code 9 (Option.some Jvm.ClassFile.FieldType.int) "StaveHouse$Part") {l5 : Int} {F : zF} {B : zB} {H : Heap} {locs : List Loc} {ls : Array Slot} (hf : f_Part_followedFor_155 K l5 F B = some (r, F9, B9)) (hZ : zH D ca ad lnC K.2 L F B A H) (hS : va_S A s.heap H locs) (hl : lv_has ls 9 [(5, .int (iI l5))]) : W p l e ({ frames := 5, cells := 0, slots := 0, locals := 106 } : Room) s m args below meth c H locs 0 0 (MQ below (Q_Part_followedFor K D ca ad L r F9 B9 A) args s 0 0 A) (F0 m 155 ls []) := by
  obtain ⟨hx, hb, hr, hml, hown, hts, hlk, hK, hA, hL, hX⟩ := id X
  replace hf : (some (l5, F, B)) = some (r, F9, B9) := hf
  refine lv_iload hx hb (D_21 W_prog_6_method_27_code_128 27 rfl rfl) (lv_at hl 0 rfl) ?_
  cases hf
  exact W.iret hx hb hr (fun t ht hW => ⟨⟨_, (), rfl, rfl, by rw [ht]; exact hZ, va_K.moved hW.alike hK⟩, hS.F ht⟩) hS.2.2 (D_172 W_prog_6_method_27_code_128 29 rfl rfl) hlk

def f_Part_followedFor_124 (rec48 : Int → Int → Int → Int → Int → Int → zF → zB → zO) (K : zK) (l7 : Int) (l6 : Int) (l5 : Int) (l4 : Int) (l0 : Int) (l1 : Int) (l2 : Int) (l3 : Int) (s0 : Int) (F : zF) (B : zB) : zO := if r32 s0 then (if s0 = 0 then f_Part_followedFor_155 K l5 F B else if 0 ≤ l6 ∧ l6 < K.2 1 then zbind (f_Event_isRest K l6 F B) (fun r37 F37 B37 => if r32 r37 then (if r37 = 0 then if 0 ≤ l7 ∧ l7 < K.2 1 then zbind (f_Event_topStep K l7 F37 B37) (fun r41 F41 B41 => zbind (f_Event_topStep K l6 F41 B41) (fun r42 F42 B42 => if r32 (r41 - r42) then if r32 l4 then (if (r41 - r42) = l4 then f_Part_followedFor_158 rec48 K l5 l4 l0 l1 l2 l3 F42 B42 else f_Part_followedFor_155 K l5 F42 B42) else none else none)) else none else f_Part_followedFor_158 rec48 K l5 l4 l0 l1 l2 l3 F37 B37) else none) else none) else none
set_option maxHeartbeats 4000000 in
set_option maxRecDepth 100000 in
theorem b_Part_followedFor_124 {D : va_G} {ca : Nat → ClassId} {ad : Nat → Int → Nat → Nat} {L : List Nat} {aS vS : Nat → Nat} {A : Nat → Prop} {p : Program} {l : Launch} {e : Env} {s : State} {m : MethodId} {args : Array Value} {below : List Frame} {meth : Method} {c : Code} {K : zK} {r : Int} {F9 : zF} {B9 : zB} (X : zX D ca L aS vS A p s m args meth c prog_6_method_27_code 9 (Option.some Jvm.ClassFile.FieldType.int) "StaveHouse$Part") {rec48 : Int → Int → Int → Int → Int → Int → zF → zB → zO} (hrec48 : ∀ {l5 : Int} {l4 : Int} {l0 : Int} {l1 : Int} {l2 : Int} {l3 : Int} {F : zF} {B : zB} {H : Heap} {locs : List Loc} {ls : Array Slot}, rec48 l5 l4 l0 l1 l2 l3 F B = some (r, F9, B9) → zH D ca ad lnC K.2 L F B A H → va_S A s.heap H locs → lv_has ls 9 [(5, .int (iI l5)), (4, .int (iI l4)), (0, .ref (ad 4 l0 0)), (1, .ref (ad 4 l1 0)), (2, .int (iI l2)), (3, .int (iI l3))] → W p l e ({ frames := 5, cells := 0, slots := 0, locals := 106 } : Room) s m args below meth c H locs 0 0 (MQ below (Q_Part_followedFor K D ca ad L r F9 B9 A) args s 0 0 A) (F0 m 48 ls [])) {l7 : Int} {l6 : Int} {l5 : Int} {l4 : Int} {l0 : Int} {l1 : Int} {l2 : Int} {l3 : Int} {s0 : Int} {F : zF} {B : zB} {H : Heap} {locs : List Loc} {ls : Array Slot} (hf : f_Part_followedFor_124 rec48 K l7 l6 l5 l4 l0 l1 l2 l3 s0 F B = some (r, F9, B9)) (hZ : zH D ca ad lnC K.2 L F B A H) (hS : va_S A s.heap H locs) (hl : lv_has ls 9 [(7, va_rf (zrf ad 1 l7)), (6, va_rf (zrf ad 1 l6)), (5, .int (iI l5)), (4, .int (iI l4)), (0, .ref (ad 4 l0 0)), (1, .ref (ad 4 l1 0)), (2, .int (iI l2)), (3, .int (iI l3))]) : W p l e ({ frames := 5, cells := 0, slots := 0, locals := 106 } : Room) s m args below meth c H locs 0 0 (MQ below (Q_Part_followedFor K D ca ad L r F9 B9 A) args s 0 0 A) (F0 m 124 ls [.int (iI s0)]) := by
  obtain ⟨hx, hb, hr, hml, hown, hts, hlk, hK, hA, hL, hX⟩ := id X
  replace hf : (if r32 s0 then (if s0 = 0 then f_Part_followedFor_155 K l5 F B else if 0 ≤ l6 ∧ l6 < K.2 1 then zbind (f_Event_isRest K l6 F B) (fun r37 F37 B37 => if r32 r37 then (if r37 = 0 then if 0 ≤ l7 ∧ l7 < K.2 1 then zbind (f_Event_topStep K l7 F37 B37) (fun r41 F41 B41 => zbind (f_Event_topStep K l6 F41 B41) (fun r42 F42 B42 => if r32 (r41 - r42) then if r32 l4 then (if (r41 - r42) = l4 then f_Part_followedFor_158 rec48 K l5 l4 l0 l1 l2 l3 F42 B42 else f_Part_followedFor_155 K l5 F42 B42) else none else none)) else none else f_Part_followedFor_158 rec48 K l5 l4 l0 l1 l2 l3 F37 B37) else none) else none) else none) = some (r, F9, B9) := hf
  refine lv_istore (lv' := [(8, .int (iI s0)), (7, va_rf (zrf ad 1 l7)), (6, va_rf (zrf ad 1 l6)), (5, .int (iI l5)), (4, .int (iI l4)), (0, .ref (ad 4 l0 0)), (1, .ref (ad 4 l1 0)), (2, .int (iI l2)), (3, .int (iI l3))]) hx hb (D_54 W_prog_6_method_27_code_96 28 rfl rfl) hl (by decide) (by cases zrf ad 1 l7 <;> rfl) (fun ls hl => ?_)
  refine lv_iload hx hb (D_21 W_prog_6_method_27_code_96 30 rfl rfl) (lv_at hl 0 rfl) ?_
  obtain ⟨g34, hf⟩ := gif hf
  refine z0eq (tgt := 155) hx hb g34 (D_153 W_prog_6_method_27_code_128 0 rfl rfl rfl) (by decide) (fun h35 => ?_) (fun h35 => ?_)
  · replace hf := gpos hf h35
    exact b_Part_followedFor_155 X hf hZ hS (lv_sub hl [3] rfl)
  · replace hf := gneg hf h35
    refine zaload hx hb (D_25 W_prog_6_method_27_code_128 3 rfl rfl) (lv_at hl 2 rfl) ?_
    obtain ⟨g36, hf⟩ := gif hf
    refine W.eq (g2 := F0 m 133 ls [.ref (ad 1 l6 0)]) (by rw [zrf_pos (ad := ad) (t := 1) g36.1]; try rfl) ?_
    obtain ⟨r37, F37, B37, hc37, hf⟩ := gbind hf
    refine va_calli (va_runV (As := []) (rest := []) ⟨hx, hb, hml, hown, hts⟩ (c_Event_isRest (l := l) hc37) (cwV 0 hts (gdV k_5_78 k_5_79 k_5_80 k_1_8 k_5_81) rfl rfl rfl (by decide +kernel) ⟨Nat.le_of_ble_eq_true rfl, Nat.le_of_ble_eq_true rfl⟩) (zPV X hZ hS (ci := 1) g36.1 g36.2 (r := (RX1, TX1, 14)) rfl []) rfl rfl hl.1 rfl (lv_room (Nat.le_of_ble_eq_true rfl)) (D_182 W_prog_6_method_27_code_128 5 rfl rfl rfl) ⟨Nat.le_of_ble_eq_true rfl, Nat.le_of_ble_eq_true rfl⟩) hS (fun q _ h => zAin X hS q h) (zAin X hS) (fun p37 u37 t37 H37 locs37 ht37 hv37 hw37 hB37 hz37 hk37 hS37 => ?_)
    have hZ37 := zBack X ht37 hB37
    subst hw37
    obtain ⟨g38, hf⟩ := gif hf
    refine z0ne (tgt := 158) hx hb g38 (D_154 W_prog_6_method_27_code_128 8 rfl rfl rfl) (by decide) (fun h39 => ?_) (fun h39 => ?_)
    · replace hf := gneg hf h39
      exact b_Part_followedFor_158 X hrec48 hf hZ37 hS37 (lv_sub hl [3, 4, 5, 6, 7, 8] rfl)
    · replace hf := gpos hf h39
      refine zaload hx hb (D_25 W_prog_6_method_27_code_128 11 rfl rfl) (lv_at hl 1 rfl) ?_
      obtain ⟨g40, hf⟩ := gif hf
      refine W.eq (g2 := F0 m 141 ls [.ref (ad 1 l7 0)]) (by rw [zrf_pos (ad := ad) (t := 1) g40.1]; try rfl) ?_
      obtain ⟨r41, F41, B41, hc41, hf⟩ := gbind hf
      refine va_calli (va_runV (As := []) (rest := []) ⟨hx, hb, hml, hown, hts⟩ (c_Event_topStep (l := l) hc41) (cwV 0 hts (gdV k_9_93 k_9_94 k_9_95 k_1_8 k_9_96) rfl rfl rfl (by decide +kernel) ⟨Nat.le_of_ble_eq_true rfl, Nat.le_of_ble_eq_true rfl⟩) (zPV X hZ37 hS37 (ci := 1) g40.1 g40.2 (r := (RX1, TX1, 14)) rfl []) rfl rfl hl.1 rfl (lv_room (Nat.le_of_ble_eq_true rfl)) (D_182 W_prog_6_method_27_code_128 13 rfl rfl rfl) ⟨Nat.le_of_ble_eq_true rfl, Nat.le_of_ble_eq_true rfl⟩) hS37 (fun q _ h => zAin X hS37 q h) (zAin X hS37) (fun p41 u41 t41 H41 locs41 ht41 hv41 hw41 hB41 hz41 hk41 hS41 => ?_)
      have hZ41 := zBack X ht41 hB41
      subst hw41
      refine zaload hx hb (D_25 W_prog_6_method_27_code_128 16 rfl rfl) (lv_at hl 2 rfl) ?_
      refine W.eq (g2 := F0 m 146 ls [.ref (ad 1 l6 0), .int (iI r41)]) (by rw [zrf_pos (ad := ad) (t := 1) g36.1]; try rfl) ?_
      obtain ⟨r42, F42, B42, hc42, hf⟩ := gbind hf
      refine va_calli (va_runV (As := []) (rest := [.int (iI r41)]) ⟨hx, hb, hml, hown, hts⟩ (c_Event_topStep (l := l) hc42) (cwV 0 hts (gdV k_9_93 k_9_94 k_9_95 k_1_8 k_9_96) rfl rfl rfl (by decide +kernel) ⟨Nat.le_of_ble_eq_true rfl, Nat.le_of_ble_eq_true rfl⟩) (zPV X hZ41 hS41 (ci := 1) g36.1 g36.2 (r := (RX1, TX1, 14)) rfl []) rfl rfl hl.1 rfl (lv_room (Nat.le_of_ble_eq_true rfl)) (D_182 W_prog_6_method_27_code_128 18 rfl rfl rfl) ⟨Nat.le_of_ble_eq_true rfl, Nat.le_of_ble_eq_true rfl⟩) hS41 (fun q _ h => zAin X hS41 q h) (zAin X hS41) (fun p42 u42 t42 H42 locs42 ht42 hv42 hw42 hB42 hz42 hk42 hS42 => ?_)
      have hZ42 := zBack X ht42 hB42
      subst hw42
      refine zsub hx hb (D_100 W_prog_6_method_27_code_128 21 rfl rfl) ?_
      refine lv_iload hx hb (D_21 W_prog_6_method_27_code_128 22 rfl rfl) (lv_at hl 4 rfl) ?_
      obtain ⟨g43, hf⟩ := gif hf
      obtain ⟨g44, hf⟩ := gif hf
      refine zeq (tgt := 158) hx hb g43 g44 (D_159 W_prog_6_method_27_code_128 24 rfl rfl rfl) (by decide) (fun h45 => ?_) (fun h45 => ?_)
      · replace hf := gpos hf h45
        exact b_Part_followedFor_158 X hrec48 hf hZ42 hS42 (lv_sub hl [3, 4, 5, 6, 7, 8] rfl)
      · replace hf := gneg hf h45
        exact b_Part_followedFor_155 X hf hZ42 hS42 (lv_sub hl [3] rfl)

def f_Part_followedFor_123 (rec48 : Int → Int → Int → Int → Int → Int → zF → zB → zO) (K : zK) (l7 : Int) (l6 : Int) (l5 : Int) (l4 : Int) (l0 : Int) (l1 : Int) (l2 : Int) (l3 : Int) (F : zF) (B : zB) : zO := f_Part_followedFor_124 rec48 K l7 l6 l5 l4 l0 l1 l2 l3 0 F B
set_option maxHeartbeats 4000000 in
set_option maxRecDepth 100000 in
theorem b_Part_followedFor_123 {D : va_G} {ca : Nat → ClassId} {ad : Nat → Int → Nat → Nat} {L : List Nat} {aS vS : Nat → Nat} {A : Nat → Prop} {p : Program} {l : Launch} {e : Env} {s : State} {m : MethodId} {args : Array Value} {below : List Frame} {meth : Method} {c : Code} {K : zK} {r : Int} {F9 : zF} {B9 : zB} (X : zX D ca L aS vS A p s m args meth c prog_6_method_27_code 9 (Option.some Jvm.ClassFile.FieldType.int) "StaveHouse$Part") {rec48 : Int → Int → Int → Int → Int → Int → zF → zB → zO} (hrec48 : ∀ {l5 : Int} {l4 : Int} {l0 : Int} {l1 : Int} {l2 : Int} {l3 : Int} {F : zF} {B : zB} {H : Heap} {locs : List Loc} {ls : Array Slot}, rec48 l5 l4 l0 l1 l2 l3 F B = some (r, F9, B9) → zH D ca ad lnC K.2 L F B A H → va_S A s.heap H locs → lv_has ls 9 [(5, .int (iI l5)), (4, .int (iI l4)), (0, .ref (ad 4 l0 0)), (1, .ref (ad 4 l1 0)), (2, .int (iI l2)), (3, .int (iI l3))] → W p l e ({ frames := 5, cells := 0, slots := 0, locals := 106 } : Room) s m args below meth c H locs 0 0 (MQ below (Q_Part_followedFor K D ca ad L r F9 B9 A) args s 0 0 A) (F0 m 48 ls [])) {l7 : Int} {l6 : Int} {l5 : Int} {l4 : Int} {l0 : Int} {l1 : Int} {l2 : Int} {l3 : Int} {F : zF} {B : zB} {H : Heap} {locs : List Loc} {ls : Array Slot} (hf : f_Part_followedFor_123 rec48 K l7 l6 l5 l4 l0 l1 l2 l3 F B = some (r, F9, B9)) (hZ : zH D ca ad lnC K.2 L F B A H) (hS : va_S A s.heap H locs) (hl : lv_has ls 9 [(7, va_rf (zrf ad 1 l7)), (6, va_rf (zrf ad 1 l6)), (5, .int (iI l5)), (4, .int (iI l4)), (0, .ref (ad 4 l0 0)), (1, .ref (ad 4 l1 0)), (2, .int (iI l2)), (3, .int (iI l3))]) : W p l e ({ frames := 5, cells := 0, slots := 0, locals := 106 } : Room) s m args below meth c H locs 0 0 (MQ below (Q_Part_followedFor K D ca ad L r F9 B9 A) args s 0 0 A) (F0 m 123 ls []) := by
  obtain ⟨hx, hb, hr, hml, hown, hts, hlk, hK, hA, hL, hX⟩ := id X
  replace hf : (f_Part_followedFor_124 rec48 K l7 l6 l5 l4 l0 l1 l2 l3 0 F B) = some (r, F9, B9) := hf
  refine lv_iconst (v := iI 0) hx hb (D_3 W_prog_6_method_27_code_96 27 rfl rfl) rfl ?_
  exact b_Part_followedFor_124 X hrec48 hf hZ hS (lv_sub hl [0, 1, 2, 3, 4, 5, 6, 7] rfl)

def f_Part_followedFor_48 (K : zK) : Nat → Int → Int → Int → Int → Int → Int → zF → zB → zO
  | 0, _, _, _, _, _, _, _, _ => none
  | n + 1, l5, l4, l0, l1, l2, l3, F, B => if 0 ≤ l1 ∧ l1 < K.2 4 then if r32 (l2 + l5) then if r32 (F 4 l1 6) then (if (F 4 l1 6) ≤ (l2 + l5) then f_Part_followedFor_164 K l5 F B else if 0 ≤ l0 ∧ l0 < K.2 4 then if r32 (l3 + l5) then if r32 (F 4 l0 6) then (if (F 4 l0 6) ≤ (l3 + l5) then f_Part_followedFor_164 K l5 F B else if 0 ≤ (l2 + l5) ∧ (l2 + l5) < 200 then if 0 ≤ (l3 + l5) ∧ (l3 + l5) < 200 then if 0 ≤ (B 4 l1 5 (l2 + l5)) ∧ (B 4 l1 5 (l2 + l5)) < K.2 1 then zbind (f_Event_isRest K (B 4 l1 5 (l2 + l5)) F B) (fun r24 F24 B24 => if 0 ≤ (B 4 l0 5 (l3 + l5)) ∧ (B 4 l0 5 (l3 + l5)) < K.2 1 then zbind (f_Event_isRest K (B 4 l0 5 (l3 + l5)) F24 B24) (fun r26 F26 B26 => if r32 r24 then if r32 r26 then (if r24 = r26 then if r64 (F26 1 (B 4 l1 5 (l2 + l5)) 1) then if r64 (F26 1 (B 4 l0 5 (l3 + l5)) 1) then (if (zcmp (F26 1 (B 4 l1 5 (l2 + l5)) 1) (F26 1 (B 4 l0 5 (l3 + l5)) 1)) = 0 then f_Part_followedFor_124 (f_Part_followedFor_48 K n) K (B 4 l0 5 (l3 + l5)) (B 4 l1 5 (l2 + l5)) l5 l4 l0 l1 l2 l3 1 F26 B26 else f_Part_followedFor_123 (f_Part_followedFor_48 K n) K (B 4 l0 5 (l3 + l5)) (B 4 l1 5 (l2 + l5)) l5 l4 l0 l1 l2 l3 F26 B26) else none else none else f_Part_followedFor_123 (f_Part_followedFor_48 K n) K (B 4 l0 5 (l3 + l5)) (B 4 l1 5 (l2 + l5)) l5 l4 l0 l1 l2 l3 F26 B26) else none else none) else none) else none else none else none) else none else none else none) else none else none else none
set_option maxHeartbeats 4000000 in
set_option maxRecDepth 100000 in
theorem b_Part_followedFor_48 {D : va_G} {ca : Nat → ClassId} {ad : Nat → Int → Nat → Nat} {L : List Nat} {aS vS : Nat → Nat} {A : Nat → Prop} {p : Program} {l : Launch} {e : Env} {s : State} {m : MethodId} {args : Array Value} {below : List Frame} {meth : Method} {c : Code} {K : zK} {r : Int} {F9 : zF} {B9 : zB} (X : zX D ca L aS vS A p s m args meth c prog_6_method_27_code 9 (Option.some Jvm.ClassFile.FieldType.int) "StaveHouse$Part") : ∀ {n : Nat} {l5 : Int} {l4 : Int} {l0 : Int} {l1 : Int} {l2 : Int} {l3 : Int} {F : zF} {B : zB} {H : Heap} {locs : List Loc} {ls : Array Slot}, f_Part_followedFor_48 K n l5 l4 l0 l1 l2 l3 F B = some (r, F9, B9) → zH D ca ad lnC K.2 L F B A H → va_S A s.heap H locs → lv_has ls 9 [(5, .int (iI l5)), (4, .int (iI l4)), (0, .ref (ad 4 l0 0)), (1, .ref (ad 4 l1 0)), (2, .int (iI l2)), (3, .int (iI l3))] → W p l e ({ frames := 5, cells := 0, slots := 0, locals := 106 } : Room) s m args below meth c H locs 0 0 (MQ below (Q_Part_followedFor K D ca ad L r F9 B9 A) args s 0 0 A) (F0 m 48 ls []) := by
  obtain ⟨hx, hb, hr, hml, hown, hts, hlk, hK, hA, hL, hX⟩ := id X
  intro n
  induction n with
  | zero =>
    intros
    rename_i hf _ _ _
    cases hf
  | succ n ih =>
    intro l5 l4 l0 l1 l2 l3 F B H locs ls hf hZ hS hl
    replace hf : (if 0 ≤ l1 ∧ l1 < K.2 4 then if r32 (l2 + l5) then if r32 (F 4 l1 6) then (if (F 4 l1 6) ≤ (l2 + l5) then f_Part_followedFor_164 K l5 F B else if 0 ≤ l0 ∧ l0 < K.2 4 then if r32 (l3 + l5) then if r32 (F 4 l0 6) then (if (F 4 l0 6) ≤ (l3 + l5) then f_Part_followedFor_164 K l5 F B else if 0 ≤ (l2 + l5) ∧ (l2 + l5) < 200 then if 0 ≤ (l3 + l5) ∧ (l3 + l5) < 200 then if 0 ≤ (B 4 l1 5 (l2 + l5)) ∧ (B 4 l1 5 (l2 + l5)) < K.2 1 then zbind (f_Event_isRest K (B 4 l1 5 (l2 + l5)) F B) (fun r24 F24 B24 => if 0 ≤ (B 4 l0 5 (l3 + l5)) ∧ (B 4 l0 5 (l3 + l5)) < K.2 1 then zbind (f_Event_isRest K (B 4 l0 5 (l3 + l5)) F24 B24) (fun r26 F26 B26 => if r32 r24 then if r32 r26 then (if r24 = r26 then if r64 (F26 1 (B 4 l1 5 (l2 + l5)) 1) then if r64 (F26 1 (B 4 l0 5 (l3 + l5)) 1) then (if (zcmp (F26 1 (B 4 l1 5 (l2 + l5)) 1) (F26 1 (B 4 l0 5 (l3 + l5)) 1)) = 0 then f_Part_followedFor_124 (f_Part_followedFor_48 K n) K (B 4 l0 5 (l3 + l5)) (B 4 l1 5 (l2 + l5)) l5 l4 l0 l1 l2 l3 1 F26 B26 else f_Part_followedFor_123 (f_Part_followedFor_48 K n) K (B 4 l0 5 (l3 + l5)) (B 4 l1 5 (l2 + l5)) l5 l4 l0 l1 l2 l3 F26 B26) else none else none else f_Part_followedFor_123 (f_Part_followedFor_48 K n) K (B 4 l0 5 (l3 + l5)) (B 4 l1 5 (l2 + l5)) l5 l4 l0 l1 l2 l3 F26 B26) else none else none) else none) else none else none else none) else none else none else none) else none else none else none) = some (r, F9, B9) := hf
    refine lv_iload_n hx hb (D_28 W_prog_6_method_27_code_32 16 rfl rfl) rfl (lv_at hl 4 rfl) ?_
    refine lv_iload hx hb (D_21 W_prog_6_method_27_code_32 17 rfl rfl) (lv_at hl 0 rfl) ?_
    refine zadd hx hb (D_96 W_prog_6_method_27_code_32 19 rfl rfl) ?_
    refine lv_aload_n hx hb (D_43 W_prog_6_method_27_code_32 20 rfl rfl) rfl (lv_at hl 3 rfl) ?_
    obtain ⟨g13, hf⟩ := gif hf
    refine zget (ci := 4) (C := RX4) (T := TX4) (v := .int (iI (F 4 l1 6))) (k := 6) hx hb hts inW_4 hown hK hZ g13.1 g13.2 rfl (by decide) k_4_135 rfl (D_180 W_prog_6_method_27_code_32 21 rfl rfl rfl) ?_
    obtain ⟨g14, hf⟩ := gif hf
    obtain ⟨g15, hf⟩ := gif hf
    refine zge (tgt := 164) hx hb g14 g15 (D_162 W_prog_6_method_27_code_32 24 rfl rfl rfl) (by decide) (fun h16 => ?_) (fun h16 => ?_)
    · replace hf := gpos hf h16
      exact b_Part_followedFor_164 X hf hZ hS (lv_sub hl [0] rfl)
    · replace hf := gneg hf h16
      refine lv_iload_n hx hb (D_29 W_prog_6_method_27_code_32 27 rfl rfl) rfl (lv_at hl 5 rfl) ?_
      refine lv_iload hx hb (D_21 W_prog_6_method_27_code_32 28 rfl rfl) (lv_at hl 0 rfl) ?_
      refine zadd hx hb (D_96 W_prog_6_method_27_code_32 30 rfl rfl) ?_
      refine lv_aload_n hx hb (D_42 W_prog_6_method_27_code_32 31 rfl rfl) rfl (lv_at hl 2 rfl) ?_
      obtain ⟨g17, hf⟩ := gif hf
      refine zget (ci := 4) (C := RX4) (T := TX4) (v := .int (iI (F 4 l0 6))) (k := 6) hx hb hts inW_4 hown hK hZ g17.1 g17.2 rfl (by decide) k_4_135 rfl (D_180 W_prog_6_method_27_code_64 0 rfl rfl rfl) ?_
      obtain ⟨g18, hf⟩ := gif hf
      obtain ⟨g19, hf⟩ := gif hf
      refine zge (tgt := 164) hx hb g18 g19 (D_162 W_prog_6_method_27_code_64 3 rfl rfl rfl) (by decide) (fun h20 => ?_) (fun h20 => ?_)
      · replace hf := gpos hf h20
        exact b_Part_followedFor_164 X hf hZ hS (lv_sub hl [0] rfl)
      · replace hf := gneg hf h20
        refine lv_aload_n hx hb (D_43 W_prog_6_method_27_code_64 6 rfl rfl) rfl (lv_at hl 3 rfl) ?_
        refine zget (ci := 4) (C := RX4) (T := TX4) (v := .ref (ad 4 l1 (5 + 1))) (k := 5) hx hb hts inW_4 hown hK hZ g13.1 g13.2 rfl (by decide) k_4_130 rfl (D_180 W_prog_6_method_27_code_64 7 rfl rfl rfl) ?_
        refine lv_iload_n hx hb (D_28 W_prog_6_method_27_code_64 10 rfl rfl) rfl (lv_at hl 4 rfl) ?_
        refine lv_iload hx hb (D_21 W_prog_6_method_27_code_64 11 rfl rfl) (lv_at hl 0 rfl) ?_
        refine zadd hx hb (D_96 W_prog_6_method_27_code_64 13 rfl rfl) ?_
        obtain ⟨g21, hf⟩ := gif hf
        refine zaldR (t := 1) (x := 7) (ci := 4) (k := 5) hx hb hK rfl rfl hZ g13.1 g13.2 rfl (Nat.le_of_ble_eq_true rfl) g21.1 g21.2 (D_50 W_prog_6_method_27_code_64 14 rfl rfl) ?_
        refine zastore (lv' := [(5, .int (iI l5)), (4, .int (iI l4)), (0, .ref (ad 4 l0 0)), (1, .ref (ad 4 l1 0)), (2, .int (iI l2)), (3, .int (iI l3))]) hx hb (D_58 W_prog_6_method_27_code_64 15 rfl rfl) hl (by decide) (fun _ _ => rfl) (fun ls hl => ?_)
        refine lv_aload_n hx hb (D_42 W_prog_6_method_27_code_64 17 rfl rfl) rfl (lv_at hl 3 rfl) ?_
        refine zget (ci := 4) (C := RX4) (T := TX4) (v := .ref (ad 4 l0 (5 + 1))) (k := 5) hx hb hts inW_4 hown hK hZ g17.1 g17.2 rfl (by decide) k_4_130 rfl (D_180 W_prog_6_method_27_code_64 18 rfl rfl rfl) ?_
        refine lv_iload_n hx hb (D_29 W_prog_6_method_27_code_64 21 rfl rfl) rfl (lv_at hl 6 rfl) ?_
        refine lv_iload hx hb (D_21 W_prog_6_method_27_code_64 22 rfl rfl) (lv_at hl 1 rfl) ?_
        refine zadd hx hb (D_96 W_prog_6_method_27_code_64 24 rfl rfl) ?_
        obtain ⟨g22, hf⟩ := gif hf
        refine zaldR (t := 1) (x := 7) (ci := 4) (k := 5) hx hb hK rfl rfl hZ g17.1 g17.2 rfl (Nat.le_of_ble_eq_true rfl) g22.1 g22.2 (D_50 W_prog_6_method_27_code_64 25 rfl rfl) ?_
        refine zastore (lv' := [(6, va_rf (zrf ad 1 (B 4 l1 5 (l2 + l5)))), (5, .int (iI l5)), (4, .int (iI l4)), (0, .ref (ad 4 l0 0)), (1, .ref (ad 4 l1 0)), (2, .int (iI l2)), (3, .int (iI l3))]) hx hb (D_58 W_prog_6_method_27_code_64 26 rfl rfl) hl (by decide) (fun v hv => by cases zrf ad 1 (B 4 l1 5 (l2 + l5)) <;> rfl) (fun ls hl => ?_)
        refine zaload hx hb (D_25 W_prog_6_method_27_code_64 28 rfl rfl) (lv_at hl 1 rfl) ?_
        obtain ⟨g23, hf⟩ := gif hf
        refine W.eq (g2 := F0 m 94 ls [.ref (ad 1 (B 4 l1 5 (l2 + l5)) 0)]) (by rw [zrf_pos (ad := ad) (t := 1) g23.1]; try rfl) ?_
        obtain ⟨r24, F24, B24, hc24, hf⟩ := gbind hf
        refine va_calli (va_runV (As := []) (rest := []) ⟨hx, hb, hml, hown, hts⟩ (c_Event_isRest (l := l) hc24) (cwV 0 hts (gdV k_5_78 k_5_79 k_5_80 k_1_8 k_5_81) rfl rfl rfl (by decide +kernel) ⟨Nat.le_of_ble_eq_true rfl, Nat.le_of_ble_eq_true rfl⟩) (zPV X hZ hS (ci := 1) g23.1 g23.2 (r := (RX1, TX1, 14)) rfl []) rfl rfl hl.1 rfl (lv_room (Nat.le_of_ble_eq_true rfl)) (D_182 W_prog_6_method_27_code_64 30 rfl rfl rfl) ⟨Nat.le_of_ble_eq_true rfl, Nat.le_of_ble_eq_true rfl⟩) hS (fun q _ h => zAin X hS q h) (zAin X hS) (fun p24 u24 t24 H24 locs24 ht24 hv24 hw24 hB24 hz24 hk24 hS24 => ?_)
        have hZ24 := zBack X ht24 hB24
        subst hw24
        refine zaload hx hb (D_25 W_prog_6_method_27_code_96 1 rfl rfl) (lv_at hl 0 rfl) ?_
        obtain ⟨g25, hf⟩ := gif hf
        refine W.eq (g2 := F0 m 99 ls [.ref (ad 1 (B 4 l0 5 (l3 + l5)) 0), .int (iI r24)]) (by rw [zrf_pos (ad := ad) (t := 1) g25.1]; try rfl) ?_
        obtain ⟨r26, F26, B26, hc26, hf⟩ := gbind hf
        refine va_calli (va_runV (As := []) (rest := [.int (iI r24)]) ⟨hx, hb, hml, hown, hts⟩ (c_Event_isRest (l := l) hc26) (cwV 0 hts (gdV k_5_78 k_5_79 k_5_80 k_1_8 k_5_81) rfl rfl rfl (by decide +kernel) ⟨Nat.le_of_ble_eq_true rfl, Nat.le_of_ble_eq_true rfl⟩) (zPV X hZ24 hS24 (ci := 1) g25.1 g25.2 (r := (RX1, TX1, 14)) rfl []) rfl rfl hl.1 rfl (lv_room (Nat.le_of_ble_eq_true rfl)) (D_182 W_prog_6_method_27_code_96 3 rfl rfl rfl) ⟨Nat.le_of_ble_eq_true rfl, Nat.le_of_ble_eq_true rfl⟩) hS24 (fun q _ h => zAin X hS24 q h) (zAin X hS24) (fun p26 u26 t26 H26 locs26 ht26 hv26 hw26 hB26 hz26 hk26 hS26 => ?_)
        have hZ26 := zBack X ht26 hB26
        subst hw26
        obtain ⟨g27, hf⟩ := gif hf
        obtain ⟨g28, hf⟩ := gif hf
        refine zne (tgt := 123) hx hb g27 g28 (D_160 W_prog_6_method_27_code_96 6 rfl rfl rfl) (by decide) (fun h29 => ?_) (fun h29 => ?_)
        · replace hf := gneg hf h29
          exact b_Part_followedFor_123 X ih hf hZ26 hS26 (lv_sub hl [0, 1, 2, 3, 4, 5, 6, 7] rfl)
        · replace hf := gpos hf h29
          refine zaload hx hb (D_25 W_prog_6_method_27_code_96 9 rfl rfl) (lv_at hl 1 rfl) ?_
          refine zunrf g23.1 ?_
          refine zget (ci := 1) (C := RX1) (T := TX1) (v := .long (lI (F26 1 (B 4 l1 5 (l2 + l5)) 1))) (k := 1) hx hb hts inW_1 hown hK hZ26 g23.1 g23.2 rfl (by decide) k_2_24 rfl (D_180 W_prog_6_method_27_code_96 11 rfl rfl rfl) ?_
          refine zaload hx hb (D_25 W_prog_6_method_27_code_96 14 rfl rfl) (lv_at hl 0 rfl) ?_
          refine zunrf g25.1 ?_
          refine zget (ci := 1) (C := RX1) (T := TX1) (v := .long (lI (F26 1 (B 4 l0 5 (l3 + l5)) 1))) (k := 1) hx hb hts inW_1 hown hK hZ26 g25.1 g25.2 rfl (by decide) k_2_24 rfl (D_180 W_prog_6_method_27_code_96 16 rfl rfl rfl) ?_
          obtain ⟨g30, hf⟩ := gif hf
          obtain ⟨g31, hf⟩ := gif hf
          refine zcmp_r hx hb g30 g31 (D_148 W_prog_6_method_27_code_96 19 rfl rfl) ?_
          refine z0ne (tgt := 123) hx hb zcmp_32 (D_154 W_prog_6_method_27_code_96 20 rfl rfl rfl) (by decide) (fun h33 => ?_) (fun h33 => ?_)
          · replace hf := gneg hf h33
            exact b_Part_followedFor_123 X ih hf hZ26 hS26 (lv_sub hl [0, 1, 2, 3, 4, 5, 6, 7] rfl)
          · replace hf := gpos hf h33
            refine lv_iconst (v := iI 1) hx hb (D_4 W_prog_6_method_27_code_96 23 rfl rfl) rfl ?_
            refine lv_goto (tgt := 124) hx hb (D_167 W_prog_6_method_27_code_96 24 rfl rfl rfl) (by decide) ?_
            exact b_Part_followedFor_124 X ih hf hZ26 hS26 (lv_sub hl [0, 1, 2, 3, 4, 5, 6, 7] rfl)

def f_Part_followedFor (K : zK) (l0 : Int) (l1 : Int) (l2 : Int) (l3 : Int) (F : zF) (B : zB) : zO := if 0 ≤ l0 ∧ l0 < K.2 4 then if 0 ≤ l3 ∧ l3 < 200 then if 0 ≤ (B 4 l0 5 l3) ∧ (B 4 l0 5 l3) < K.2 1 then if 0 ≤ l1 ∧ l1 < K.2 4 then if 0 ≤ l2 ∧ l2 < 200 then if 0 ≤ (B 4 l1 5 l2) ∧ (B 4 l1 5 l2) < K.2 1 then if r64 (F 1 (B 4 l0 5 l3) 0) then if r64 (F 1 (B 4 l1 5 l2) 0) then (if 0 < (zcmp (F 1 (B 4 l0 5 l3) 0) (F 1 (B 4 l1 5 l2) 0)) then zbind (f_Event_topStep K (B 4 l0 5 l3) F B) (fun r10 F10 B10 => if 0 ≤ (B10 4 l1 5 l2) ∧ (B10 4 l1 5 l2) < K.2 1 then zbind (f_Event_topStep K (B10 4 l1 5 l2) F10 B10) (fun r12 F12 B12 => f_Part_followedFor_48 K K.1 0 (r10 - r12) l0 l1 l2 l3 F12 B12) else none) else some (0, F, B)) else none else none else none else none else none else none else none else none
set_option maxHeartbeats 4000000 in
set_option maxRecDepth 100000 in
theorem c_Part_followedFor {l : Launch} {D : va_G} {ca : Nat → ClassId} {ad : Nat → Int → Nat → Nat} {L : List Nat} {aS vS : Nat → Nat} {sz : Nat} {K : zK}  {l0 : Int} {l1 : Int} {l2 : Int} {l3 : Int} {F F9 : zF} {B B9 : zB} {r : Int} (hf : f_Part_followedFor K l0 l1 l2 l3 F B = some (r, F9, B9)) : Met l ({ cls := "StaveHouse$Part", name := "followedFor", desc := "(LStaveHouse$Part;II)I" } : Jvm.MethodName) (Cond.code ({ cls := "StaveHouse$Part", name := "followedFor", desc := "(LStaveHouse$Part;II)I" } : Jvm.MethodName) prog_6_method_27_code 9 (Option.some Jvm.ClassFile.FieldType.int) :: wAll) ({ frames := 5, cells := 0, slots := 0, locals := 106 } : Room) (va_Pc [.ref (ad 4 l0 0), .ref (ad 4 l1 0), .int (iI l2), .int (iI l3)] (zPre D ca ad lnC K.2 L aS vS F B sz)) (Q_Part_followedFor K D ca ad L r F9 B9 (zA L sz)) 0 0 (zA L sz) := by
  refine zMet (Qc := Q_Part_followedFor K D ca ad L r F9 B9) (lv := [(0, .ref (ad 4 l0 0)), (1, .ref (ad 4 l1 0)), (2, .int (iI l2)), (3, .int (iI l3))]) (by decide) (Nat.le_of_ble_eq_true rfl) rfl (fun A p e s m below meth c ls X hZ hS hl => ?_)
  obtain ⟨hx, hb, hr, hml, hown, hts, hlk, hK, hA, hL, hX⟩ := id X
  replace hf : (if 0 ≤ l0 ∧ l0 < K.2 4 then if 0 ≤ l3 ∧ l3 < 200 then if 0 ≤ (B 4 l0 5 l3) ∧ (B 4 l0 5 l3) < K.2 1 then if 0 ≤ l1 ∧ l1 < K.2 4 then if 0 ≤ l2 ∧ l2 < 200 then if 0 ≤ (B 4 l1 5 l2) ∧ (B 4 l1 5 l2) < K.2 1 then if r64 (F 1 (B 4 l0 5 l3) 0) then if r64 (F 1 (B 4 l1 5 l2) 0) then (if 0 < (zcmp (F 1 (B 4 l0 5 l3) 0) (F 1 (B 4 l1 5 l2) 0)) then zbind (f_Event_topStep K (B 4 l0 5 l3) F B) (fun r10 F10 B10 => if 0 ≤ (B10 4 l1 5 l2) ∧ (B10 4 l1 5 l2) < K.2 1 then zbind (f_Event_topStep K (B10 4 l1 5 l2) F10 B10) (fun r12 F12 B12 => f_Part_followedFor_48 K K.1 0 (r10 - r12) l0 l1 l2 l3 F12 B12) else none) else some (0, F, B)) else none else none else none else none else none else none else none else none) = some (r, F9, B9) := hf
  refine lv_aload_n hx hb (D_42 W_prog_6_method_27_code_0 0 rfl rfl) rfl (lv_at hl 0 rfl) ?_
  obtain ⟨g1, hf⟩ := gif hf
  refine zget (ci := 4) (C := RX4) (T := TX4) (v := .ref (ad 4 l0 (5 + 1))) (k := 5) hx hb hts inW_4 hown hK hZ g1.1 g1.2 rfl (by decide) k_4_130 rfl (D_180 W_prog_6_method_27_code_0 1 rfl rfl rfl) ?_
  refine lv_iload_n hx hb (D_29 W_prog_6_method_27_code_0 4 rfl rfl) rfl (lv_at hl 3 rfl) ?_
  obtain ⟨g2, hf⟩ := gif hf
  refine zaldR (t := 1) (x := 7) (ci := 4) (k := 5) hx hb hK rfl rfl hZ g1.1 g1.2 rfl (Nat.le_of_ble_eq_true rfl) g2.1 g2.2 (D_50 W_prog_6_method_27_code_0 5 rfl rfl) ?_
  obtain ⟨g3, hf⟩ := gif hf
  refine zunrf g3.1 ?_
  refine zget (ci := 1) (C := RX1) (T := TX1) (v := .long (lI (F 1 (B 4 l0 5 l3) 0))) (k := 0) hx hb hts inW_1 hown hK hZ g3.1 g3.2 rfl (by decide) k_2_21 rfl (D_180 W_prog_6_method_27_code_0 6 rfl rfl rfl) ?_
  refine lv_aload_n hx hb (D_43 W_prog_6_method_27_code_0 9 rfl rfl) rfl (lv_at hl 1 rfl) ?_
  obtain ⟨g4, hf⟩ := gif hf
  refine zget (ci := 4) (C := RX4) (T := TX4) (v := .ref (ad 4 l1 (5 + 1))) (k := 5) hx hb hts inW_4 hown hK hZ g4.1 g4.2 rfl (by decide) k_4_130 rfl (D_180 W_prog_6_method_27_code_0 10 rfl rfl rfl) ?_
  refine lv_iload_n hx hb (D_28 W_prog_6_method_27_code_0 13 rfl rfl) rfl (lv_at hl 2 rfl) ?_
  obtain ⟨g5, hf⟩ := gif hf
  refine zaldR (t := 1) (x := 7) (ci := 4) (k := 5) hx hb hK rfl rfl hZ g4.1 g4.2 rfl (Nat.le_of_ble_eq_true rfl) g5.1 g5.2 (D_50 W_prog_6_method_27_code_0 14 rfl rfl) ?_
  obtain ⟨g6, hf⟩ := gif hf
  refine zunrf g6.1 ?_
  refine zget (ci := 1) (C := RX1) (T := TX1) (v := .long (lI (F 1 (B 4 l1 5 l2) 0))) (k := 0) hx hb hts inW_1 hown hK hZ g6.1 g6.2 rfl (by decide) k_2_21 rfl (D_180 W_prog_6_method_27_code_0 15 rfl rfl rfl) ?_
  obtain ⟨g7, hf⟩ := gif hf
  obtain ⟨g8, hf⟩ := gif hf
  refine zcmp_r hx hb g7 g8 (D_148 W_prog_6_method_27_code_0 18 rfl rfl) ?_
  refine z0gt (tgt := 24) hx hb zcmp_32 (D_157 W_prog_6_method_27_code_0 19 rfl rfl rfl) (by decide) (fun h9 => ?_) (fun h9 => ?_)
  · replace hf := gpos hf h9
    refine lv_aload_n hx hb (D_42 W_prog_6_method_27_code_0 24 rfl rfl) rfl (lv_at hl 0 rfl) ?_
    refine zget (ci := 4) (C := RX4) (T := TX4) (v := .ref (ad 4 l0 (5 + 1))) (k := 5) hx hb hts inW_4 hown hK hZ g1.1 g1.2 rfl (by decide) k_4_130 rfl (D_180 W_prog_6_method_27_code_0 25 rfl rfl rfl) ?_
    refine lv_iload_n hx hb (D_29 W_prog_6_method_27_code_0 28 rfl rfl) rfl (lv_at hl 3 rfl) ?_
    refine zaldR (t := 1) (x := 7) (ci := 4) (k := 5) hx hb hK rfl rfl hZ g1.1 g1.2 rfl (Nat.le_of_ble_eq_true rfl) g2.1 g2.2 (D_50 W_prog_6_method_27_code_0 29 rfl rfl) ?_
    refine W.eq (g2 := F0 m 30 ls [.ref (ad 1 (B 4 l0 5 l3) 0)]) (by rw [zrf_pos (ad := ad) (t := 1) g3.1]; try rfl) ?_
    obtain ⟨r10, F10, B10, hc10, hf⟩ := gbind hf
    refine va_calli (va_runV (As := []) (rest := []) ⟨hx, hb, hml, hown, hts⟩ (c_Event_topStep (l := l) hc10) (cwV 0 hts (gdV k_9_93 k_9_94 k_9_95 k_1_8 k_9_96) rfl rfl rfl (by decide +kernel) ⟨Nat.le_of_ble_eq_true rfl, Nat.le_of_ble_eq_true rfl⟩) (zPV X hZ hS (ci := 1) g3.1 g3.2 (r := (RX1, TX1, 14)) rfl []) rfl rfl hl.1 rfl (lv_room (Nat.le_of_ble_eq_true rfl)) (D_182 W_prog_6_method_27_code_0 30 rfl rfl rfl) ⟨Nat.le_of_ble_eq_true rfl, Nat.le_of_ble_eq_true rfl⟩) hS (fun q _ h => zAin X hS q h) (zAin X hS) (fun p10 u10 t10 H10 locs10 ht10 hv10 hw10 hB10 hz10 hk10 hS10 => ?_)
    have hZ10 := zBack X ht10 hB10
    subst hw10
    refine lv_aload_n hx hb (D_43 W_prog_6_method_27_code_32 1 rfl rfl) rfl (lv_at hl 1 rfl) ?_
    refine zget (ci := 4) (C := RX4) (T := TX4) (v := .ref (ad 4 l1 (5 + 1))) (k := 5) hx hb hts inW_4 hown hK hZ10 g4.1 g4.2 rfl (by decide) k_4_130 rfl (D_180 W_prog_6_method_27_code_32 2 rfl rfl rfl) ?_
    refine lv_iload_n hx hb (D_28 W_prog_6_method_27_code_32 5 rfl rfl) rfl (lv_at hl 2 rfl) ?_
    refine zaldR (t := 1) (x := 7) (ci := 4) (k := 5) hx hb hK rfl rfl hZ10 g4.1 g4.2 rfl (Nat.le_of_ble_eq_true rfl) g5.1 g5.2 (D_50 W_prog_6_method_27_code_32 6 rfl rfl) ?_
    obtain ⟨g11, hf⟩ := gif hf
    refine W.eq (g2 := F0 m 39 ls [.ref (ad 1 (B10 4 l1 5 l2) 0), .int (iI r10)]) (by rw [zrf_pos (ad := ad) (t := 1) g11.1]; try rfl) ?_
    obtain ⟨r12, F12, B12, hc12, hf⟩ := gbind hf
    refine va_calli (va_runV (As := []) (rest := [.int (iI r10)]) ⟨hx, hb, hml, hown, hts⟩ (c_Event_topStep (l := l) hc12) (cwV 0 hts (gdV k_9_93 k_9_94 k_9_95 k_1_8 k_9_96) rfl rfl rfl (by decide +kernel) ⟨Nat.le_of_ble_eq_true rfl, Nat.le_of_ble_eq_true rfl⟩) (zPV X hZ10 hS10 (ci := 1) g11.1 g11.2 (r := (RX1, TX1, 14)) rfl []) rfl rfl hl.1 rfl (lv_room (Nat.le_of_ble_eq_true rfl)) (D_182 W_prog_6_method_27_code_32 7 rfl rfl rfl) ⟨Nat.le_of_ble_eq_true rfl, Nat.le_of_ble_eq_true rfl⟩) hS10 (fun q _ h => zAin X hS10 q h) (zAin X hS10) (fun p12 u12 t12 H12 locs12 ht12 hv12 hw12 hB12 hz12 hk12 hS12 => ?_)
    have hZ12 := zBack X ht12 hB12
    subst hw12
    refine zsub hx hb (D_100 W_prog_6_method_27_code_32 10 rfl rfl) ?_
    refine lv_istore (lv' := [(4, .int (iI (r10 - r12))), (0, .ref (ad 4 l0 0)), (1, .ref (ad 4 l1 0)), (2, .int (iI l2)), (3, .int (iI l3))]) hx hb (D_54 W_prog_6_method_27_code_32 11 rfl rfl) hl (by decide) rfl (fun ls hl => ?_)
    refine lv_iconst (v := iI 0) hx hb (D_3 W_prog_6_method_27_code_32 13 rfl rfl) rfl ?_
    refine lv_istore (lv' := [(5, .int (iI 0)), (4, .int (iI (r10 - r12))), (0, .ref (ad 4 l0 0)), (1, .ref (ad 4 l1 0)), (2, .int (iI l2)), (3, .int (iI l3))]) hx hb (D_54 W_prog_6_method_27_code_32 14 rfl rfl) hl (by decide) rfl (fun ls hl => ?_)
    exact b_Part_followedFor_48 X hf hZ12 hS12 (lv_sub hl [0, 1, 2, 3, 4, 5] rfl)
  · replace hf := gneg hf h9
    refine lv_iconst (v := iI 0) hx hb (D_3 W_prog_6_method_27_code_0 22 rfl rfl) rfl ?_
    cases hf
    exact W.iret hx hb hr (fun t ht hW => ⟨⟨_, (), rfl, rfl, by rw [ht]; exact hZ, va_K.moved hW.alike hK⟩, hS.F ht⟩) hS.2.2 (D_172 W_prog_6_method_27_code_0 23 rfl rfl) hlk

abbrev Q_S_shape (K : zK) (D : va_G) (ca : Nat → ClassId) (ad : Nat → Int → Nat → Nat) (L : List Nat) (r : Int) (F : zF) (B : zB) (A : Nat → Prop) : Array Value → State → Outcome → State → Prop := va_Qi (S := Unit) (fun p _ => p = iI r) (fun _ => zPo D ca ad lnC K.2 L F B A) A
def f_S_shape_136 (rec95 : Int → Int → Int → Int → Int → Int → Int → zF → zB → zO) (K : zK) (l13 : Int) (l12 : Int) (l10 : Int) (l9 : Int) (l3 : Int) (l4 : Int) (l7 : Int) (F : zF) (B : zB) : zO := rec95 (l13 + 1) l12 l10 l9 l3 l4 l7 F B
set_option maxHeartbeats 4000000 in
set_option maxRecDepth 100000 in
theorem b_S_shape_136 {D : va_G} {ca : Nat → ClassId} {ad : Nat → Int → Nat → Nat} {L : List Nat} {aS vS : Nat → Nat} {A : Nat → Prop} {p : Program} {l : Launch} {e : Env} {s : State} {m : MethodId} {args : Array Value} {below : List Frame} {meth : Method} {c : Code} {K : zK} {r : Int} {F9 : zF} {B9 : zB} (X : zX D ca L aS vS A p s m args meth c prog_1_method_33_code 14 (Option.some Jvm.ClassFile.FieldType.int) "StaveHouse") {rec95 : Int → Int → Int → Int → Int → Int → Int → zF → zB → zO} (hrec95 : ∀ {l13 : Int} {l12 : Int} {l10 : Int} {l9 : Int} {l3 : Int} {l4 : Int} {l7 : Int} {F : zF} {B : zB} {H : Heap} {locs : List Loc} {ls : Array Slot}, rec95 l13 l12 l10 l9 l3 l4 l7 F B = some (r, F9, B9) → zH D ca ad lnC K.2 L F B A H → va_S A s.heap H locs → lv_has ls 14 [(13, .int (iI l13)), (12, .int (iI l12)), (10, va_rf (zrf ad 4 l10)), (9, va_rf (zrf ad 4 l9)), (3, .int (iI l3)), (4, .int (iI l4)), (7, .int (iI l7))] → W p l e ({ frames := 6, cells := 0, slots := 0, locals := 143 } : Room) s m args below meth c H locs 0 0 (MQ below (Q_S_shape K D ca ad L r F9 B9 A) args s 0 0 A) (F0 m 95 ls [])) {l13 : Int} {l12 : Int} {l10 : Int} {l9 : Int} {l3 : Int} {l4 : Int} {l7 : Int} {F : zF} {B : zB} {H : Heap} {locs : List Loc} {ls : Array Slot} (hf : f_S_shape_136 rec95 K l13 l12 l10 l9 l3 l4 l7 F B = some (r, F9, B9)) (hZ : zH D ca ad lnC K.2 L F B A H) (hS : va_S A s.heap H locs) (hl : lv_has ls 14 [(13, .int (iI l13)), (12, .int (iI l12)), (10, va_rf (zrf ad 4 l10)), (9, va_rf (zrf ad 4 l9)), (3, .int (iI l3)), (4, .int (iI l4)), (7, .int (iI l7))]) : W p l e ({ frames := 6, cells := 0, slots := 0, locals := 143 } : Room) s m args below meth c H locs 0 0 (MQ below (Q_S_shape K D ca ad L r F9 B9 A) args s 0 0 A) (F0 m 136 ls []) := by
  obtain ⟨hx, hb, hr, hml, hown, hts, hlk, hK, hA, hL, hX⟩ := id X
  replace hf : (rec95 (l13 + 1) l12 l10 l9 l3 l4 l7 F B) = some (r, F9, B9) := hf
  refine lv_iinc (v := iI (l13 + 1)) (lv' := [(13, .int (iI (l13 + 1))), (12, .int (iI l12)), (10, va_rf (zrf ad 4 l10)), (9, va_rf (zrf ad 4 l9)), (3, .int (iI l3)), (4, .int (iI l4)), (7, .int (iI l7))]) hx hb d_1_33_136 hl (k := 0) rfl (iI_add _ 1) (by decide) rfl (fun ls hl => ?_)
  refine lv_goto (tgt := 95) hx hb (D_167 W_prog_1_method_33_code_128 11 rfl rfl rfl) (by decide) ?_
  exact hrec95 hf hZ hS (lv_sub hl [0, 1, 2, 3, 4, 5, 6] rfl)

def f_S_shape_95 (K : zK) : Nat → Int → Int → Int → Int → Int → Int → Int → zF → zB → zO
  | 0, _, _, _, _, _, _, _, _, _ => none
  | n + 1, l13, l12, l10, l9, l3, l4, l7, F, B => if 0 ≤ l10 ∧ l10 < K.2 4 then if r32 l13 then if r32 ((F 4 l10 6) - l4) then (if ((F 4 l10 6) - l4) < l13 then some ((-1), F, B) else if 0 ≤ l9 ∧ l9 < K.2 4 then zbind (f_Part_hasShape K l10 l13 l9 l3 l4 l7 F B) (fun r26 F26 B26 => if r32 r26 then (if r26 = 0 then f_S_shape_136 (f_S_shape_95 K n) K l13 l12 l10 l9 l3 l4 l7 F26 B26 else if r32 l12 then (if l12 = 0 then some (l13, F26, B26) else f_S_shape_136 (f_S_shape_95 K n) K l13 (l12 - 1) l10 l9 l3 l4 l7 F26 B26) else none) else none) else none) else none else none else none
set_option maxHeartbeats 4000000 in
set_option maxRecDepth 100000 in
theorem b_S_shape_95 {D : va_G} {ca : Nat → ClassId} {ad : Nat → Int → Nat → Nat} {L : List Nat} {aS vS : Nat → Nat} {A : Nat → Prop} {p : Program} {l : Launch} {e : Env} {s : State} {m : MethodId} {args : Array Value} {below : List Frame} {meth : Method} {c : Code} {K : zK} {r : Int} {F9 : zF} {B9 : zB} (X : zX D ca L aS vS A p s m args meth c prog_1_method_33_code 14 (Option.some Jvm.ClassFile.FieldType.int) "StaveHouse") : ∀ {n : Nat} {l13 : Int} {l12 : Int} {l10 : Int} {l9 : Int} {l3 : Int} {l4 : Int} {l7 : Int} {F : zF} {B : zB} {H : Heap} {locs : List Loc} {ls : Array Slot}, f_S_shape_95 K n l13 l12 l10 l9 l3 l4 l7 F B = some (r, F9, B9) → zH D ca ad lnC K.2 L F B A H → va_S A s.heap H locs → lv_has ls 14 [(13, .int (iI l13)), (12, .int (iI l12)), (10, va_rf (zrf ad 4 l10)), (9, va_rf (zrf ad 4 l9)), (3, .int (iI l3)), (4, .int (iI l4)), (7, .int (iI l7))] → W p l e ({ frames := 6, cells := 0, slots := 0, locals := 143 } : Room) s m args below meth c H locs 0 0 (MQ below (Q_S_shape K D ca ad L r F9 B9 A) args s 0 0 A) (F0 m 95 ls []) := by
  obtain ⟨hx, hb, hr, hml, hown, hts, hlk, hK, hA, hL, hX⟩ := id X
  intro n
  induction n with
  | zero =>
    intros
    rename_i hf _ _ _
    cases hf
  | succ n ih =>
    intro l13 l12 l10 l9 l3 l4 l7 F B H locs ls hf hZ hS hl
    replace hf : (if 0 ≤ l10 ∧ l10 < K.2 4 then if r32 l13 then if r32 ((F 4 l10 6) - l4) then (if ((F 4 l10 6) - l4) < l13 then some ((-1), F, B) else if 0 ≤ l9 ∧ l9 < K.2 4 then zbind (f_Part_hasShape K l10 l13 l9 l3 l4 l7 F B) (fun r26 F26 B26 => if r32 r26 then (if r26 = 0 then f_S_shape_136 (f_S_shape_95 K n) K l13 l12 l10 l9 l3 l4 l7 F26 B26 else if r32 l12 then (if l12 = 0 then some (l13, F26, B26) else f_S_shape_136 (f_S_shape_95 K n) K l13 (l12 - 1) l10 l9 l3 l4 l7 F26 B26) else none) else none) else none) else none else none else none) = some (r, F9, B9) := hf
    refine lv_iload hx hb (D_21 W_prog_1_method_33_code_64 31 rfl rfl) (lv_at hl 0 rfl) ?_
    refine zaload hx hb (D_25 W_prog_1_method_33_code_96 1 rfl rfl) (lv_at hl 2 rfl) ?_
    obtain ⟨g21, hf⟩ := gif hf
    refine zunrf g21.1 ?_
    refine zget (ci := 4) (C := RX4) (T := TX4) (v := .int (iI (F 4 l10 6))) (k := 6) hx hb hts inW_4 hown hK hZ g21.1 g21.2 rfl (by decide) k_4_138 rfl (D_180 W_prog_1_method_33_code_96 3 rfl rfl rfl) ?_
    refine lv_iload hx hb (D_21 W_prog_1_method_33_code_96 6 rfl rfl) (lv_at hl 5 rfl) ?_
    refine zsub hx hb (D_100 W_prog_1_method_33_code_96 8 rfl rfl) ?_
    obtain ⟨g22, hf⟩ := gif hf
    obtain ⟨g23, hf⟩ := gif hf
    refine zgt (tgt := 142) hx hb g22 g23 (D_163 W_prog_1_method_33_code_96 9 rfl rfl rfl) (by decide) (fun h24 => ?_) (fun h24 => ?_)
    · replace hf := gpos hf h24
      refine lv_iconst (v := iI (-1)) hx hb (D_2 W_prog_1_method_33_code_128 14 rfl rfl) rfl ?_
      cases hf
      exact W.iret hx hb hr (fun t ht hW => ⟨⟨_, (), rfl, rfl, by rw [ht]; exact hZ, va_K.moved hW.alike hK⟩, hS.F ht⟩) hS.2.2 (D_172 W_prog_1_method_33_code_128 15 rfl rfl) hlk
    · replace hf := gneg hf h24
      refine zaload hx hb (D_25 W_prog_1_method_33_code_96 12 rfl rfl) (lv_at hl 2 rfl) ?_
      refine lv_iload hx hb (D_21 W_prog_1_method_33_code_96 14 rfl rfl) (lv_at hl 0 rfl) ?_
      refine zaload hx hb (D_25 W_prog_1_method_33_code_96 16 rfl rfl) (lv_at hl 3 rfl) ?_
      refine lv_iload_n hx hb (D_29 W_prog_1_method_33_code_96 18 rfl rfl) rfl (lv_at hl 4 rfl) ?_
      refine lv_iload hx hb (D_21 W_prog_1_method_33_code_96 19 rfl rfl) (lv_at hl 5 rfl) ?_
      refine lv_iload hx hb (D_21 W_prog_1_method_33_code_96 21 rfl rfl) (lv_at hl 6 rfl) ?_
      refine W.eq (g2 := F0 m 119 ls [.int (iI l7), .int (iI l4), .int (iI l3), va_rf (zrf ad 4 l9), .int (iI l13), .ref (ad 4 l10 0)]) (by rw [zrf_pos (ad := ad) (t := 4) g21.1]; try rfl) ?_
      obtain ⟨g25, hf⟩ := gif hf
      refine W.eq (g2 := F0 m 119 ls [.int (iI l7), .int (iI l4), .int (iI l3), .ref (ad 4 l9 0), .int (iI l13), .ref (ad 4 l10 0)]) (by rw [zrf_pos (ad := ad) (t := 4) g25.1]; try rfl) ?_
      obtain ⟨r26, F26, B26, hc26, hf⟩ := gbind hf
      refine va_calli (va_runV (As := [.int (iI l13), .ref (ad 4 l9 0), .int (iI l3), .int (iI l4), .int (iI l7)]) (rest := []) ⟨hx, hb, hml, hown, hts⟩ (c_Part_hasShape (l := l) hc26) (cwV 5 hts (gdV k_9_103 k_9_104 k_9_105 k_1_18 k_9_106) rfl rfl rfl (by decide +kernel) ⟨Nat.le_of_ble_eq_true rfl, Nat.le_of_ble_eq_true rfl⟩) (zPV X hZ hS (ci := 4) g21.1 g21.2 (r := (RX4, TX4, 13)) rfl [.int (iI l13), .ref (ad 4 l9 0), .int (iI l3), .int (iI l4), .int (iI l7)]) rfl rfl hl.1 rfl (lv_room (Nat.le_of_ble_eq_true rfl)) (D_182 W_prog_1_method_33_code_96 23 rfl rfl rfl) ⟨Nat.le_of_ble_eq_true rfl, Nat.le_of_ble_eq_true rfl⟩) hS (fun q _ h => zAin X hS q h) (zAin X hS) (fun p26 u26 t26 H26 locs26 ht26 hv26 hw26 hB26 hz26 hk26 hS26 => ?_)
      have hZ26 := zBack X ht26 hB26
      subst hw26
      obtain ⟨g27, hf⟩ := gif hf
      refine z0eq (tgt := 136) hx hb g27 (D_153 W_prog_1_method_33_code_96 26 rfl rfl rfl) (by decide) (fun h28 => ?_) (fun h28 => ?_)
      · replace hf := gpos hf h28
        exact b_S_shape_136 X ih hf hZ26 hS26 (lv_sub hl [0, 1, 2, 3, 4, 5, 6] rfl)
      · replace hf := gneg hf h28
        refine lv_iload hx hb (D_21 W_prog_1_method_33_code_96 29 rfl rfl) (lv_at hl 1 rfl) ?_
        obtain ⟨g29, hf⟩ := gif hf
        refine z0ne (tgt := 133) hx hb g29 (D_154 W_prog_1_method_33_code_96 31 rfl rfl rfl) (by decide) (fun h30 => ?_) (fun h30 => ?_)
        · replace hf := gneg hf h30
          refine lv_iinc (v := iI (l12 - 1)) (lv' := [(12, .int (iI (l12 - 1))), (13, .int (iI l13)), (10, va_rf (zrf ad 4 l10)), (9, va_rf (zrf ad 4 l9)), (3, .int (iI l3)), (4, .int (iI l4)), (7, .int (iI l7))]) hx hb d_1_33_133 hl (k := 1) rfl (by rw [show Int32.ofInt (-1) = iI (-1) from rfl, iI_add]; congr 1) (by decide) rfl (fun ls hl => ?_)
          exact b_S_shape_136 X ih hf hZ26 hS26 (lv_sub hl [1, 0, 2, 3, 4, 5, 6] rfl)
        · replace hf := gpos hf h30
          refine lv_iload hx hb (D_21 W_prog_1_method_33_code_128 2 rfl rfl) (lv_at hl 0 rfl) ?_
          cases hf
          exact W.iret hx hb hr (fun t ht hW => ⟨⟨_, (), rfl, rfl, by rw [ht]; exact hZ26, va_K.moved hW.alike hK⟩, hS26.F ht⟩) hS26.2.2 (D_172 W_prog_1_method_33_code_128 4 rfl rfl) hlk

def f_S_shape_86 (K : zK)  (F : zF) (B : zB) : zO := some ((-1), F, B)
set_option maxHeartbeats 4000000 in
set_option maxRecDepth 100000 in
theorem b_S_shape_86 {D : va_G} {ca : Nat → ClassId} {ad : Nat → Int → Nat → Nat} {L : List Nat} {aS vS : Nat → Nat} {A : Nat → Prop} {p : Program} {l : Launch} {e : Env} {s : State} {m : MethodId} {args : Array Value} {below : List Frame} {meth : Method} {c : Code} {K : zK} {r : Int} {F9 : zF} {B9 : zB} (X : zX D ca L aS vS A p s m args meth c prog_1_method_33_code 14 (Option.some Jvm.ClassFile.FieldType.int) "StaveHouse")  {F : zF} {B : zB} {H : Heap} {locs : List Loc} {ls : Array Slot} (hf : f_S_shape_86 K  F B = some (r, F9, B9)) (hZ : zH D ca ad lnC K.2 L F B A H) (hS : va_S A s.heap H locs) (hl : lv_has ls 14 []) : W p l e ({ frames := 6, cells := 0, slots := 0, locals := 143 } : Room) s m args below meth c H locs 0 0 (MQ below (Q_S_shape K D ca ad L r F9 B9 A) args s 0 0 A) (F0 m 86 ls []) := by
  obtain ⟨hx, hb, hr, hml, hown, hts, hlk, hK, hA, hL, hX⟩ := id X
  replace hf : (some ((-1), F, B)) = some (r, F9, B9) := hf
  refine lv_iconst (v := iI (-1)) hx hb (D_2 W_prog_1_method_33_code_64 22 rfl rfl) rfl ?_
  cases hf
  exact W.iret hx hb hr (fun t ht hW => ⟨⟨_, (), rfl, rfl, by rw [ht]; exact hZ, va_K.moved hW.alike hK⟩, hS.F ht⟩) hS.2.2 (D_172 W_prog_1_method_33_code_64 23 rfl rfl) hlk

def f_S_shape_58 (K : zK) (l10 : Int) (l9 : Int) (l3 : Int) (l4 : Int) (l7 : Int) (l8 : Int) (s0 : Int) (F : zF) (B : zB) : zO := if r32 s0 then (if s0 = 0 then if r32 l8 then (if l8 < 0 then f_S_shape_86 K F B else if r32 l3 then (if l3 < 0 then f_S_shape_86 K F B else if 0 ≤ l9 ∧ l9 < K.2 4 then if r32 ((F 4 l9 6) - l4) then (if l3 ≤ ((F 4 l9 6) - l4) then f_S_shape_95 K K.1 0 l8 l10 l9 l3 l4 l7 F B else f_S_shape_86 K F B) else none else none) else none) else none else f_S_shape_86 K F B) else none
set_option maxHeartbeats 4000000 in
set_option maxRecDepth 100000 in
theorem b_S_shape_58 {D : va_G} {ca : Nat → ClassId} {ad : Nat → Int → Nat → Nat} {L : List Nat} {aS vS : Nat → Nat} {A : Nat → Prop} {p : Program} {l : Launch} {e : Env} {s : State} {m : MethodId} {args : Array Value} {below : List Frame} {meth : Method} {c : Code} {K : zK} {r : Int} {F9 : zF} {B9 : zB} (X : zX D ca L aS vS A p s m args meth c prog_1_method_33_code 14 (Option.some Jvm.ClassFile.FieldType.int) "StaveHouse") {l10 : Int} {l9 : Int} {l3 : Int} {l4 : Int} {l7 : Int} {l8 : Int} {s0 : Int} {F : zF} {B : zB} {H : Heap} {locs : List Loc} {ls : Array Slot} (hf : f_S_shape_58 K l10 l9 l3 l4 l7 l8 s0 F B = some (r, F9, B9)) (hZ : zH D ca ad lnC K.2 L F B A H) (hS : va_S A s.heap H locs) (hl : lv_has ls 14 [(10, va_rf (zrf ad 4 l10)), (9, va_rf (zrf ad 4 l9)), (3, .int (iI l3)), (4, .int (iI l4)), (7, .int (iI l7)), (8, .int (iI l8))]) : W p l e ({ frames := 6, cells := 0, slots := 0, locals := 143 } : Room) s m args below meth c H locs 0 0 (MQ below (Q_S_shape K D ca ad L r F9 B9 A) args s 0 0 A) (F0 m 58 ls [.int (iI s0)]) := by
  obtain ⟨hx, hb, hr, hml, hown, hts, hlk, hK, hA, hL, hX⟩ := id X
  replace hf : (if r32 s0 then (if s0 = 0 then if r32 l8 then (if l8 < 0 then f_S_shape_86 K F B else if r32 l3 then (if l3 < 0 then f_S_shape_86 K F B else if 0 ≤ l9 ∧ l9 < K.2 4 then if r32 ((F 4 l9 6) - l4) then (if l3 ≤ ((F 4 l9 6) - l4) then f_S_shape_95 K K.1 0 l8 l10 l9 l3 l4 l7 F B else f_S_shape_86 K F B) else none else none) else none) else none else f_S_shape_86 K F B) else none) = some (r, F9, B9) := hf
  refine lv_istore (lv' := [(11, .int (iI s0)), (10, va_rf (zrf ad 4 l10)), (9, va_rf (zrf ad 4 l9)), (3, .int (iI l3)), (4, .int (iI l4)), (7, .int (iI l7)), (8, .int (iI l8))]) hx hb (D_54 W_prog_1_method_33_code_32 26 rfl rfl) hl (by decide) (by cases zrf ad 4 l10 <;> rfl) (fun ls hl => ?_)
  refine lv_iload hx hb (D_21 W_prog_1_method_33_code_32 28 rfl rfl) (lv_at hl 0 rfl) ?_
  obtain ⟨g12, hf⟩ := gif hf
  refine z0ne (tgt := 86) hx hb g12 (D_154 W_prog_1_method_33_code_32 30 rfl rfl rfl) (by decide) (fun h13 => ?_) (fun h13 => ?_)
  · replace hf := gneg hf h13
    exact b_S_shape_86 X hf hZ hS (lv_sub hl [] rfl)
  · replace hf := gpos hf h13
    refine lv_iload hx hb (D_21 W_prog_1_method_33_code_64 1 rfl rfl) (lv_at hl 6 rfl) ?_
    obtain ⟨g14, hf⟩ := gif hf
    refine z0lt (tgt := 86) hx hb g14 (D_155 W_prog_1_method_33_code_64 3 rfl rfl rfl) (by decide) (fun h15 => ?_) (fun h15 => ?_)
    · replace hf := gpos hf h15
      exact b_S_shape_86 X hf hZ hS (lv_sub hl [] rfl)
    · replace hf := gneg hf h15
      refine lv_iload_n hx hb (D_29 W_prog_1_method_33_code_64 6 rfl rfl) rfl (lv_at hl 3 rfl) ?_
      obtain ⟨g16, hf⟩ := gif hf
      refine z0lt (tgt := 86) hx hb g16 (D_155 W_prog_1_method_33_code_64 7 rfl rfl rfl) (by decide) (fun h17 => ?_) (fun h17 => ?_)
      · replace hf := gpos hf h17
        exact b_S_shape_86 X hf hZ hS (lv_sub hl [] rfl)
      · replace hf := gneg hf h17
        refine lv_iload_n hx hb (D_29 W_prog_1_method_33_code_64 10 rfl rfl) rfl (lv_at hl 3 rfl) ?_
        refine zaload hx hb (D_25 W_prog_1_method_33_code_64 11 rfl rfl) (lv_at hl 2 rfl) ?_
        obtain ⟨g18, hf⟩ := gif hf
        refine zunrf g18.1 ?_
        refine zget (ci := 4) (C := RX4) (T := TX4) (v := .int (iI (F 4 l9 6))) (k := 6) hx hb hts inW_4 hown hK hZ g18.1 g18.2 rfl (by decide) k_4_138 rfl (D_180 W_prog_1_method_33_code_64 13 rfl rfl rfl) ?_
        refine lv_iload hx hb (D_21 W_prog_1_method_33_code_64 16 rfl rfl) (lv_at hl 4 rfl) ?_
        refine zsub hx hb (D_100 W_prog_1_method_33_code_64 18 rfl rfl) ?_
        obtain ⟨g19, hf⟩ := gif hf
        refine zle (tgt := 88) hx hb g16 g19 (D_164 W_prog_1_method_33_code_64 19 rfl rfl rfl) (by decide) (fun h20 => ?_) (fun h20 => ?_)
        · replace hf := gpos hf h20
          refine lv_iload hx hb (D_21 W_prog_1_method_33_code_64 24 rfl rfl) (lv_at hl 6 rfl) ?_
          refine lv_istore (lv' := [(12, .int (iI l8)), (11, .int (iI s0)), (10, va_rf (zrf ad 4 l10)), (9, va_rf (zrf ad 4 l9)), (3, .int (iI l3)), (4, .int (iI l4)), (7, .int (iI l7)), (8, .int (iI l8))]) hx hb (D_54 W_prog_1_method_33_code_64 26 rfl rfl) hl (by decide) rfl (fun ls hl => ?_)
          refine lv_iconst (v := iI 0) hx hb (D_3 W_prog_1_method_33_code_64 28 rfl rfl) rfl ?_
          refine lv_istore (lv' := [(13, .int (iI 0)), (12, .int (iI l8)), (11, .int (iI s0)), (10, va_rf (zrf ad 4 l10)), (9, va_rf (zrf ad 4 l9)), (3, .int (iI l3)), (4, .int (iI l4)), (7, .int (iI l7)), (8, .int (iI l8))]) hx hb (D_54 W_prog_1_method_33_code_64 29 rfl rfl) hl (by decide) rfl (fun ls hl => ?_)
          exact b_S_shape_95 X hf hZ hS (lv_sub hl [0, 1, 3, 4, 5, 6, 7] rfl)
        · replace hf := gneg hf h20
          exact b_S_shape_86 X hf hZ hS (lv_sub hl [] rfl)

def f_S_shape_53 (K : zK) (l10 : Int) (l9 : Int) (l3 : Int) (l4 : Int) (l7 : Int) (l8 : Int) (F : zF) (B : zB) : zO := f_S_shape_58 K l10 l9 l3 l4 l7 l8 1 F B
set_option maxHeartbeats 4000000 in
set_option maxRecDepth 100000 in
theorem b_S_shape_53 {D : va_G} {ca : Nat → ClassId} {ad : Nat → Int → Nat → Nat} {L : List Nat} {aS vS : Nat → Nat} {A : Nat → Prop} {p : Program} {l : Launch} {e : Env} {s : State} {m : MethodId} {args : Array Value} {below : List Frame} {meth : Method} {c : Code} {K : zK} {r : Int} {F9 : zF} {B9 : zB} (X : zX D ca L aS vS A p s m args meth c prog_1_method_33_code 14 (Option.some Jvm.ClassFile.FieldType.int) "StaveHouse") {l10 : Int} {l9 : Int} {l3 : Int} {l4 : Int} {l7 : Int} {l8 : Int} {F : zF} {B : zB} {H : Heap} {locs : List Loc} {ls : Array Slot} (hf : f_S_shape_53 K l10 l9 l3 l4 l7 l8 F B = some (r, F9, B9)) (hZ : zH D ca ad lnC K.2 L F B A H) (hS : va_S A s.heap H locs) (hl : lv_has ls 14 [(10, va_rf (zrf ad 4 l10)), (9, va_rf (zrf ad 4 l9)), (3, .int (iI l3)), (4, .int (iI l4)), (7, .int (iI l7)), (8, .int (iI l8))]) : W p l e ({ frames := 6, cells := 0, slots := 0, locals := 143 } : Room) s m args below meth c H locs 0 0 (MQ below (Q_S_shape K D ca ad L r F9 B9 A) args s 0 0 A) (F0 m 53 ls []) := by
  obtain ⟨hx, hb, hr, hml, hown, hts, hlk, hK, hA, hL, hX⟩ := id X
  replace hf : (f_S_shape_58 K l10 l9 l3 l4 l7 l8 1 F B) = some (r, F9, B9) := hf
  refine lv_iconst (v := iI 1) hx hb (D_4 W_prog_1_method_33_code_32 21 rfl rfl) rfl ?_
  refine lv_goto (tgt := 58) hx hb (D_167 W_prog_1_method_33_code_32 22 rfl rfl rfl) (by decide) ?_
  exact b_S_shape_58 X hf hZ hS (lv_sub hl [0, 1, 2, 3, 4, 5] rfl)

def f_S_shape (K : zK) (l0 : Int) (l1 : Int) (l2 : Int) (l3 : Int) (l4 : Int) (l5 : Int) (l6 : Int) (l7 : Int) (l8 : Int) (F : zF) (B : zB) : zO := if 0 ≤ l0 ∧ l0 < K.2 12 then zbind (f_S_partAt K l0 l1 l2 F B) (fun r2 F2 B2 => zbind (f_S_partAt K l0 l5 l6 F2 B2) (fun r3 F3 B3 => (if r2 < 0 then f_S_shape_53 K r3 r2 l3 l4 l7 l8 F3 B3 else (if r3 < 0 then f_S_shape_53 K r3 r2 l3 l4 l7 l8 F3 B3 else if r32 l4 then (if l4 < 2 then f_S_shape_53 K r3 r2 l3 l4 l7 l8 F3 B3 else (if 20 < l4 then f_S_shape_53 K r3 r2 l3 l4 l7 l8 F3 B3 else if r32 l7 then (if l7 < 0 then f_S_shape_53 K r3 r2 l3 l4 l7 l8 F3 B3 else (if l7 ≤ 7 then f_S_shape_58 K r3 r2 l3 l4 l7 l8 0 F3 B3 else f_S_shape_53 K r3 r2 l3 l4 l7 l8 F3 B3)) else none)) else none)))) else none
set_option maxHeartbeats 4000000 in
set_option maxRecDepth 100000 in
theorem c_S_shape {l : Launch} {D : va_G} {ca : Nat → ClassId} {ad : Nat → Int → Nat → Nat} {L : List Nat} {aS vS : Nat → Nat} {sz : Nat} {K : zK}  {l0 : Int} {l1 : Int} {l2 : Int} {l3 : Int} {l4 : Int} {l5 : Int} {l6 : Int} {l7 : Int} {l8 : Int} {F F9 : zF} {B B9 : zB} {r : Int} (hf : f_S_shape K l0 l1 l2 l3 l4 l5 l6 l7 l8 F B = some (r, F9, B9)) : Met l ({ cls := "StaveHouse", name := "shape", desc := "(IIIIIIII)I" } : Jvm.MethodName) (Cond.code ({ cls := "StaveHouse", name := "shape", desc := "(IIIIIIII)I" } : Jvm.MethodName) prog_1_method_33_code 14 (Option.some Jvm.ClassFile.FieldType.int) :: wAll) ({ frames := 6, cells := 0, slots := 0, locals := 143 } : Room) (va_Pc [.ref (ad 12 l0 0), .int (iI l1), .int (iI l2), .int (iI l3), .int (iI l4), .int (iI l5), .int (iI l6), .int (iI l7), .int (iI l8)] (zPre D ca ad lnC K.2 L aS vS F B sz)) (Q_S_shape K D ca ad L r F9 B9 (zA L sz)) 0 0 (zA L sz) := by
  refine zMet (Qc := Q_S_shape K D ca ad L r F9 B9) (lv := [(0, .ref (ad 12 l0 0)), (1, .int (iI l1)), (2, .int (iI l2)), (3, .int (iI l3)), (4, .int (iI l4)), (5, .int (iI l5)), (6, .int (iI l6)), (7, .int (iI l7)), (8, .int (iI l8))]) (by decide) (Nat.le_of_ble_eq_true rfl) rfl (fun A p e s m below meth c ls X hZ hS hl => ?_)
  obtain ⟨hx, hb, hr, hml, hown, hts, hlk, hK, hA, hL, hX⟩ := id X
  replace hf : (if 0 ≤ l0 ∧ l0 < K.2 12 then zbind (f_S_partAt K l0 l1 l2 F B) (fun r2 F2 B2 => zbind (f_S_partAt K l0 l5 l6 F2 B2) (fun r3 F3 B3 => (if r2 < 0 then f_S_shape_53 K r3 r2 l3 l4 l7 l8 F3 B3 else (if r3 < 0 then f_S_shape_53 K r3 r2 l3 l4 l7 l8 F3 B3 else if r32 l4 then (if l4 < 2 then f_S_shape_53 K r3 r2 l3 l4 l7 l8 F3 B3 else (if 20 < l4 then f_S_shape_53 K r3 r2 l3 l4 l7 l8 F3 B3 else if r32 l7 then (if l7 < 0 then f_S_shape_53 K r3 r2 l3 l4 l7 l8 F3 B3 else (if l7 ≤ 7 then f_S_shape_58 K r3 r2 l3 l4 l7 l8 0 F3 B3 else f_S_shape_53 K r3 r2 l3 l4 l7 l8 F3 B3)) else none)) else none)))) else none) = some (r, F9, B9) := hf
  refine lv_aload_n hx hb (D_42 W_prog_1_method_33_code_0 0 rfl rfl) rfl (lv_at hl 0 rfl) ?_
  refine lv_iload_n hx hb (D_27 W_prog_1_method_33_code_0 1 rfl rfl) rfl (lv_at hl 1 rfl) ?_
  refine lv_iload_n hx hb (D_28 W_prog_1_method_33_code_0 2 rfl rfl) rfl (lv_at hl 2 rfl) ?_
  obtain ⟨g1, hf⟩ := gif hf
  obtain ⟨r2, F2, B2, hc2, hf⟩ := gbind hf
  refine va_callq (va_runV (As := [.int (iI l1), .int (iI l2)]) (rest := []) ⟨hx, hb, hml, hown, hts⟩ (c_S_partAt (l := l) hc2) (cwV 2 hts (gdV k_6_168 k_6_170 ks_77 k_1_1 k_6_171) rfl rfl rfl (by decide +kernel) ⟨Nat.le_of_ble_eq_true rfl, Nat.le_of_ble_eq_true rfl⟩) (zPV X hZ hS (ci := 12) g1.1 g1.2 (r := (RX12, TX12, 10)) rfl [.int (iI l1), .int (iI l2)]) rfl rfl hl.1 rfl (lv_room (Nat.le_of_ble_eq_true rfl)) (D_182 W_prog_1_method_33_code_0 3 rfl rfl rfl) ⟨Nat.le_of_ble_eq_true rfl, Nat.le_of_ble_eq_true rfl⟩) hS (fun q _ h => zAin X hS q h) (zAin X hS) (fun p2 u2 t2 H2 locs2 ht2 hv2 hw2 hB2 hz2 hk2 hS2 => ?_)
  have hZ2 := zBack X ht2 hB2
  subst hw2
  refine zastore (lv' := [(0, .ref (ad 12 l0 0)), (1, .int (iI l1)), (2, .int (iI l2)), (3, .int (iI l3)), (4, .int (iI l4)), (5, .int (iI l5)), (6, .int (iI l6)), (7, .int (iI l7)), (8, .int (iI l8))]) hx hb (D_58 W_prog_1_method_33_code_0 6 rfl rfl) hl (by decide) (fun _ _ => rfl) (fun ls hl => ?_)
  refine lv_aload_n hx hb (D_42 W_prog_1_method_33_code_0 8 rfl rfl) rfl (lv_at hl 1 rfl) ?_
  refine lv_iload hx hb (D_21 W_prog_1_method_33_code_0 9 rfl rfl) (lv_at hl 6 rfl) ?_
  refine lv_iload hx hb (D_21 W_prog_1_method_33_code_0 11 rfl rfl) (lv_at hl 7 rfl) ?_
  obtain ⟨r3, F3, B3, hc3, hf⟩ := gbind hf
  refine va_callq (va_runV (As := [.int (iI l5), .int (iI l6)]) (rest := []) ⟨hx, hb, hml, hown, hts⟩ (c_S_partAt (l := l) hc3) (cwV 2 hts (gdV k_6_168 k_6_170 ks_77 k_1_1 k_6_171) rfl rfl rfl (by decide +kernel) ⟨Nat.le_of_ble_eq_true rfl, Nat.le_of_ble_eq_true rfl⟩) (zPV X hZ2 hS2 (ci := 12) g1.1 g1.2 (r := (RX12, TX12, 10)) rfl [.int (iI l5), .int (iI l6)]) rfl rfl hl.1 rfl (lv_room (Nat.le_of_ble_eq_true rfl)) (D_182 W_prog_1_method_33_code_0 13 rfl rfl rfl) ⟨Nat.le_of_ble_eq_true rfl, Nat.le_of_ble_eq_true rfl⟩) hS2 (fun q _ h => zAin X hS2 q h) (zAin X hS2) (fun p3 u3 t3 H3 locs3 ht3 hv3 hw3 hB3 hz3 hk3 hS3 => ?_)
  have hZ3 := zBack X ht3 hB3
  subst hw3
  refine zastore (lv' := [(9, va_rf (zrf ad 4 r2)), (0, .ref (ad 12 l0 0)), (1, .int (iI l1)), (2, .int (iI l2)), (3, .int (iI l3)), (4, .int (iI l4)), (5, .int (iI l5)), (6, .int (iI l6)), (7, .int (iI l7)), (8, .int (iI l8))]) hx hb (D_58 W_prog_1_method_33_code_0 16 rfl rfl) hl (by decide) (fun v hv => by cases zrf ad 4 r2 <;> rfl) (fun ls hl => ?_)
  refine zaload hx hb (D_25 W_prog_1_method_33_code_0 18 rfl rfl) (lv_at hl 1 rfl) ?_
  refine zifnull (tgt := 53) hx hb (D_198 W_prog_1_method_33_code_0 20 rfl rfl rfl) (by decide) (fun h4 => ?_) (fun h4 => ?_)
  · replace hf := gpos hf h4
    exact b_S_shape_53 X hf hZ3 hS3 (lv_sub hl [0, 1, 5, 6, 9, 10] rfl)
  · replace hf := gneg hf h4
    refine zaload hx hb (D_25 W_prog_1_method_33_code_0 23 rfl rfl) (lv_at hl 0 rfl) ?_
    refine zifnull (tgt := 53) hx hb (D_198 W_prog_1_method_33_code_0 25 rfl rfl rfl) (by decide) (fun h5 => ?_) (fun h5 => ?_)
    · replace hf := gpos hf h5
      exact b_S_shape_53 X hf hZ3 hS3 (lv_sub hl [0, 1, 5, 6, 9, 10] rfl)
    · replace hf := gneg hf h5
      refine lv_iload hx hb (D_21 W_prog_1_method_33_code_0 28 rfl rfl) (lv_at hl 6 rfl) ?_
      refine lv_iconst (v := iI 2) hx hb (D_5 W_prog_1_method_33_code_0 30 rfl rfl) rfl ?_
      obtain ⟨g6, hf⟩ := gif hf
      refine zlt (tgt := 53) hx hb g6 (by decide) (D_161 W_prog_1_method_33_code_0 31 rfl rfl rfl) (by decide) (fun h7 => ?_) (fun h7 => ?_)
      · replace hf := gpos hf h7
        exact b_S_shape_53 X hf hZ3 hS3 (lv_sub hl [0, 1, 5, 6, 9, 10] rfl)
      · replace hf := gneg hf h7
        refine lv_iload hx hb (D_21 W_prog_1_method_33_code_32 2 rfl rfl) (lv_at hl 6 rfl) ?_
        refine lv_bipush (v := iI 20) hx hb (D_16 W_prog_1_method_33_code_32 4 rfl rfl rfl) (by decide) ?_
        refine zgt (tgt := 53) hx hb g6 (by decide) (D_163 W_prog_1_method_33_code_32 6 rfl rfl rfl) (by decide) (fun h8 => ?_) (fun h8 => ?_)
        · replace hf := gpos hf h8
          exact b_S_shape_53 X hf hZ3 hS3 (lv_sub hl [0, 1, 5, 6, 9, 10] rfl)
        · replace hf := gneg hf h8
          refine lv_iload hx hb (D_21 W_prog_1_method_33_code_32 9 rfl rfl) (lv_at hl 9 rfl) ?_
          obtain ⟨g9, hf⟩ := gif hf
          refine z0lt (tgt := 53) hx hb g9 (D_155 W_prog_1_method_33_code_32 11 rfl rfl rfl) (by decide) (fun h10 => ?_) (fun h10 => ?_)
          · replace hf := gpos hf h10
            exact b_S_shape_53 X hf hZ3 hS3 (lv_sub hl [0, 1, 5, 6, 9, 10] rfl)
          · replace hf := gneg hf h10
            refine lv_iload hx hb (D_21 W_prog_1_method_33_code_32 14 rfl rfl) (lv_at hl 9 rfl) ?_
            refine lv_bipush (v := iI 7) hx hb (D_16 W_prog_1_method_33_code_32 16 rfl rfl rfl) (by decide) ?_
            refine zle (tgt := 57) hx hb g9 (by decide) (D_164 W_prog_1_method_33_code_32 18 rfl rfl rfl) (by decide) (fun h11 => ?_) (fun h11 => ?_)
            · replace hf := gpos hf h11
              refine lv_iconst (v := iI 0) hx hb (D_3 W_prog_1_method_33_code_32 25 rfl rfl) rfl ?_
              exact b_S_shape_58 X hf hZ3 hS3 (lv_sub hl [0, 1, 5, 6, 9, 10] rfl)
            · replace hf := gneg hf h11
              exact b_S_shape_53 X hf hZ3 hS3 (lv_sub hl [0, 1, 5, 6, 9, 10] rfl)

abbrev Q_Tokens_start (K : zK) (D : va_G) (ca : Nat → ClassId) (ad : Nat → Int → Nat → Nat) (L : List Nat) (r : Int) (F : zF) (B : zB) (A : Nat → Prop) : Array Value → State → Outcome → State → Prop := va_Qv (S := Unit) (fun _ => True) (fun _ => zPo D ca ad lnC K.2 L F B A) A
def f_Tokens_start_135 (K : zK) (l3 : Int) (l0 : Int) (l1 : Int) (F : zF) (B : zB) : zO := if 0 ≤ l0 ∧ l0 < K.2 10 then if 0 ≤ l3 ∧ l3 < 3001 then if 0 ≤ l1 ∧ l1 < K.2 0 then zbind (f_Tokens_advance K l0 (zup3 F 10 l0 8 0) (zup4 (zup4 (zup4 B 10 l0 5 l3 0) 10 l0 6 l3 (F 0 l1 1)) 10 l0 7 l3 0)) (fun r40 F40 B40 => some (0, F40, B40)) else none else none else none
set_option maxHeartbeats 4000000 in
set_option maxRecDepth 100000 in
theorem b_Tokens_start_135 {D : va_G} {ca : Nat → ClassId} {ad : Nat → Int → Nat → Nat} {L : List Nat} {aS vS : Nat → Nat} {A : Nat → Prop} {p : Program} {l : Launch} {e : Env} {s : State} {m : MethodId} {args : Array Value} {below : List Frame} {meth : Method} {c : Code} {K : zK} {r : Int} {F9 : zF} {B9 : zB} (X : zX D ca L aS vS A p s m args meth c prog_12_method_2_code 7 (Option.none : Option Jvm.ClassFile.FieldType) "StaveHouse$Tokens") {l3 : Int} {l0 : Int} {l1 : Int} {F : zF} {B : zB} {H : Heap} {locs : List Loc} {ls : Array Slot} (hf : f_Tokens_start_135 K l3 l0 l1 F B = some (r, F9, B9)) (hZ : zH D ca ad lnC K.2 L F B A H) (hS : va_S A s.heap H locs) (hl : lv_has ls 7 [(3, .int (iI l3)), (0, .ref (ad 10 l0 0)), (1, .ref (ad 0 l1 0))]) : W p l e ({ frames := 4, cells := 0, slots := 0, locals := 91 } : Room) s m args below meth c H locs 0 0 (MQ below (Q_Tokens_start K D ca ad L r F9 B9 A) args s 0 0 A) (F0 m 135 ls []) := by
  obtain ⟨hx, hb, hr, hml, hown, hts, hlk, hK, hA, hL, hX⟩ := id X
  replace hf : (if 0 ≤ l0 ∧ l0 < K.2 10 then if 0 ≤ l3 ∧ l3 < 3001 then if 0 ≤ l1 ∧ l1 < K.2 0 then zbind (f_Tokens_advance K l0 (zup3 F 10 l0 8 0) (zup4 (zup4 (zup4 B 10 l0 5 l3 0) 10 l0 6 l3 (F 0 l1 1)) 10 l0 7 l3 0)) (fun r40 F40 B40 => some (0, F40, B40)) else none else none else none) = some (r, F9, B9) := hf
  refine lv_aload_n hx hb (D_42 W_prog_12_method_2_code_128 7 rfl rfl) rfl (lv_at hl 1 rfl) ?_
  obtain ⟨g33, hf⟩ := gif hf
  refine zget (ci := 10) (C := RX10) (T := TX10) (v := .ref (ad 10 l0 (5 + 1))) (k := 5) hx hb hts inW_10 hown hK hZ g33.1 g33.2 rfl (by decide) k_1_82 rfl (D_180 W_prog_12_method_2_code_128 8 rfl rfl rfl) ?_
  refine lv_iload_n hx hb (D_29 W_prog_12_method_2_code_128 11 rfl rfl) rfl (lv_at hl 0 rfl) ?_
  refine lv_iconst (v := iI 0) hx hb (D_3 W_prog_12_method_2_code_128 12 rfl rfl) rfl ?_
  obtain ⟨g34, hf⟩ := gif hf
  refine zast (ci := 10) (k := 5) hx hb hK rfl hZ hS g33.1 g33.2 rfl (Nat.le_of_ble_eq_true rfl) g34.1 g34.2 (D_79 W_prog_12_method_2_code_128 13 rfl rfl) (fun H35 locs35 hZ35 hS35 => ?_)
  refine lv_aload_n hx hb (D_42 W_prog_12_method_2_code_128 14 rfl rfl) rfl (lv_at hl 1 rfl) ?_
  refine zget (ci := 10) (C := RX10) (T := TX10) (v := .ref (ad 10 l0 (6 + 1))) (k := 6) hx hb hts inW_10 hown hK hZ35 g33.1 g33.2 rfl (by decide) k_1_83 rfl (D_180 W_prog_12_method_2_code_128 15 rfl rfl rfl) ?_
  refine lv_iload_n hx hb (D_29 W_prog_12_method_2_code_128 18 rfl rfl) rfl (lv_at hl 0 rfl) ?_
  refine lv_aload_n hx hb (D_43 W_prog_12_method_2_code_128 19 rfl rfl) rfl (lv_at hl 2 rfl) ?_
  obtain ⟨g36, hf⟩ := gif hf
  refine zget (ci := 0) (C := RX0) (T := TX0) (v := .int (iI (F 0 l1 1))) (k := 1) hx hb hts inW_0 hown hK hZ35 g36.1 g36.2 rfl (by decide) k_1_44 rfl (D_180 W_prog_12_method_2_code_128 20 rfl rfl rfl) ?_
  refine zast (ci := 10) (k := 6) hx hb hK rfl hZ35 hS35 g33.1 g33.2 rfl (Nat.le_of_ble_eq_true rfl) g34.1 g34.2 (D_79 W_prog_12_method_2_code_128 23 rfl rfl) (fun H37 locs37 hZ37 hS37 => ?_)
  refine lv_aload_n hx hb (D_42 W_prog_12_method_2_code_128 24 rfl rfl) rfl (lv_at hl 1 rfl) ?_
  refine zget (ci := 10) (C := RX10) (T := TX10) (v := .ref (ad 10 l0 (7 + 1))) (k := 7) hx hb hts inW_10 hown hK hZ37 g33.1 g33.2 rfl (by decide) k_1_84 rfl (D_180 W_prog_12_method_2_code_128 25 rfl rfl rfl) ?_
  refine lv_iload_n hx hb (D_29 W_prog_12_method_2_code_128 28 rfl rfl) rfl (lv_at hl 0 rfl) ?_
  refine lv_lconst (v := lI 0) hx hb (D_9 W_prog_12_method_2_code_128 29 rfl rfl) (by decide) ?_
  refine zlast (ci := 10) (k := 7) hx hb hK rfl hZ37 hS37 g33.1 g33.2 rfl (Nat.le_of_ble_eq_true rfl) g34.1 g34.2 (D_80 W_prog_12_method_2_code_128 30 rfl rfl) (fun H38 locs38 hZ38 hS38 => ?_)
  refine lv_aload_n hx hb (D_42 W_prog_12_method_2_code_128 31 rfl rfl) rfl (lv_at hl 1 rfl) ?_
  refine lv_iconst (v := iI 0) hx hb (D_3 W_prog_12_method_2_code_160 0 rfl rfl) rfl ?_
  refine zput (ci := 10) (C := RX10) (T := TX10) (k := 8) (v := 0) (w := .int (iI 0)) hx hb hts inW_10 tyX10 tyX10_ok nmX10 hown hK hZ38 hS38 g33.1 g33.2 rfl (by decide) k_1_85 rfl (fun G h => congrArg (fun q => Value.int (iI q)) h) rfl rfl (zno (by decide)) (D_181 W_prog_12_method_2_code_160 1 rfl rfl rfl) (fun H39 locs39 hZ39 hS39 => ?_)
  refine lv_aload_n hx hb (D_42 W_prog_12_method_2_code_160 4 rfl rfl) rfl (lv_at hl 1 rfl) ?_
  obtain ⟨r40, F40, B40, hc40, hf⟩ := gbind hf
  refine va_callv (va_runV (As := []) (rest := []) ⟨hx, hb, hml, hown, hts⟩ (c_Tokens_advance (l := l) hc40) (cwV 0 hts (gdV k_3_151 k_3_152 k_3_153 k_1_5 k_3_154) rfl rfl rfl (by decide +kernel) ⟨Nat.le_of_ble_eq_true rfl, Nat.le_of_ble_eq_true rfl⟩) (zPV X hZ39 hS39 (ci := 10) g33.1 g33.2 (r := (RX10, TX10, 9)) rfl []) rfl rfl hl.1 rfl (lv_room (Nat.le_of_ble_eq_true rfl)) (D_182 W_prog_12_method_2_code_160 5 rfl rfl rfl) ⟨Nat.le_of_ble_eq_true rfl, Nat.le_of_ble_eq_true rfl⟩) hS39 (fun q _ h => zAin X hS39 q h) (zAin X hS39) (fun u40 t40 H40 locs40 ht40 hv40 hw40 hB40 hz40 hk40 hS40 => ?_)
  have hZ40 := zBack X ht40 hB40
  cases hf
  exact W.vret hx hb hr (fun t ht hW => ⟨⟨(), rfl, trivial, by rw [ht]; exact hZ40, va_K.moved hW.alike hK⟩, hS40.F ht⟩) hS40.2.2 (D_177 W_prog_12_method_2_code_160 8 rfl rfl) hlk

def f_Tokens_start_129 (rec7 : Int → Int → Int → Int → Int → zF → zB → zO) (K : zK) (l2 : Int) (l4 : Int) (l3 : Int) (l0 : Int) (l1 : Int) (F : zF) (B : zB) : zO := rec7 (l4 + 1) l3 l2 l0 l1 F B
set_option maxHeartbeats 4000000 in
set_option maxRecDepth 100000 in
theorem b_Tokens_start_129 {D : va_G} {ca : Nat → ClassId} {ad : Nat → Int → Nat → Nat} {L : List Nat} {aS vS : Nat → Nat} {A : Nat → Prop} {p : Program} {l : Launch} {e : Env} {s : State} {m : MethodId} {args : Array Value} {below : List Frame} {meth : Method} {c : Code} {K : zK} {r : Int} {F9 : zF} {B9 : zB} (X : zX D ca L aS vS A p s m args meth c prog_12_method_2_code 7 (Option.none : Option Jvm.ClassFile.FieldType) "StaveHouse$Tokens") {rec7 : Int → Int → Int → Int → Int → zF → zB → zO} (hrec7 : ∀ {l4 : Int} {l3 : Int} {l2 : Int} {l0 : Int} {l1 : Int} {F : zF} {B : zB} {H : Heap} {locs : List Loc} {ls : Array Slot}, rec7 l4 l3 l2 l0 l1 F B = some (r, F9, B9) → zH D ca ad lnC K.2 L F B A H → va_S A s.heap H locs → lv_has ls 7 [(4, .int (iI l4)), (3, .int (iI l3)), (2, .int (iI l2)), (0, .ref (ad 10 l0 0)), (1, .ref (ad 0 l1 0))] → W p l e ({ frames := 4, cells := 0, slots := 0, locals := 91 } : Room) s m args below meth c H locs 0 0 (MQ below (Q_Tokens_start K D ca ad L r F9 B9 A) args s 0 0 A) (F0 m 7 ls [])) {l2 : Int} {l4 : Int} {l3 : Int} {l0 : Int} {l1 : Int} {F : zF} {B : zB} {H : Heap} {locs : List Loc} {ls : Array Slot} (hf : f_Tokens_start_129 rec7 K l2 l4 l3 l0 l1 F B = some (r, F9, B9)) (hZ : zH D ca ad lnC K.2 L F B A H) (hS : va_S A s.heap H locs) (hl : lv_has ls 7 [(2, .int (iI l2)), (4, .int (iI l4)), (3, .int (iI l3)), (0, .ref (ad 10 l0 0)), (1, .ref (ad 0 l1 0))]) : W p l e ({ frames := 4, cells := 0, slots := 0, locals := 91 } : Room) s m args below meth c H locs 0 0 (MQ below (Q_Tokens_start K D ca ad L r F9 B9 A) args s 0 0 A) (F0 m 129 ls []) := by
  obtain ⟨hx, hb, hr, hml, hown, hts, hlk, hK, hA, hL, hX⟩ := id X
  replace hf : (rec7 (l4 + 1) l3 l2 l0 l1 F B) = some (r, F9, B9) := hf
  refine lv_iinc (v := iI (l4 + 1)) (lv' := [(4, .int (iI (l4 + 1))), (2, .int (iI l2)), (3, .int (iI l3)), (0, .ref (ad 10 l0 0)), (1, .ref (ad 0 l1 0))]) hx hb d_12_2_129 hl (k := 1) rfl (iI_add _ 1) (by decide) rfl (fun ls hl => ?_)
  refine lv_goto (tgt := 7) hx hb (D_167 W_prog_12_method_2_code_128 4 rfl rfl rfl) (by decide) ?_
  exact hrec7 hf hZ hS (lv_sub hl [0, 2, 1, 3, 4] rfl)

def f_Tokens_start_123 (rec7 : Int → Int → Int → Int → Int → zF → zB → zO) (K : zK) (l6 : Int) (l4 : Int) (l3 : Int) (l0 : Int) (l1 : Int) (F : zF) (B : zB) : zO := f_Tokens_start_129 rec7 K l6 l4 (l3 + 1) l0 l1 F B
set_option maxHeartbeats 4000000 in
set_option maxRecDepth 100000 in
theorem b_Tokens_start_123 {D : va_G} {ca : Nat → ClassId} {ad : Nat → Int → Nat → Nat} {L : List Nat} {aS vS : Nat → Nat} {A : Nat → Prop} {p : Program} {l : Launch} {e : Env} {s : State} {m : MethodId} {args : Array Value} {below : List Frame} {meth : Method} {c : Code} {K : zK} {r : Int} {F9 : zF} {B9 : zB} (X : zX D ca L aS vS A p s m args meth c prog_12_method_2_code 7 (Option.none : Option Jvm.ClassFile.FieldType) "StaveHouse$Tokens") {rec7 : Int → Int → Int → Int → Int → zF → zB → zO} (hrec7 : ∀ {l4 : Int} {l3 : Int} {l2 : Int} {l0 : Int} {l1 : Int} {F : zF} {B : zB} {H : Heap} {locs : List Loc} {ls : Array Slot}, rec7 l4 l3 l2 l0 l1 F B = some (r, F9, B9) → zH D ca ad lnC K.2 L F B A H → va_S A s.heap H locs → lv_has ls 7 [(4, .int (iI l4)), (3, .int (iI l3)), (2, .int (iI l2)), (0, .ref (ad 10 l0 0)), (1, .ref (ad 0 l1 0))] → W p l e ({ frames := 4, cells := 0, slots := 0, locals := 91 } : Room) s m args below meth c H locs 0 0 (MQ below (Q_Tokens_start K D ca ad L r F9 B9 A) args s 0 0 A) (F0 m 7 ls [])) {l6 : Int} {l4 : Int} {l3 : Int} {l0 : Int} {l1 : Int} {F : zF} {B : zB} {H : Heap} {locs : List Loc} {ls : Array Slot} (hf : f_Tokens_start_123 rec7 K l6 l4 l3 l0 l1 F B = some (r, F9, B9)) (hZ : zH D ca ad lnC K.2 L F B A H) (hS : va_S A s.heap H locs) (hl : lv_has ls 7 [(6, .int (iI l6)), (4, .int (iI l4)), (3, .int (iI l3)), (0, .ref (ad 10 l0 0)), (1, .ref (ad 0 l1 0))]) : W p l e ({ frames := 4, cells := 0, slots := 0, locals := 91 } : Room) s m args below meth c H locs 0 0 (MQ below (Q_Tokens_start K D ca ad L r F9 B9 A) args s 0 0 A) (F0 m 123 ls []) := by
  obtain ⟨hx, hb, hr, hml, hown, hts, hlk, hK, hA, hL, hX⟩ := id X
  replace hf : (f_Tokens_start_129 rec7 K l6 l4 (l3 + 1) l0 l1 F B) = some (r, F9, B9) := hf
  refine lv_iload hx hb (D_21 W_prog_12_method_2_code_96 27 rfl rfl) (lv_at hl 0 rfl) ?_
  refine lv_istore_n (lv' := [(2, .int (iI l6)), (6, .int (iI l6)), (4, .int (iI l4)), (3, .int (iI l3)), (0, .ref (ad 10 l0 0)), (1, .ref (ad 0 l1 0))]) hx hb (D_61 W_prog_12_method_2_code_96 29 rfl rfl) rfl hl (by decide) rfl (fun ls hl => ?_)
  refine lv_iinc (v := iI (l3 + 1)) (lv' := [(3, .int (iI (l3 + 1))), (2, .int (iI l6)), (6, .int (iI l6)), (4, .int (iI l4)), (0, .ref (ad 10 l0 0)), (1, .ref (ad 0 l1 0))]) hx hb d_12_2_126 hl (k := 3) rfl (iI_add _ 1) (by decide) rfl (fun ls hl => ?_)
  exact b_Tokens_start_129 X hrec7 hf hZ hS (lv_sub hl [1, 3, 0, 4, 5] rfl)

def f_Tokens_start_113 (rec7 : Int → Int → Int → Int → Int → zF → zB → zO) (K : zK) (l6 : Int) (l5 : Int) (l4 : Int) (l3 : Int) (l0 : Int) (l1 : Int) (s0 : Int) (s1 : Int) (s2 : Int) (F : zF) (B : zB) : zO := if 0 ≤ s0 ∧ s0 < K.2 10 then if 0 ≤ s1 ∧ s1 < 3001 then if 0 ≤ l0 ∧ l0 < K.2 10 then if r32 l5 then if 0 ≤ l3 ∧ l3 < 3001 then f_Tokens_start_123 rec7 K l6 l4 l3 l0 l1 F (zup4 (zup4 B 10 s0 5 s1 s2) 10 l0 7 l3 l5) else none else none else none else none else none
set_option maxHeartbeats 4000000 in
set_option maxRecDepth 100000 in
theorem b_Tokens_start_113 {D : va_G} {ca : Nat → ClassId} {ad : Nat → Int → Nat → Nat} {L : List Nat} {aS vS : Nat → Nat} {A : Nat → Prop} {p : Program} {l : Launch} {e : Env} {s : State} {m : MethodId} {args : Array Value} {below : List Frame} {meth : Method} {c : Code} {K : zK} {r : Int} {F9 : zF} {B9 : zB} (X : zX D ca L aS vS A p s m args meth c prog_12_method_2_code 7 (Option.none : Option Jvm.ClassFile.FieldType) "StaveHouse$Tokens") {rec7 : Int → Int → Int → Int → Int → zF → zB → zO} (hrec7 : ∀ {l4 : Int} {l3 : Int} {l2 : Int} {l0 : Int} {l1 : Int} {F : zF} {B : zB} {H : Heap} {locs : List Loc} {ls : Array Slot}, rec7 l4 l3 l2 l0 l1 F B = some (r, F9, B9) → zH D ca ad lnC K.2 L F B A H → va_S A s.heap H locs → lv_has ls 7 [(4, .int (iI l4)), (3, .int (iI l3)), (2, .int (iI l2)), (0, .ref (ad 10 l0 0)), (1, .ref (ad 0 l1 0))] → W p l e ({ frames := 4, cells := 0, slots := 0, locals := 91 } : Room) s m args below meth c H locs 0 0 (MQ below (Q_Tokens_start K D ca ad L r F9 B9 A) args s 0 0 A) (F0 m 7 ls [])) {l6 : Int} {l5 : Int} {l4 : Int} {l3 : Int} {l0 : Int} {l1 : Int} {s0 : Int} {s1 : Int} {s2 : Int} {F : zF} {B : zB} {H : Heap} {locs : List Loc} {ls : Array Slot} (hf : f_Tokens_start_113 rec7 K l6 l5 l4 l3 l0 l1 s0 s1 s2 F B = some (r, F9, B9)) (hZ : zH D ca ad lnC K.2 L F B A H) (hS : va_S A s.heap H locs) (hl : lv_has ls 7 [(6, .int (iI l6)), (5, .int (iI l5)), (4, .int (iI l4)), (3, .int (iI l3)), (0, .ref (ad 10 l0 0)), (1, .ref (ad 0 l1 0))]) : W p l e ({ frames := 4, cells := 0, slots := 0, locals := 91 } : Room) s m args below meth c H locs 0 0 (MQ below (Q_Tokens_start K D ca ad L r F9 B9 A) args s 0 0 A) (F0 m 113 ls [.int (iI s2), .int (iI s1), .ref (ad 10 s0 (5 + 1))]) := by
  obtain ⟨hx, hb, hr, hml, hown, hts, hlk, hK, hA, hL, hX⟩ := id X
  replace hf : (if 0 ≤ s0 ∧ s0 < K.2 10 then if 0 ≤ s1 ∧ s1 < 3001 then if 0 ≤ l0 ∧ l0 < K.2 10 then if r32 l5 then if 0 ≤ l3 ∧ l3 < 3001 then f_Tokens_start_123 rec7 K l6 l4 l3 l0 l1 F (zup4 (zup4 B 10 s0 5 s1 s2) 10 l0 7 l3 l5) else none else none else none else none else none) = some (r, F9, B9) := hf
  obtain ⟨g25, hf⟩ := gif hf
  obtain ⟨g26, hf⟩ := gif hf
  refine zast (ci := 10) (k := 5) hx hb hK rfl hZ hS g25.1 g25.2 rfl (Nat.le_of_ble_eq_true rfl) g26.1 g26.2 (D_79 W_prog_12_method_2_code_96 17 rfl rfl) (fun H27 locs27 hZ27 hS27 => ?_)
  refine lv_aload_n hx hb (D_42 W_prog_12_method_2_code_96 18 rfl rfl) rfl (lv_at hl 4 rfl) ?_
  obtain ⟨g28, hf⟩ := gif hf
  refine zget (ci := 10) (C := RX10) (T := TX10) (v := .ref (ad 10 l0 (7 + 1))) (k := 7) hx hb hts inW_10 hown hK hZ27 g28.1 g28.2 rfl (by decide) k_1_84 rfl (D_180 W_prog_12_method_2_code_96 19 rfl rfl rfl) ?_
  refine lv_iload_n hx hb (D_29 W_prog_12_method_2_code_96 22 rfl rfl) rfl (lv_at hl 3 rfl) ?_
  refine lv_iload hx hb (D_21 W_prog_12_method_2_code_96 23 rfl rfl) (lv_at hl 1 rfl) ?_
  obtain ⟨g29, hf⟩ := gif hf
  refine zi2l hx hb g29 (D_133 W_prog_12_method_2_code_96 25 rfl rfl) ?_
  obtain ⟨g30, hf⟩ := gif hf
  refine zlast (ci := 10) (k := 7) hx hb hK rfl hZ27 hS27 g28.1 g28.2 rfl (Nat.le_of_ble_eq_true rfl) g30.1 g30.2 (D_80 W_prog_12_method_2_code_96 26 rfl rfl) (fun H31 locs31 hZ31 hS31 => ?_)
  exact b_Tokens_start_123 X hrec7 hf hZ31 hS31 (lv_sub hl [0, 2, 3, 4, 5] rfl)

def f_Tokens_start_63 (rec7 : Int → Int → Int → Int → Int → zF → zB → zO) (K : zK) (l5 : Int) (l4 : Int) (l3 : Int) (l2 : Int) (l0 : Int) (l1 : Int) (s0 : Int) (F : zF) (B : zB) : zO := if 0 ≤ l0 ∧ l0 < K.2 10 then if 0 ≤ l3 ∧ l3 < 3001 then zbind (f_Tokens_isRunByte K l5 F (zup4 B 10 l0 6 l3 l2)) (fun r18 F18 B18 => if r32 r18 then (if r18 = 0 then zbind (f_CString_indexOf_0 K 22 (zi2c l5) F18 B18) (fun r21 F21 B21 => if r32 r21 then (if r21 < 0 then f_Tokens_start_113 rec7 K s0 l5 l4 l3 l0 l1 l0 l3 1 F21 B21 else f_Tokens_start_113 rec7 K s0 l5 l4 l3 l0 l1 l0 l3 5 F21 B21) else none) else zbind (f_Tokens_keepRun K l0 l1 l3 l2 s0 F18 B18) (fun r24 F24 B24 => f_Tokens_start_123 rec7 K s0 l4 l3 l0 l1 F24 B24)) else none) else none else none
set_option maxHeartbeats 4000000 in
set_option maxRecDepth 100000 in
theorem b_Tokens_start_63 {D : va_G} {ca : Nat → ClassId} {ad : Nat → Int → Nat → Nat} {L : List Nat} {aS vS : Nat → Nat} {A : Nat → Prop} {p : Program} {l : Launch} {e : Env} {s : State} {m : MethodId} {args : Array Value} {below : List Frame} {meth : Method} {c : Code} {K : zK} {r : Int} {F9 : zF} {B9 : zB} (X : zX D ca L aS vS A p s m args meth c prog_12_method_2_code 7 (Option.none : Option Jvm.ClassFile.FieldType) "StaveHouse$Tokens") {rec7 : Int → Int → Int → Int → Int → zF → zB → zO} (hrec7 : ∀ {l4 : Int} {l3 : Int} {l2 : Int} {l0 : Int} {l1 : Int} {F : zF} {B : zB} {H : Heap} {locs : List Loc} {ls : Array Slot}, rec7 l4 l3 l2 l0 l1 F B = some (r, F9, B9) → zH D ca ad lnC K.2 L F B A H → va_S A s.heap H locs → lv_has ls 7 [(4, .int (iI l4)), (3, .int (iI l3)), (2, .int (iI l2)), (0, .ref (ad 10 l0 0)), (1, .ref (ad 0 l1 0))] → W p l e ({ frames := 4, cells := 0, slots := 0, locals := 91 } : Room) s m args below meth c H locs 0 0 (MQ below (Q_Tokens_start K D ca ad L r F9 B9 A) args s 0 0 A) (F0 m 7 ls [])) {l5 : Int} {l4 : Int} {l3 : Int} {l2 : Int} {l0 : Int} {l1 : Int} {s0 : Int} {F : zF} {B : zB} {H : Heap} {locs : List Loc} {ls : Array Slot} (hf : f_Tokens_start_63 rec7 K l5 l4 l3 l2 l0 l1 s0 F B = some (r, F9, B9)) (hZ : zH D ca ad lnC K.2 L F B A H) (hS : va_S A s.heap H locs) (hl : lv_has ls 7 [(5, .int (iI l5)), (4, .int (iI l4)), (3, .int (iI l3)), (2, .int (iI l2)), (0, .ref (ad 10 l0 0)), (1, .ref (ad 0 l1 0))]) : W p l e ({ frames := 4, cells := 0, slots := 0, locals := 91 } : Room) s m args below meth c H locs 0 0 (MQ below (Q_Tokens_start K D ca ad L r F9 B9 A) args s 0 0 A) (F0 m 63 ls [.int (iI s0)]) := by
  obtain ⟨hx, hb, hr, hml, hown, hts, hlk, hK, hA, hL, hX⟩ := id X
  replace hf : (if 0 ≤ l0 ∧ l0 < K.2 10 then if 0 ≤ l3 ∧ l3 < 3001 then zbind (f_Tokens_isRunByte K l5 F (zup4 B 10 l0 6 l3 l2)) (fun r18 F18 B18 => if r32 r18 then (if r18 = 0 then zbind (f_CString_indexOf_0 K 22 (zi2c l5) F18 B18) (fun r21 F21 B21 => if r32 r21 then (if r21 < 0 then f_Tokens_start_113 rec7 K s0 l5 l4 l3 l0 l1 l0 l3 1 F21 B21 else f_Tokens_start_113 rec7 K s0 l5 l4 l3 l0 l1 l0 l3 5 F21 B21) else none) else zbind (f_Tokens_keepRun K l0 l1 l3 l2 s0 F18 B18) (fun r24 F24 B24 => f_Tokens_start_123 rec7 K s0 l4 l3 l0 l1 F24 B24)) else none) else none else none) = some (r, F9, B9) := hf
  refine lv_istore (lv' := [(6, .int (iI s0)), (5, .int (iI l5)), (4, .int (iI l4)), (3, .int (iI l3)), (2, .int (iI l2)), (0, .ref (ad 10 l0 0)), (1, .ref (ad 0 l1 0))]) hx hb (D_54 W_prog_12_method_2_code_32 31 rfl rfl) hl (by decide) rfl (fun ls hl => ?_)
  refine lv_aload_n hx hb (D_42 W_prog_12_method_2_code_64 1 rfl rfl) rfl (lv_at hl 5 rfl) ?_
  obtain ⟨g15, hf⟩ := gif hf
  refine zget (ci := 10) (C := RX10) (T := TX10) (v := .ref (ad 10 l0 (6 + 1))) (k := 6) hx hb hts inW_10 hown hK hZ g15.1 g15.2 rfl (by decide) k_1_83 rfl (D_180 W_prog_12_method_2_code_64 2 rfl rfl rfl) ?_
  refine lv_iload_n hx hb (D_29 W_prog_12_method_2_code_64 5 rfl rfl) rfl (lv_at hl 3 rfl) ?_
  refine lv_iload_n hx hb (D_28 W_prog_12_method_2_code_64 6 rfl rfl) rfl (lv_at hl 4 rfl) ?_
  obtain ⟨g16, hf⟩ := gif hf
  refine zast (ci := 10) (k := 6) hx hb hK rfl hZ hS g15.1 g15.2 rfl (Nat.le_of_ble_eq_true rfl) g16.1 g16.2 (D_79 W_prog_12_method_2_code_64 7 rfl rfl) (fun H17 locs17 hZ17 hS17 => ?_)
  refine lv_iload hx hb (D_21 W_prog_12_method_2_code_64 8 rfl rfl) (lv_at hl 1 rfl) ?_
  obtain ⟨r18, F18, B18, hc18, hf⟩ := gbind hf
  refine va_calli (va_runS (As := [.int (iI l5)]) (rest := []) ⟨hx, hb, hml, hown, hts⟩ (c_Tokens_isRunByte (l := l) hc18) (va_cwS 1 hts (gdS k_3_41 k_3_42 k_1_5 k_3_43) rfl rfl rfl (by decide +kernel) ⟨Nat.le_of_ble_eq_true rfl, Nat.le_of_ble_eq_true rfl⟩) (zPS X hZ17 hS17 [.int (iI l5)]) rfl rfl hl.1 rfl (lv_room (Nat.le_of_ble_eq_true rfl)) (D_184 W_prog_12_method_2_code_64 10 rfl rfl rfl) ⟨Nat.le_of_ble_eq_true rfl, Nat.le_of_ble_eq_true rfl⟩) hS17 (fun q _ h => zAin X hS17 q h) (zAin X hS17) (fun p18 u18 t18 H18 locs18 ht18 hv18 hw18 hB18 hz18 hk18 hS18 => ?_)
  have hZ18 := zBack X ht18 hB18
  subst hw18
  obtain ⟨g19, hf⟩ := gif hf
  refine z0eq (tgt := 92) hx hb g19 (D_153 W_prog_12_method_2_code_64 13 rfl rfl rfl) (by decide) (fun h20 => ?_) (fun h20 => ?_)
  · replace hf := gpos hf h20
    refine lv_aload_n hx hb (D_42 W_prog_12_method_2_code_64 28 rfl rfl) rfl (lv_at hl 5 rfl) ?_
    refine zget (ci := 10) (C := RX10) (T := TX10) (v := .ref (ad 10 l0 (5 + 1))) (k := 5) hx hb hts inW_10 hown hK hZ18 g15.1 g15.2 rfl (by decide) k_1_82 rfl (D_180 W_prog_12_method_2_code_64 29 rfl rfl rfl) ?_
    refine lv_iload_n hx hb (D_29 W_prog_12_method_2_code_96 0 rfl rfl) rfl (lv_at hl 3 rfl) ?_
    refine va_ldcS hx hb hown (hX.2.2.2.2.1 22 _ rfl).1 (D_18 W_prog_12_method_2_code_96 1 rfl rfl) ?_
    refine lv_iload hx hb (D_21 W_prog_12_method_2_code_96 3 rfl rfl) (lv_at hl 1 rfl) ?_
    refine zi2c_r hx hb (D_146 W_prog_12_method_2_code_96 5 rfl rfl) ?_
    obtain ⟨r21, F21, B21, hc21, hf⟩ := gbind hf
    refine va_calli (va_runV (As := [.int (iI (zi2c l5))]) (rest := [.int (iI l3), .ref (ad 10 l0 (5 + 1))]) ⟨hx, hb, hml, hown, hts⟩ (c_CString_indexOf_0 (l := l) hc21) (cwV 1 hts (gdV k_3_67 k_3_68 k_3_69 k_1_11 k_3_70) rfl rfl rfl (by decide +kernel) ⟨Nat.le_of_ble_eq_true rfl, Nat.le_of_ble_eq_true rfl⟩) ⟨zBlind, zsrecv hX (by decide) hS18, zAt X hZ18 hS18 [.ref (aS 22), .int (iI (zi2c l5))]⟩ rfl rfl hl.1 rfl (lv_room (Nat.le_of_ble_eq_true rfl)) (D_182 W_prog_12_method_2_code_96 6 rfl rfl rfl) ⟨Nat.le_of_ble_eq_true rfl, Nat.le_of_ble_eq_true rfl⟩) hS18 (fun q _ h => zAin X hS18 q h) (zAin X hS18) (fun p21 u21 t21 H21 locs21 ht21 hv21 hw21 hB21 hz21 hk21 hS21 => ?_)
    have hZ21 := zBack X ht21 hB21
    subst hw21
    obtain ⟨g22, hf⟩ := gif hf
    refine z0lt (tgt := 112) hx hb g22 (D_155 W_prog_12_method_2_code_96 9 rfl rfl rfl) (by decide) (fun h23 => ?_) (fun h23 => ?_)
    · replace hf := gpos hf h23
      refine lv_iconst (v := iI 1) hx hb (D_4 W_prog_12_method_2_code_96 16 rfl rfl) rfl ?_
      exact b_Tokens_start_113 X hrec7 hf hZ21 hS21 (lv_sub hl [0, 1, 2, 3, 5, 6] rfl)
    · replace hf := gneg hf h23
      refine lv_iconst (v := iI 5) hx hb (D_8 W_prog_12_method_2_code_96 12 rfl rfl) rfl ?_
      refine lv_goto (tgt := 113) hx hb (D_167 W_prog_12_method_2_code_96 13 rfl rfl rfl) (by decide) ?_
      exact b_Tokens_start_113 X hrec7 hf hZ21 hS21 (lv_sub hl [0, 1, 2, 3, 5, 6] rfl)
  · replace hf := gneg hf h20
    refine lv_aload_n hx hb (D_42 W_prog_12_method_2_code_64 16 rfl rfl) rfl (lv_at hl 5 rfl) ?_
    refine lv_aload_n hx hb (D_43 W_prog_12_method_2_code_64 17 rfl rfl) rfl (lv_at hl 6 rfl) ?_
    refine lv_iload_n hx hb (D_29 W_prog_12_method_2_code_64 18 rfl rfl) rfl (lv_at hl 3 rfl) ?_
    refine lv_iload_n hx hb (D_28 W_prog_12_method_2_code_64 19 rfl rfl) rfl (lv_at hl 4 rfl) ?_
    refine lv_iload hx hb (D_21 W_prog_12_method_2_code_64 20 rfl rfl) (lv_at hl 0 rfl) ?_
    obtain ⟨r24, F24, B24, hc24, hf⟩ := gbind hf
    refine va_callv (va_runV (As := [.ref (ad 0 l1 0), .int (iI l3), .int (iI l2), .int (iI s0)]) (rest := []) ⟨hx, hb, hml, hown, hts⟩ (c_Tokens_keepRun (l := l) hc24) (cwV 4 hts (gdV k_3_53 k_3_55 ks_1 k_1_5 k_3_56) rfl rfl rfl (by decide +kernel) ⟨Nat.le_of_ble_eq_true rfl, Nat.le_of_ble_eq_true rfl⟩) (zPV X hZ18 hS18 (ci := 10) g15.1 g15.2 (r := (RX10, TX10, 9)) rfl [.ref (ad 0 l1 0), .int (iI l3), .int (iI l2), .int (iI s0)]) rfl rfl hl.1 rfl (lv_room (Nat.le_of_ble_eq_true rfl)) (D_182 W_prog_12_method_2_code_64 22 rfl rfl rfl) ⟨Nat.le_of_ble_eq_true rfl, Nat.le_of_ble_eq_true rfl⟩) hS18 (fun q _ h => zAin X hS18 q h) (zAin X hS18) (fun u24 t24 H24 locs24 ht24 hv24 hw24 hB24 hz24 hk24 hS24 => ?_)
    have hZ24 := zBack X ht24 hB24
    refine lv_goto (tgt := 123) hx hb (D_167 W_prog_12_method_2_code_64 25 rfl rfl rfl) (by decide) ?_
    exact b_Tokens_start_123 X hrec7 hf hZ24 hS24 (lv_sub hl [0, 2, 3, 5, 6] rfl)

def f_Tokens_start_7 (K : zK) : Nat → Int → Int → Int → Int → Int → zF → zB → zO
  | 0, _, _, _, _, _, _, _ => none
  | n + 1, l4, l3, l2, l0, l1, F, B => if r32 l4 then (if 3000 ≤ l4 then f_Tokens_start_135 K l3 l0 l1 F B else if 0 ≤ l1 ∧ l1 < K.2 0 then if r32 l2 then if r32 (F 0 l1 1) then (if (F 0 l1 1) ≤ l2 then f_Tokens_start_135 K l3 l0 l1 F B else zbind (f_ByteRow_at K l1 l2 F B) (fun r7 F7 B7 => zbind (f_Tokens_isBlank K r7 F7 B7) (fun r8 F8 B8 => if r32 r8 then (if r8 = 0 then zbind (f_Tokens_isRunByte K r7 F8 B8) (fun r11 F11 B11 => if r32 r11 then (if r11 = 0 then f_Tokens_start_63 (f_Tokens_start_7 K n) K r7 l4 l3 l2 l0 l1 (l2 + 1) F11 B11 else zbind (f_Tokens_runEnd K l1 l2 F11 B11) (fun r14 F14 B14 => f_Tokens_start_63 (f_Tokens_start_7 K n) K r7 l4 l3 l2 l0 l1 r14 F14 B14)) else none) else f_Tokens_start_129 (f_Tokens_start_7 K n) K (l2 + 1) l4 l3 l0 l1 F8 B8) else none))) else none else none else none) else none
set_option maxHeartbeats 4000000 in
set_option maxRecDepth 100000 in
theorem b_Tokens_start_7 {D : va_G} {ca : Nat → ClassId} {ad : Nat → Int → Nat → Nat} {L : List Nat} {aS vS : Nat → Nat} {A : Nat → Prop} {p : Program} {l : Launch} {e : Env} {s : State} {m : MethodId} {args : Array Value} {below : List Frame} {meth : Method} {c : Code} {K : zK} {r : Int} {F9 : zF} {B9 : zB} (X : zX D ca L aS vS A p s m args meth c prog_12_method_2_code 7 (Option.none : Option Jvm.ClassFile.FieldType) "StaveHouse$Tokens") : ∀ {n : Nat} {l4 : Int} {l3 : Int} {l2 : Int} {l0 : Int} {l1 : Int} {F : zF} {B : zB} {H : Heap} {locs : List Loc} {ls : Array Slot}, f_Tokens_start_7 K n l4 l3 l2 l0 l1 F B = some (r, F9, B9) → zH D ca ad lnC K.2 L F B A H → va_S A s.heap H locs → lv_has ls 7 [(4, .int (iI l4)), (3, .int (iI l3)), (2, .int (iI l2)), (0, .ref (ad 10 l0 0)), (1, .ref (ad 0 l1 0))] → W p l e ({ frames := 4, cells := 0, slots := 0, locals := 91 } : Room) s m args below meth c H locs 0 0 (MQ below (Q_Tokens_start K D ca ad L r F9 B9 A) args s 0 0 A) (F0 m 7 ls []) := by
  obtain ⟨hx, hb, hr, hml, hown, hts, hlk, hK, hA, hL, hX⟩ := id X
  intro n
  induction n with
  | zero =>
    intros
    rename_i hf _ _ _
    cases hf
  | succ n ih =>
    intro l4 l3 l2 l0 l1 F B H locs ls hf hZ hS hl
    replace hf : (if r32 l4 then (if 3000 ≤ l4 then f_Tokens_start_135 K l3 l0 l1 F B else if 0 ≤ l1 ∧ l1 < K.2 0 then if r32 l2 then if r32 (F 0 l1 1) then (if (F 0 l1 1) ≤ l2 then f_Tokens_start_135 K l3 l0 l1 F B else zbind (f_ByteRow_at K l1 l2 F B) (fun r7 F7 B7 => zbind (f_Tokens_isBlank K r7 F7 B7) (fun r8 F8 B8 => if r32 r8 then (if r8 = 0 then zbind (f_Tokens_isRunByte K r7 F8 B8) (fun r11 F11 B11 => if r32 r11 then (if r11 = 0 then f_Tokens_start_63 (f_Tokens_start_7 K n) K r7 l4 l3 l2 l0 l1 (l2 + 1) F11 B11 else zbind (f_Tokens_runEnd K l1 l2 F11 B11) (fun r14 F14 B14 => f_Tokens_start_63 (f_Tokens_start_7 K n) K r7 l4 l3 l2 l0 l1 r14 F14 B14)) else none) else f_Tokens_start_129 (f_Tokens_start_7 K n) K (l2 + 1) l4 l3 l0 l1 F8 B8) else none))) else none else none else none) else none) = some (r, F9, B9) := hf
    refine lv_iload hx hb (D_21 W_prog_12_method_2_code_0 7 rfl rfl) (lv_at hl 0 rfl) ?_
    refine lv_sipush (v := iI 3000) hx hb (D_17 W_prog_12_method_2_code_0 9 rfl rfl rfl) (by decide) ?_
    obtain ⟨g1, hf⟩ := gif hf
    refine zge (tgt := 135) hx hb g1 (by decide) (D_162 W_prog_12_method_2_code_0 12 rfl rfl rfl) (by decide) (fun h2 => ?_) (fun h2 => ?_)
    · replace hf := gpos hf h2
      exact b_Tokens_start_135 X hf hZ hS (lv_sub hl [1, 3, 4] rfl)
    · replace hf := gneg hf h2
      refine lv_iload_n hx hb (D_28 W_prog_12_method_2_code_0 15 rfl rfl) rfl (lv_at hl 2 rfl) ?_
      refine lv_aload_n hx hb (D_43 W_prog_12_method_2_code_0 16 rfl rfl) rfl (lv_at hl 4 rfl) ?_
      obtain ⟨g3, hf⟩ := gif hf
      refine zget (ci := 0) (C := RX0) (T := TX0) (v := .int (iI (F 0 l1 1))) (k := 1) hx hb hts inW_0 hown hK hZ g3.1 g3.2 rfl (by decide) k_1_44 rfl (D_180 W_prog_12_method_2_code_0 17 rfl rfl rfl) ?_
      obtain ⟨g4, hf⟩ := gif hf
      obtain ⟨g5, hf⟩ := gif hf
      refine zge (tgt := 135) hx hb g4 g5 (D_162 W_prog_12_method_2_code_0 20 rfl rfl rfl) (by decide) (fun h6 => ?_) (fun h6 => ?_)
      · replace hf := gpos hf h6
        exact b_Tokens_start_135 X hf hZ hS (lv_sub hl [1, 3, 4] rfl)
      · replace hf := gneg hf h6
        refine lv_aload_n hx hb (D_43 W_prog_12_method_2_code_0 23 rfl rfl) rfl (lv_at hl 4 rfl) ?_
        refine lv_iload_n hx hb (D_28 W_prog_12_method_2_code_0 24 rfl rfl) rfl (lv_at hl 2 rfl) ?_
        obtain ⟨r7, F7, B7, hc7, hf⟩ := gbind hf
        refine va_calli (va_runV (As := [.int (iI l2)]) (rest := []) ⟨hx, hb, hml, hown, hts⟩ (c_ByteRow_at (l := l) hc7) (cwV 1 hts (gdV k_3_34 k_3_35 k_3_36 k_1_2 k_3_37) rfl rfl rfl (by decide +kernel) ⟨Nat.le_of_ble_eq_true rfl, Nat.le_of_ble_eq_true rfl⟩) (zPV X hZ hS (ci := 0) g3.1 g3.2 (r := (RX0, TX0, 3)) rfl [.int (iI l2)]) rfl rfl hl.1 rfl (lv_room (Nat.le_of_ble_eq_true rfl)) (D_182 W_prog_12_method_2_code_0 25 rfl rfl rfl) ⟨Nat.le_of_ble_eq_true rfl, Nat.le_of_ble_eq_true rfl⟩) hS (fun q _ h => zAin X hS q h) (zAin X hS) (fun p7 u7 t7 H7 locs7 ht7 hv7 hw7 hB7 hz7 hk7 hS7 => ?_)
        have hZ7 := zBack X ht7 hB7
        subst hw7
        refine lv_istore (lv' := [(5, .int (iI r7)), (4, .int (iI l4)), (3, .int (iI l3)), (2, .int (iI l2)), (0, .ref (ad 10 l0 0)), (1, .ref (ad 0 l1 0))]) hx hb (D_54 W_prog_12_method_2_code_0 28 rfl rfl) hl (by decide) rfl (fun ls hl => ?_)
        refine lv_iload hx hb (D_21 W_prog_12_method_2_code_0 30 rfl rfl) (lv_at hl 0 rfl) ?_
        obtain ⟨r8, F8, B8, hc8, hf⟩ := gbind hf
        refine va_calli (va_runS (As := [.int (iI r7)]) (rest := []) ⟨hx, hb, hml, hown, hts⟩ (c_Tokens_isBlank (l := l) hc8) (va_cwS 1 hts (gdS k_3_38 k_3_39 k_1_5 k_3_40) rfl rfl rfl (by decide +kernel) ⟨Nat.le_of_ble_eq_true rfl, Nat.le_of_ble_eq_true rfl⟩) (zPS X hZ7 hS7 [.int (iI r7)]) rfl rfl hl.1 rfl (lv_room (Nat.le_of_ble_eq_true rfl)) (D_184 W_prog_12_method_2_code_32 0 rfl rfl rfl) ⟨Nat.le_of_ble_eq_true rfl, Nat.le_of_ble_eq_true rfl⟩) hS7 (fun q _ h => zAin X hS7 q h) (zAin X hS7) (fun p8 u8 t8 H8 locs8 ht8 hv8 hw8 hB8 hz8 hk8 hS8 => ?_)
        have hZ8 := zBack X ht8 hB8
        subst hw8
        obtain ⟨g9, hf⟩ := gif hf
        refine z0eq (tgt := 44) hx hb g9 (D_153 W_prog_12_method_2_code_32 3 rfl rfl rfl) (by decide) (fun h10 => ?_) (fun h10 => ?_)
        · replace hf := gpos hf h10
          refine lv_iload hx hb (D_21 W_prog_12_method_2_code_32 12 rfl rfl) (lv_at hl 0 rfl) ?_
          obtain ⟨r11, F11, B11, hc11, hf⟩ := gbind hf
          refine va_calli (va_runS (As := [.int (iI r7)]) (rest := []) ⟨hx, hb, hml, hown, hts⟩ (c_Tokens_isRunByte (l := l) hc11) (va_cwS 1 hts (gdS k_3_41 k_3_42 k_1_5 k_3_43) rfl rfl rfl (by decide +kernel) ⟨Nat.le_of_ble_eq_true rfl, Nat.le_of_ble_eq_true rfl⟩) (zPS X hZ8 hS8 [.int (iI r7)]) rfl rfl hl.1 rfl (lv_room (Nat.le_of_ble_eq_true rfl)) (D_184 W_prog_12_method_2_code_32 14 rfl rfl rfl) ⟨Nat.le_of_ble_eq_true rfl, Nat.le_of_ble_eq_true rfl⟩) hS8 (fun q _ h => zAin X hS8 q h) (zAin X hS8) (fun p11 u11 t11 H11 locs11 ht11 hv11 hw11 hB11 hz11 hk11 hS11 => ?_)
          have hZ11 := zBack X ht11 hB11
          subst hw11
          obtain ⟨g12, hf⟩ := gif hf
          refine z0eq (tgt := 60) hx hb g12 (D_153 W_prog_12_method_2_code_32 17 rfl rfl rfl) (by decide) (fun h13 => ?_) (fun h13 => ?_)
          · replace hf := gpos hf h13
            refine lv_iload_n hx hb (D_28 W_prog_12_method_2_code_32 28 rfl rfl) rfl (lv_at hl 3 rfl) ?_
            refine lv_iconst (v := iI 1) hx hb (D_4 W_prog_12_method_2_code_32 29 rfl rfl) rfl ?_
            refine zadd hx hb (D_96 W_prog_12_method_2_code_32 30 rfl rfl) ?_
            exact b_Tokens_start_63 X ih hf hZ11 hS11 (lv_sub hl [0, 1, 2, 3, 4, 5] rfl)
          · replace hf := gneg hf h13
            refine lv_aload_n hx hb (D_43 W_prog_12_method_2_code_32 20 rfl rfl) rfl (lv_at hl 5 rfl) ?_
            refine lv_iload_n hx hb (D_28 W_prog_12_method_2_code_32 21 rfl rfl) rfl (lv_at hl 3 rfl) ?_
            obtain ⟨r14, F14, B14, hc14, hf⟩ := gbind hf
            refine va_calli (va_runS (As := [.ref (ad 0 l1 0), .int (iI l2)]) (rest := []) ⟨hx, hb, hml, hown, hts⟩ (c_Tokens_runEnd (l := l) hc14) (va_cwS 2 hts (gdS k_3_50 k_3_51 k_1_5 k_3_52) rfl rfl rfl (by decide +kernel) ⟨Nat.le_of_ble_eq_true rfl, Nat.le_of_ble_eq_true rfl⟩) (zPS X hZ11 hS11 [.ref (ad 0 l1 0), .int (iI l2)]) rfl rfl hl.1 rfl (lv_room (Nat.le_of_ble_eq_true rfl)) (D_184 W_prog_12_method_2_code_32 22 rfl rfl rfl) ⟨Nat.le_of_ble_eq_true rfl, Nat.le_of_ble_eq_true rfl⟩) hS11 (fun q _ h => zAin X hS11 q h) (zAin X hS11) (fun p14 u14 t14 H14 locs14 ht14 hv14 hw14 hB14 hz14 hk14 hS14 => ?_)
            have hZ14 := zBack X ht14 hB14
            subst hw14
            refine lv_goto (tgt := 63) hx hb (D_167 W_prog_12_method_2_code_32 25 rfl rfl rfl) (by decide) ?_
            exact b_Tokens_start_63 X ih hf hZ14 hS14 (lv_sub hl [0, 1, 2, 3, 4, 5] rfl)
        · replace hf := gneg hf h10
          refine lv_iinc (v := iI (l2 + 1)) (lv' := [(2, .int (iI (l2 + 1))), (5, .int (iI r7)), (4, .int (iI l4)), (3, .int (iI l3)), (0, .ref (ad 10 l0 0)), (1, .ref (ad 0 l1 0))]) hx hb d_12_2_38 hl (k := 3) rfl (iI_add _ 1) (by decide) rfl (fun ls hl => ?_)
          refine lv_goto (tgt := 129) hx hb (D_167 W_prog_12_method_2_code_32 9 rfl rfl rfl) (by decide) ?_
          exact b_Tokens_start_129 X ih hf hZ8 hS8 (lv_sub hl [0, 2, 3, 4, 5] rfl)

def f_Tokens_start (K : zK) (l0 : Int) (l1 : Int) (F : zF) (B : zB) : zO := f_Tokens_start_7 K K.1 0 0 0 l0 l1 F B
set_option maxHeartbeats 4000000 in
set_option maxRecDepth 100000 in
theorem c_Tokens_start {l : Launch} {D : va_G} {ca : Nat → ClassId} {ad : Nat → Int → Nat → Nat} {L : List Nat} {aS vS : Nat → Nat} {sz : Nat} {K : zK}  {l0 : Int} {l1 : Int} {F F9 : zF} {B B9 : zB} {r : Int} (hf : f_Tokens_start K l0 l1 F B = some (r, F9, B9)) : Met l ({ cls := "StaveHouse$Tokens", name := "start", desc := "(LStaveHouse$ByteRow;)V" } : Jvm.MethodName) (Cond.code ({ cls := "StaveHouse$Tokens", name := "start", desc := "(LStaveHouse$ByteRow;)V" } : Jvm.MethodName) prog_12_method_2_code 7 (Option.none : Option Jvm.ClassFile.FieldType) :: wAll) ({ frames := 4, cells := 0, slots := 0, locals := 91 } : Room) (va_Pc [.ref (ad 10 l0 0), .ref (ad 0 l1 0)] (zPre D ca ad lnC K.2 L aS vS F B sz)) (Q_Tokens_start K D ca ad L r F9 B9 (zA L sz)) 0 0 (zA L sz) := by
  refine zMet (Qc := Q_Tokens_start K D ca ad L r F9 B9) (lv := [(0, .ref (ad 10 l0 0)), (1, .ref (ad 0 l1 0))]) (by decide) (Nat.le_of_ble_eq_true rfl) rfl (fun A p e s m below meth c ls X hZ hS hl => ?_)
  obtain ⟨hx, hb, hr, hml, hown, hts, hlk, hK, hA, hL, hX⟩ := id X
  replace hf : (f_Tokens_start_7 K K.1 0 0 0 l0 l1 F B) = some (r, F9, B9) := hf
  refine lv_iconst (v := iI 0) hx hb (D_3 W_prog_12_method_2_code_0 0 rfl rfl) rfl ?_
  refine lv_istore_n (lv' := [(2, .int (iI 0)), (0, .ref (ad 10 l0 0)), (1, .ref (ad 0 l1 0))]) hx hb (D_61 W_prog_12_method_2_code_0 1 rfl rfl) rfl hl (by decide) rfl (fun ls hl => ?_)
  refine lv_iconst (v := iI 0) hx hb (D_3 W_prog_12_method_2_code_0 2 rfl rfl) rfl ?_
  refine lv_istore_n (lv' := [(3, .int (iI 0)), (2, .int (iI 0)), (0, .ref (ad 10 l0 0)), (1, .ref (ad 0 l1 0))]) hx hb (D_62 W_prog_12_method_2_code_0 3 rfl rfl) rfl hl (by decide) rfl (fun ls hl => ?_)
  refine lv_iconst (v := iI 0) hx hb (D_3 W_prog_12_method_2_code_0 4 rfl rfl) rfl ?_
  refine lv_istore (lv' := [(4, .int (iI 0)), (3, .int (iI 0)), (2, .int (iI 0)), (0, .ref (ad 10 l0 0)), (1, .ref (ad 0 l1 0))]) hx hb (D_54 W_prog_12_method_2_code_0 5 rfl rfl) hl (by decide) rfl (fun ls hl => ?_)
  exact b_Tokens_start_7 X hf hZ hS (lv_sub hl [0, 1, 2, 3, 4] rfl)

abbrev Q_Parser_takeEvent (K : zK) (D : va_G) (ca : Nat → ClassId) (ad : Nat → Int → Nat → Nat) (L : List Nat) (r : Int) (F : zF) (B : zB) (A : Nat → Prop) : Array Value → State → Outcome → State → Prop := va_Qi (S := Unit) (fun p _ => p = iI r) (fun _ => zPo D ca ad lnC K.2 L F B A) A
def f_Parser_takeEvent_110 (K : zK)  (F : zF) (B : zB) : zO := some (1, F, B)
set_option maxHeartbeats 4000000 in
set_option maxRecDepth 100000 in
theorem b_Parser_takeEvent_110 {D : va_G} {ca : Nat → ClassId} {ad : Nat → Int → Nat → Nat} {L : List Nat} {aS vS : Nat → Nat} {A : Nat → Prop} {p : Program} {l : Launch} {e : Env} {s : State} {m : MethodId} {args : Array Value} {below : List Frame} {meth : Method} {c : Code} {K : zK} {r : Int} {F9 : zF} {B9 : zB} (X : zX D ca L aS vS A p s m args meth c prog_5_method_23_code 3 (Option.some Jvm.ClassFile.FieldType.boolean) "StaveHouse$Parser")  {F : zF} {B : zB} {H : Heap} {locs : List Loc} {ls : Array Slot} (hf : f_Parser_takeEvent_110 K  F B = some (r, F9, B9)) (hZ : zH D ca ad lnC K.2 L F B A H) (hS : va_S A s.heap H locs) (hl : lv_has ls 3 []) : W p l e ({ frames := 5, cells := 0, slots := 0, locals := 114 } : Room) s m args below meth c H locs 0 0 (MQ below (Q_Parser_takeEvent K D ca ad L r F9 B9 A) args s 0 0 A) (F0 m 110 ls []) := by
  obtain ⟨hx, hb, hr, hml, hown, hts, hlk, hK, hA, hL, hX⟩ := id X
  replace hf : (some (1, F, B)) = some (r, F9, B9) := hf
  refine lv_iconst (v := iI 1) hx hb (D_4 W_prog_5_method_23_code_96 14 rfl rfl) rfl ?_
  cases hf
  exact W.zret hx hb hr rfl (fun t ht hW => ⟨⟨_, (), rfl, rfl, by rw [ht]; exact hZ, va_K.moved hW.alike hK⟩, hS.F ht⟩) hS.2.2 (D_172 W_prog_5_method_23_code_96 15 rfl rfl) hlk

def f_Parser_takeEvent_91 (K : zK) (l2 : Int) (l0 : Int) (l1 : Int) (F : zF) (B : zB) : zO := if 0 ≤ l0 ∧ l0 < K.2 3 then if 0 ≤ l1 ∧ l1 < 3000 then if r32 l2 then (if l2 = 0 then zbind (f_Parser_takeMarks K l0 l1 F (zup4 B 3 l0 2 l1 (F 3 l0 20))) (fun r34 F34 B34 => f_Parser_takeEvent_110 K F34 B34) else f_Parser_takeEvent_110 K F (zup4 B 3 l0 2 l1 (F 3 l0 20))) else none else none else none
set_option maxHeartbeats 4000000 in
set_option maxRecDepth 100000 in
theorem b_Parser_takeEvent_91 {D : va_G} {ca : Nat → ClassId} {ad : Nat → Int → Nat → Nat} {L : List Nat} {aS vS : Nat → Nat} {A : Nat → Prop} {p : Program} {l : Launch} {e : Env} {s : State} {m : MethodId} {args : Array Value} {below : List Frame} {meth : Method} {c : Code} {K : zK} {r : Int} {F9 : zF} {B9 : zB} (X : zX D ca L aS vS A p s m args meth c prog_5_method_23_code 3 (Option.some Jvm.ClassFile.FieldType.boolean) "StaveHouse$Parser") {l2 : Int} {l0 : Int} {l1 : Int} {F : zF} {B : zB} {H : Heap} {locs : List Loc} {ls : Array Slot} (hf : f_Parser_takeEvent_91 K l2 l0 l1 F B = some (r, F9, B9)) (hZ : zH D ca ad lnC K.2 L F B A H) (hS : va_S A s.heap H locs) (hl : lv_has ls 3 [(2, .int (iI l2)), (0, .ref (ad 3 l0 0)), (1, .int (iI l1))]) : W p l e ({ frames := 5, cells := 0, slots := 0, locals := 114 } : Room) s m args below meth c H locs 0 0 (MQ below (Q_Parser_takeEvent K D ca ad L r F9 B9 A) args s 0 0 A) (F0 m 91 ls []) := by
  obtain ⟨hx, hb, hr, hml, hown, hts, hlk, hK, hA, hL, hX⟩ := id X
  replace hf : (if 0 ≤ l0 ∧ l0 < K.2 3 then if 0 ≤ l1 ∧ l1 < 3000 then if r32 l2 then (if l2 = 0 then zbind (f_Parser_takeMarks K l0 l1 F (zup4 B 3 l0 2 l1 (F 3 l0 20))) (fun r34 F34 B34 => f_Parser_takeEvent_110 K F34 B34) else f_Parser_takeEvent_110 K F (zup4 B 3 l0 2 l1 (F 3 l0 20))) else none else none else none) = some (r, F9, B9) := hf
  refine lv_aload_n hx hb (D_42 W_prog_5_method_23_code_64 27 rfl rfl) rfl (lv_at hl 1 rfl) ?_
  obtain ⟨g28, hf⟩ := gif hf
  refine zget (ci := 3) (C := RX3) (T := TX3) (v := .ref (ad 3 l0 (2 + 1))) (k := 2) hx hb hts inW_3 hown hK hZ g28.1 g28.2 rfl (by decide) k_1_110 rfl (D_180 W_prog_5_method_23_code_64 28 rfl rfl rfl) ?_
  refine lv_iload_n hx hb (D_27 W_prog_5_method_23_code_64 31 rfl rfl) rfl (lv_at hl 2 rfl) ?_
  refine lv_aload_n hx hb (D_42 W_prog_5_method_23_code_96 0 rfl rfl) rfl (lv_at hl 1 rfl) ?_
  refine zget (ci := 3) (C := RX3) (T := TX3) (v := .int (iI (F 3 l0 20))) (k := 20) hx hb hts inW_3 hown hK hZ g28.1 g28.2 rfl (by decide) k_1_137 rfl (D_180 W_prog_5_method_23_code_96 1 rfl rfl rfl) ?_
  obtain ⟨g29, hf⟩ := gif hf
  refine zast (ci := 3) (k := 2) hx hb hK rfl hZ hS g28.1 g28.2 rfl (Nat.le_of_ble_eq_true rfl) g29.1 g29.2 (D_79 W_prog_5_method_23_code_96 4 rfl rfl) (fun H30 locs30 hZ30 hS30 => ?_)
  refine lv_iload_n hx hb (D_28 W_prog_5_method_23_code_96 5 rfl rfl) rfl (lv_at hl 0 rfl) ?_
  obtain ⟨g31, hf⟩ := gif hf
  refine z0ne (tgt := 110) hx hb g31 (D_154 W_prog_5_method_23_code_96 6 rfl rfl rfl) (by decide) (fun h33 => ?_) (fun h33 => ?_)
  · replace hf := gneg hf h33
    exact b_Parser_takeEvent_110 X hf hZ30 hS30 (lv_sub hl [] rfl)
  · replace hf := gpos hf h33
    refine lv_aload_n hx hb (D_42 W_prog_5_method_23_code_96 9 rfl rfl) rfl (lv_at hl 1 rfl) ?_
    refine lv_iload_n hx hb (D_27 W_prog_5_method_23_code_96 10 rfl rfl) rfl (lv_at hl 2 rfl) ?_
    obtain ⟨r34, F34, B34, hc34, hf⟩ := gbind hf
    refine va_callv (va_runV (As := [.int (iI l1)]) (rest := []) ⟨hx, hb, hml, hown, hts⟩ (c_Parser_takeMarks (l := l) hc34) (cwV 1 hts (gdV k_4_22 k_4_24 ks_20 k_1_4 k_4_25) rfl rfl rfl (by decide +kernel) ⟨Nat.le_of_ble_eq_true rfl, Nat.le_of_ble_eq_true rfl⟩) (zPV X hZ30 hS30 (ci := 3) g28.1 g28.2 (r := (RX3, TX3, 22)) rfl [.int (iI l1)]) rfl rfl hl.1 rfl (lv_room (Nat.le_of_ble_eq_true rfl)) (D_182 W_prog_5_method_23_code_96 11 rfl rfl rfl) ⟨Nat.le_of_ble_eq_true rfl, Nat.le_of_ble_eq_true rfl⟩) hS30 (fun q _ h => zAin X hS30 q h) (zAin X hS30) (fun u34 t34 H34 locs34 ht34 hv34 hw34 hB34 hz34 hk34 hS34 => ?_)
    have hZ34 := zBack X ht34 hB34
    exact b_Parser_takeEvent_110 X hf hZ34 hS34 (lv_sub hl [] rfl)

def f_Parser_takeEvent_70 (K : zK) (l2 : Int) (l0 : Int) (l1 : Int) (F : zF) (B : zB) : zO := if 0 ≤ l0 ∧ l0 < K.2 3 then if 0 ≤ (F 3 l0 11) ∧ (F 3 l0 11) < K.2 10 then zbind (f_Tokens_isSign K (F 3 l0 11) 58 F B) (fun r22 F22 B22 => if r32 r22 then (if r22 = 0 then f_Parser_takeEvent_91 K l2 l0 l1 F22 B22 else zbind (f_Parser_takeLength K l0 F22 B22) (fun r25 F25 B25 => if r32 r25 then (if r25 = 0 then some (0, F25, B25) else f_Parser_takeEvent_91 K l2 l0 l1 F25 B25) else none)) else none) else none else none
set_option maxHeartbeats 4000000 in
set_option maxRecDepth 100000 in
theorem b_Parser_takeEvent_70 {D : va_G} {ca : Nat → ClassId} {ad : Nat → Int → Nat → Nat} {L : List Nat} {aS vS : Nat → Nat} {A : Nat → Prop} {p : Program} {l : Launch} {e : Env} {s : State} {m : MethodId} {args : Array Value} {below : List Frame} {meth : Method} {c : Code} {K : zK} {r : Int} {F9 : zF} {B9 : zB} (X : zX D ca L aS vS A p s m args meth c prog_5_method_23_code 3 (Option.some Jvm.ClassFile.FieldType.boolean) "StaveHouse$Parser") {l2 : Int} {l0 : Int} {l1 : Int} {F : zF} {B : zB} {H : Heap} {locs : List Loc} {ls : Array Slot} (hf : f_Parser_takeEvent_70 K l2 l0 l1 F B = some (r, F9, B9)) (hZ : zH D ca ad lnC K.2 L F B A H) (hS : va_S A s.heap H locs) (hl : lv_has ls 3 [(2, .int (iI l2)), (0, .ref (ad 3 l0 0)), (1, .int (iI l1))]) : W p l e ({ frames := 5, cells := 0, slots := 0, locals := 114 } : Room) s m args below meth c H locs 0 0 (MQ below (Q_Parser_takeEvent K D ca ad L r F9 B9 A) args s 0 0 A) (F0 m 70 ls []) := by
  obtain ⟨hx, hb, hr, hml, hown, hts, hlk, hK, hA, hL, hX⟩ := id X
  replace hf : (if 0 ≤ l0 ∧ l0 < K.2 3 then if 0 ≤ (F 3 l0 11) ∧ (F 3 l0 11) < K.2 10 then zbind (f_Tokens_isSign K (F 3 l0 11) 58 F B) (fun r22 F22 B22 => if r32 r22 then (if r22 = 0 then f_Parser_takeEvent_91 K l2 l0 l1 F22 B22 else zbind (f_Parser_takeLength K l0 F22 B22) (fun r25 F25 B25 => if r32 r25 then (if r25 = 0 then some (0, F25, B25) else f_Parser_takeEvent_91 K l2 l0 l1 F25 B25) else none)) else none) else none else none) = some (r, F9, B9) := hf
  refine lv_aload_n hx hb (D_42 W_prog_5_method_23_code_64 6 rfl rfl) rfl (lv_at hl 1 rfl) ?_
  obtain ⟨g20, hf⟩ := gif hf
  refine zget (ci := 3) (C := RX3) (T := TX3) (v := va_rf (zrf ad 10 (F 3 l0 11))) (k := 11) hx hb hts inW_3 hown hK hZ g20.1 g20.2 rfl (by decide) k_1_128 rfl (D_180 W_prog_5_method_23_code_64 7 rfl rfl rfl) ?_
  refine lv_bipush (v := iI 58) hx hb (D_16 W_prog_5_method_23_code_64 10 rfl rfl rfl) (by decide) ?_
  obtain ⟨g21, hf⟩ := gif hf
  refine W.eq (g2 := F0 m 76 ls [.int (iI 58), .ref (ad 10 (F 3 l0 11) 0)]) (by rw [zrf_pos (ad := ad) (t := 10) g21.1]; try rfl) ?_
  obtain ⟨r22, F22, B22, hc22, hf⟩ := gbind hf
  refine va_calli (va_runV (As := [.int (iI 58)]) (rest := []) ⟨hx, hb, hml, hown, hts⟩ (c_Tokens_isSign (l := l) hc22) (cwV 1 hts (gdV k_3_208 k_3_209 k_3_210 k_1_5 k_3_211) rfl rfl rfl (by decide +kernel) ⟨Nat.le_of_ble_eq_true rfl, Nat.le_of_ble_eq_true rfl⟩) (zPV X hZ hS (ci := 10) g21.1 g21.2 (r := (RX10, TX10, 9)) rfl [.int (iI 58)]) rfl rfl hl.1 rfl (lv_room (Nat.le_of_ble_eq_true rfl)) (D_182 W_prog_5_method_23_code_64 12 rfl rfl rfl) ⟨Nat.le_of_ble_eq_true rfl, Nat.le_of_ble_eq_true rfl⟩) hS (fun q _ h => zAin X hS q h) (zAin X hS) (fun p22 u22 t22 H22 locs22 ht22 hv22 hw22 hB22 hz22 hk22 hS22 => ?_)
  have hZ22 := zBack X ht22 hB22
  subst hw22
  obtain ⟨g23, hf⟩ := gif hf
  refine z0eq (tgt := 91) hx hb g23 (D_153 W_prog_5_method_23_code_64 15 rfl rfl rfl) (by decide) (fun h24 => ?_) (fun h24 => ?_)
  · replace hf := gpos hf h24
    exact b_Parser_takeEvent_91 X hf hZ22 hS22 (lv_sub hl [0, 1, 2] rfl)
  · replace hf := gneg hf h24
    refine lv_aload_n hx hb (D_42 W_prog_5_method_23_code_64 18 rfl rfl) rfl (lv_at hl 1 rfl) ?_
    obtain ⟨r25, F25, B25, hc25, hf⟩ := gbind hf
    refine va_calli (va_runV (As := []) (rest := []) ⟨hx, hb, hml, hown, hts⟩ (c_Parser_takeLength (l := l) hc25) (cwV 0 hts (gdV k_4_5 k_4_7 ks_18 k_1_4 k_4_8) rfl rfl rfl (by decide +kernel) ⟨Nat.le_of_ble_eq_true rfl, Nat.le_of_ble_eq_true rfl⟩) (zPV X hZ22 hS22 (ci := 3) g20.1 g20.2 (r := (RX3, TX3, 22)) rfl []) rfl rfl hl.1 rfl (lv_room (Nat.le_of_ble_eq_true rfl)) (D_182 W_prog_5_method_23_code_64 19 rfl rfl rfl) ⟨Nat.le_of_ble_eq_true rfl, Nat.le_of_ble_eq_true rfl⟩) hS22 (fun q _ h => zAin X hS22 q h) (zAin X hS22) (fun p25 u25 t25 H25 locs25 ht25 hv25 hw25 hB25 hz25 hk25 hS25 => ?_)
    have hZ25 := zBack X ht25 hB25
    subst hw25
    obtain ⟨g26, hf⟩ := gif hf
    refine z0ne (tgt := 91) hx hb g26 (D_154 W_prog_5_method_23_code_64 22 rfl rfl rfl) (by decide) (fun h27 => ?_) (fun h27 => ?_)
    · replace hf := gneg hf h27
      exact b_Parser_takeEvent_91 X hf hZ25 hS25 (lv_sub hl [0, 1, 2] rfl)
    · replace hf := gpos hf h27
      refine lv_iconst (v := iI 0) hx hb (D_3 W_prog_5_method_23_code_64 25 rfl rfl) rfl ?_
      cases hf
      exact W.zret hx hb hr rfl (fun t ht hW => ⟨⟨_, (), rfl, rfl, by rw [ht]; exact hZ25, va_K.moved hW.alike hK⟩, hS25.F ht⟩) hS25.2.2 (D_172 W_prog_5_method_23_code_64 26 rfl rfl) hlk

def f_Parser_takeEvent_26 (K : zK) (l0 : Int) (l1 : Int) (s0 : Int) (F : zF) (B : zB) : zO := if r32 s0 then (if s0 = 0 then if 0 ≤ l0 ∧ l0 < K.2 3 then if 0 ≤ (F 3 l0 11) ∧ (F 3 l0 11) < K.2 10 then if r32 (F 10 (F 3 l0 11) 0) then (if (F 10 (F 3 l0 11) 0) = 2 then zbind (f_Parser_takePitch K l0 l1 F B) (fun r16 F16 B16 => f_Parser_takeEvent_70 K s0 l0 l1 F16 B16) else zbind (f_Parser_takeChord K l0 l1 F B) (fun r13 F13 B13 => if r32 r13 then (if r13 = 0 then some (0, F13, B13) else f_Parser_takeEvent_70 K s0 l0 l1 F13 B13) else none)) else none else none else none else if 0 ≤ l0 ∧ l0 < K.2 3 then if 0 ≤ (F 3 l0 11) ∧ (F 3 l0 11) < K.2 10 then zbind (f_Tokens_advance K (F 3 l0 11) F B) (fun r19 F19 B19 => f_Parser_takeEvent_70 K s0 l0 l1 F19 B19) else none else none) else none
set_option maxHeartbeats 4000000 in
set_option maxRecDepth 100000 in
theorem b_Parser_takeEvent_26 {D : va_G} {ca : Nat → ClassId} {ad : Nat → Int → Nat → Nat} {L : List Nat} {aS vS : Nat → Nat} {A : Nat → Prop} {p : Program} {l : Launch} {e : Env} {s : State} {m : MethodId} {args : Array Value} {below : List Frame} {meth : Method} {c : Code} {K : zK} {r : Int} {F9 : zF} {B9 : zB} (X : zX D ca L aS vS A p s m args meth c prog_5_method_23_code 3 (Option.some Jvm.ClassFile.FieldType.boolean) "StaveHouse$Parser") {l0 : Int} {l1 : Int} {s0 : Int} {F : zF} {B : zB} {H : Heap} {locs : List Loc} {ls : Array Slot} (hf : f_Parser_takeEvent_26 K l0 l1 s0 F B = some (r, F9, B9)) (hZ : zH D ca ad lnC K.2 L F B A H) (hS : va_S A s.heap H locs) (hl : lv_has ls 3 [(0, .ref (ad 3 l0 0)), (1, .int (iI l1))]) : W p l e ({ frames := 5, cells := 0, slots := 0, locals := 114 } : Room) s m args below meth c H locs 0 0 (MQ below (Q_Parser_takeEvent K D ca ad L r F9 B9 A) args s 0 0 A) (F0 m 26 ls [.int (iI s0)]) := by
  obtain ⟨hx, hb, hr, hml, hown, hts, hlk, hK, hA, hL, hX⟩ := id X
  replace hf : (if r32 s0 then (if s0 = 0 then if 0 ≤ l0 ∧ l0 < K.2 3 then if 0 ≤ (F 3 l0 11) ∧ (F 3 l0 11) < K.2 10 then if r32 (F 10 (F 3 l0 11) 0) then (if (F 10 (F 3 l0 11) 0) = 2 then zbind (f_Parser_takePitch K l0 l1 F B) (fun r16 F16 B16 => f_Parser_takeEvent_70 K s0 l0 l1 F16 B16) else zbind (f_Parser_takeChord K l0 l1 F B) (fun r13 F13 B13 => if r32 r13 then (if r13 = 0 then some (0, F13, B13) else f_Parser_takeEvent_70 K s0 l0 l1 F13 B13) else none)) else none else none else none else if 0 ≤ l0 ∧ l0 < K.2 3 then if 0 ≤ (F 3 l0 11) ∧ (F 3 l0 11) < K.2 10 then zbind (f_Tokens_advance K (F 3 l0 11) F B) (fun r19 F19 B19 => f_Parser_takeEvent_70 K s0 l0 l1 F19 B19) else none else none) else none) = some (r, F9, B9) := hf
  refine lv_istore_n (lv' := [(2, .int (iI s0)), (0, .ref (ad 3 l0 0)), (1, .int (iI l1))]) hx hb (D_61 W_prog_5_method_23_code_0 26 rfl rfl) rfl hl (by decide) rfl (fun ls hl => ?_)
  refine lv_iload_n hx hb (D_28 W_prog_5_method_23_code_0 27 rfl rfl) rfl (lv_at hl 0 rfl) ?_
  obtain ⟨g7, hf⟩ := gif hf
  refine z0eq (tgt := 41) hx hb g7 (D_153 W_prog_5_method_23_code_0 28 rfl rfl rfl) (by decide) (fun h8 => ?_) (fun h8 => ?_)
  · replace hf := gpos hf h8
    refine lv_aload_n hx hb (D_42 W_prog_5_method_23_code_32 9 rfl rfl) rfl (lv_at hl 1 rfl) ?_
    obtain ⟨g9, hf⟩ := gif hf
    refine zget (ci := 3) (C := RX3) (T := TX3) (v := va_rf (zrf ad 10 (F 3 l0 11))) (k := 11) hx hb hts inW_3 hown hK hZ g9.1 g9.2 rfl (by decide) k_1_128 rfl (D_180 W_prog_5_method_23_code_32 10 rfl rfl rfl) ?_
    obtain ⟨g10, hf⟩ := gif hf
    refine zunrf g10.1 ?_
    refine zget (ci := 10) (C := RX10) (T := TX10) (v := .int (iI (F 10 (F 3 l0 11) 0))) (k := 0) hx hb hts inW_10 hown hK hZ g10.1 g10.2 rfl (by decide) k_1_72 rfl (D_180 W_prog_5_method_23_code_32 13 rfl rfl rfl) ?_
    refine lv_iconst (v := iI 2) hx hb (D_5 W_prog_5_method_23_code_32 16 rfl rfl) rfl ?_
    obtain ⟨g11, hf⟩ := gif hf
    refine zne (tgt := 60) hx hb g11 (by decide) (D_160 W_prog_5_method_23_code_32 17 rfl rfl rfl) (by decide) (fun h12 => ?_) (fun h12 => ?_)
    · replace hf := gneg hf h12
      refine lv_aload_n hx hb (D_42 W_prog_5_method_23_code_32 28 rfl rfl) rfl (lv_at hl 1 rfl) ?_
      refine lv_iload_n hx hb (D_27 W_prog_5_method_23_code_32 29 rfl rfl) rfl (lv_at hl 2 rfl) ?_
      obtain ⟨r13, F13, B13, hc13, hf⟩ := gbind hf
      refine va_calli (va_runV (As := [.int (iI l1)]) (rest := []) ⟨hx, hb, hml, hown, hts⟩ (c_Parser_takeChord (l := l) hc13) (cwV 1 hts (gdV k_4_1 k_4_3 ks_17 k_1_4 k_4_4) rfl rfl rfl (by decide +kernel) ⟨Nat.le_of_ble_eq_true rfl, Nat.le_of_ble_eq_true rfl⟩) (zPV X hZ hS (ci := 3) g9.1 g9.2 (r := (RX3, TX3, 22)) rfl [.int (iI l1)]) rfl rfl hl.1 rfl (lv_room (Nat.le_of_ble_eq_true rfl)) (D_182 W_prog_5_method_23_code_32 30 rfl rfl rfl) ⟨Nat.le_of_ble_eq_true rfl, Nat.le_of_ble_eq_true rfl⟩) hS (fun q _ h => zAin X hS q h) (zAin X hS) (fun p13 u13 t13 H13 locs13 ht13 hv13 hw13 hB13 hz13 hk13 hS13 => ?_)
      have hZ13 := zBack X ht13 hB13
      subst hw13
      obtain ⟨g14, hf⟩ := gif hf
      refine z0ne (tgt := 70) hx hb g14 (D_154 W_prog_5_method_23_code_64 1 rfl rfl rfl) (by decide) (fun h15 => ?_) (fun h15 => ?_)
      · replace hf := gneg hf h15
        exact b_Parser_takeEvent_70 X hf hZ13 hS13 (lv_sub hl [0, 1, 2] rfl)
      · replace hf := gpos hf h15
        refine lv_iconst (v := iI 0) hx hb (D_3 W_prog_5_method_23_code_64 4 rfl rfl) rfl ?_
        cases hf
        exact W.zret hx hb hr rfl (fun t ht hW => ⟨⟨_, (), rfl, rfl, by rw [ht]; exact hZ13, va_K.moved hW.alike hK⟩, hS13.F ht⟩) hS13.2.2 (D_172 W_prog_5_method_23_code_64 5 rfl rfl) hlk
    · replace hf := gpos hf h12
      refine lv_aload_n hx hb (D_42 W_prog_5_method_23_code_32 20 rfl rfl) rfl (lv_at hl 1 rfl) ?_
      refine lv_iload_n hx hb (D_27 W_prog_5_method_23_code_32 21 rfl rfl) rfl (lv_at hl 2 rfl) ?_
      obtain ⟨r16, F16, B16, hc16, hf⟩ := gbind hf
      refine va_callv (va_runV (As := [.int (iI l1)]) (rest := []) ⟨hx, hb, hml, hown, hts⟩ (c_Parser_takePitch (l := l) hc16) (cwV 1 hts (gdV k_3_237 k_3_239 ks_16 k_1_4 k_4_0) rfl rfl rfl (by decide +kernel) ⟨Nat.le_of_ble_eq_true rfl, Nat.le_of_ble_eq_true rfl⟩) (zPV X hZ hS (ci := 3) g9.1 g9.2 (r := (RX3, TX3, 22)) rfl [.int (iI l1)]) rfl rfl hl.1 rfl (lv_room (Nat.le_of_ble_eq_true rfl)) (D_182 W_prog_5_method_23_code_32 22 rfl rfl rfl) ⟨Nat.le_of_ble_eq_true rfl, Nat.le_of_ble_eq_true rfl⟩) hS (fun q _ h => zAin X hS q h) (zAin X hS) (fun u16 t16 H16 locs16 ht16 hv16 hw16 hB16 hz16 hk16 hS16 => ?_)
      have hZ16 := zBack X ht16 hB16
      refine lv_goto (tgt := 70) hx hb (D_167 W_prog_5_method_23_code_32 25 rfl rfl rfl) (by decide) ?_
      exact b_Parser_takeEvent_70 X hf hZ16 hS16 (lv_sub hl [0, 1, 2] rfl)
  · replace hf := gneg hf h8
    refine lv_aload_n hx hb (D_42 W_prog_5_method_23_code_0 31 rfl rfl) rfl (lv_at hl 1 rfl) ?_
    obtain ⟨g17, hf⟩ := gif hf
    refine zget (ci := 3) (C := RX3) (T := TX3) (v := va_rf (zrf ad 10 (F 3 l0 11))) (k := 11) hx hb hts inW_3 hown hK hZ g17.1 g17.2 rfl (by decide) k_1_128 rfl (D_180 W_prog_5_method_23_code_32 0 rfl rfl rfl) ?_
    obtain ⟨g18, hf⟩ := gif hf
    refine W.eq (g2 := F0 m 35 ls [.ref (ad 10 (F 3 l0 11) 0)]) (by rw [zrf_pos (ad := ad) (t := 10) g18.1]; try rfl) ?_
    obtain ⟨r19, F19, B19, hc19, hf⟩ := gbind hf
    refine va_callv (va_runV (As := []) (rest := []) ⟨hx, hb, hml, hown, hts⟩ (c_Tokens_advance (l := l) hc19) (cwV 0 hts (gdV k_3_180 k_3_152 k_3_153 k_1_5 k_3_154) rfl rfl rfl (by decide +kernel) ⟨Nat.le_of_ble_eq_true rfl, Nat.le_of_ble_eq_true rfl⟩) (zPV X hZ hS (ci := 10) g18.1 g18.2 (r := (RX10, TX10, 9)) rfl []) rfl rfl hl.1 rfl (lv_room (Nat.le_of_ble_eq_true rfl)) (D_182 W_prog_5_method_23_code_32 3 rfl rfl rfl) ⟨Nat.le_of_ble_eq_true rfl, Nat.le_of_ble_eq_true rfl⟩) hS (fun q _ h => zAin X hS q h) (zAin X hS) (fun u19 t19 H19 locs19 ht19 hv19 hw19 hB19 hz19 hk19 hS19 => ?_)
    have hZ19 := zBack X ht19 hB19
    refine lv_goto (tgt := 70) hx hb (D_167 W_prog_5_method_23_code_32 6 rfl rfl rfl) (by decide) ?_
    exact b_Parser_takeEvent_70 X hf hZ19 hS19 (lv_sub hl [0, 1, 2] rfl)

def f_Parser_takeEvent (K : zK) (l0 : Int) (l1 : Int) (F : zF) (B : zB) : zO := if 0 ≤ l0 ∧ l0 < K.2 3 then if 0 ≤ l1 ∧ l1 < 3000 then if 0 ≤ (F 3 l0 11) ∧ (F 3 l0 11) < K.2 10 then if r32 (F 10 (F 3 l0 11) 0) then (if (F 10 (F 3 l0 11) 0) = 4 then f_Parser_takeEvent_26 K l0 l1 1 F (zup4 B 3 l0 3 l1 (F 3 l0 15)) else f_Parser_takeEvent_26 K l0 l1 0 F (zup4 B 3 l0 3 l1 (F 3 l0 15))) else none else none else none else none
set_option maxHeartbeats 4000000 in
set_option maxRecDepth 100000 in
theorem c_Parser_takeEvent {l : Launch} {D : va_G} {ca : Nat → ClassId} {ad : Nat → Int → Nat → Nat} {L : List Nat} {aS vS : Nat → Nat} {sz : Nat} {K : zK}  {l0 : Int} {l1 : Int} {F F9 : zF} {B B9 : zB} {r : Int} (hf : f_Parser_takeEvent K l0 l1 F B = some (r, F9, B9)) : Met l ({ cls := "StaveHouse$Parser", name := "takeEvent", desc := "(I)Z" } : Jvm.MethodName) (Cond.code ({ cls := "StaveHouse$Parser", name := "takeEvent", desc := "(I)Z" } : Jvm.MethodName) prog_5_method_23_code 3 (Option.some Jvm.ClassFile.FieldType.boolean) :: wAll) ({ frames := 5, cells := 0, slots := 0, locals := 114 } : Room) (va_Pc [.ref (ad 3 l0 0), .int (iI l1)] (zPre D ca ad lnC K.2 L aS vS F B sz)) (Q_Parser_takeEvent K D ca ad L r F9 B9 (zA L sz)) 0 0 (zA L sz) := by
  refine zMet (Qc := Q_Parser_takeEvent K D ca ad L r F9 B9) (lv := [(0, .ref (ad 3 l0 0)), (1, .int (iI l1))]) (by decide) (Nat.le_of_ble_eq_true rfl) rfl (fun A p e s m below meth c ls X hZ hS hl => ?_)
  obtain ⟨hx, hb, hr, hml, hown, hts, hlk, hK, hA, hL, hX⟩ := id X
  replace hf : (if 0 ≤ l0 ∧ l0 < K.2 3 then if 0 ≤ l1 ∧ l1 < 3000 then if 0 ≤ (F 3 l0 11) ∧ (F 3 l0 11) < K.2 10 then if r32 (F 10 (F 3 l0 11) 0) then (if (F 10 (F 3 l0 11) 0) = 4 then f_Parser_takeEvent_26 K l0 l1 1 F (zup4 B 3 l0 3 l1 (F 3 l0 15)) else f_Parser_takeEvent_26 K l0 l1 0 F (zup4 B 3 l0 3 l1 (F 3 l0 15))) else none else none else none else none) = some (r, F9, B9) := hf
  refine lv_aload_n hx hb (D_42 W_prog_5_method_23_code_0 0 rfl rfl) rfl (lv_at hl 0 rfl) ?_
  obtain ⟨g1, hf⟩ := gif hf
  refine zget (ci := 3) (C := RX3) (T := TX3) (v := .ref (ad 3 l0 (3 + 1))) (k := 3) hx hb hts inW_3 hown hK hZ g1.1 g1.2 rfl (by decide) k_1_112 rfl (D_180 W_prog_5_method_23_code_0 1 rfl rfl rfl) ?_
  refine lv_iload_n hx hb (D_27 W_prog_5_method_23_code_0 4 rfl rfl) rfl (lv_at hl 1 rfl) ?_
  refine lv_aload_n hx hb (D_42 W_prog_5_method_23_code_0 5 rfl rfl) rfl (lv_at hl 0 rfl) ?_
  refine zget (ci := 3) (C := RX3) (T := TX3) (v := .int (iI (F 3 l0 15))) (k := 15) hx hb hts inW_3 hown hK hZ g1.1 g1.2 rfl (by decide) k_1_132 rfl (D_180 W_prog_5_method_23_code_0 6 rfl rfl rfl) ?_
  obtain ⟨g2, hf⟩ := gif hf
  refine zast (ci := 3) (k := 3) hx hb hK rfl hZ hS g1.1 g1.2 rfl (Nat.le_of_ble_eq_true rfl) g2.1 g2.2 (D_79 W_prog_5_method_23_code_0 9 rfl rfl) (fun H3 locs3 hZ3 hS3 => ?_)
  refine lv_aload_n hx hb (D_42 W_prog_5_method_23_code_0 10 rfl rfl) rfl (lv_at hl 0 rfl) ?_
  refine zget (ci := 3) (C := RX3) (T := TX3) (v := va_rf (zrf ad 10 (F 3 l0 11))) (k := 11) hx hb hts inW_3 hown hK hZ3 g1.1 g1.2 rfl (by decide) k_1_128 rfl (D_180 W_prog_5_method_23_code_0 11 rfl rfl rfl) ?_
  obtain ⟨g4, hf⟩ := gif hf
  refine zunrf g4.1 ?_
  refine zget (ci := 10) (C := RX10) (T := TX10) (v := .int (iI (F 10 (F 3 l0 11) 0))) (k := 0) hx hb hts inW_10 hown hK hZ3 g4.1 g4.2 rfl (by decide) k_1_72 rfl (D_180 W_prog_5_method_23_code_0 14 rfl rfl rfl) ?_
  refine lv_iconst (v := iI 4) hx hb (D_7 W_prog_5_method_23_code_0 17 rfl rfl) rfl ?_
  obtain ⟨g5, hf⟩ := gif hf
  refine zne (tgt := 25) hx hb g5 (by decide) (D_160 W_prog_5_method_23_code_0 18 rfl rfl rfl) (by decide) (fun h6 => ?_) (fun h6 => ?_)
  · replace hf := gneg hf h6
    refine lv_iconst (v := iI 0) hx hb (D_3 W_prog_5_method_23_code_0 25 rfl rfl) rfl ?_
    exact b_Parser_takeEvent_26 X hf hZ3 hS3 (lv_sub hl [0, 1] rfl)
  · replace hf := gpos hf h6
    refine lv_iconst (v := iI 1) hx hb (D_4 W_prog_5_method_23_code_0 21 rfl rfl) rfl ?_
    refine lv_goto (tgt := 26) hx hb (D_167 W_prog_5_method_23_code_0 22 rfl rfl rfl) (by decide) ?_
    exact b_Parser_takeEvent_26 X hf hZ3 hS3 (lv_sub hl [0, 1] rfl)

abbrev Q_Part_writeNotes (K : zK) (D : va_G) (ca : Nat → ClassId) (ad : Nat → Int → Nat → Nat) (L : List Nat) (r : Int) (F : zF) (B : zB) (A : Nat → Prop) : Array Value → State → Outcome → State → Prop := va_Qv (S := Unit) (fun _ => True) (fun _ => zPo D ca ad lnC K.2 L F B A) A
def f_Part_writeNotes_136 (K : zK)  (F : zF) (B : zB) : zO := some (0, F, B)
set_option maxHeartbeats 4000000 in
set_option maxRecDepth 100000 in
theorem b_Part_writeNotes_136 {D : va_G} {ca : Nat → ClassId} {ad : Nat → Int → Nat → Nat} {L : List Nat} {aS vS : Nat → Nat} {A : Nat → Prop} {p : Program} {l : Launch} {e : Env} {s : State} {m : MethodId} {args : Array Value} {below : List Frame} {meth : Method} {c : Code} {K : zK} {r : Int} {F9 : zF} {B9 : zB} (X : zX D ca L aS vS A p s m args meth c prog_6_method_9_code 6 (Option.none : Option Jvm.ClassFile.FieldType) "StaveHouse$Part")  {F : zF} {B : zB} {H : Heap} {locs : List Loc} {ls : Array Slot} (hf : f_Part_writeNotes_136 K  F B = some (r, F9, B9)) (hZ : zH D ca ad lnC K.2 L F B A H) (hS : va_S A s.heap H locs) (hl : lv_has ls 6 []) : W p l e ({ frames := 5, cells := 0, slots := 0, locals := 143 } : Room) s m args below meth c H locs 0 0 (MQ below (Q_Part_writeNotes K D ca ad L r F9 B9 A) args s 0 0 A) (F0 m 136 ls []) := by
  obtain ⟨hx, hb, hr, hml, hown, hts, hlk, hK, hA, hL, hX⟩ := id X
  replace hf : (some (0, F, B)) = some (r, F9, B9) := hf
  cases hf
  exact W.vret hx hb hr (fun t ht hW => ⟨⟨(), rfl, trivial, by rw [ht]; exact hZ, va_K.moved hW.alike hK⟩, hS.F ht⟩) hS.2.2 (D_177 W_prog_6_method_9_code_128 8 rfl rfl) hlk

def f_Part_writeNotes_101 (K : zK) (l0 : Int) (l1 : Int) (F : zF) (B : zB) : zO := if 0 ≤ l0 ∧ l0 < K.2 4 then if r32 (F 4 l0 11) then (if (F 4 l0 11) = 0 then zbind (f_Part_hold K l0 F B) (fun r26 F26 B26 => if 0 ≤ l1 ∧ l1 < K.2 6 then zbind (f_Part_setAccidentals K l0 (F26 6 l1 2) F26 B26) (fun r28 F28 B28 => zbind (f_Part_setLedgers K l0 F28 B28) (fun r29 F29 B29 => zbind (f_Piece_beatLength K l1 F29 B29) (fun r30 F30 B30 => zbind (f_Part_group K l0 r30 F30 B30) (fun r31 F31 B31 => zbind (f_Part_setStems K l0 F31 B31) (fun r33 F33 B33 => f_Part_writeNotes_136 K F33 B33))))) else none) else f_Part_writeNotes_136 K F B) else none else none
set_option maxHeartbeats 4000000 in
set_option maxRecDepth 100000 in
theorem b_Part_writeNotes_101 {D : va_G} {ca : Nat → ClassId} {ad : Nat → Int → Nat → Nat} {L : List Nat} {aS vS : Nat → Nat} {A : Nat → Prop} {p : Program} {l : Launch} {e : Env} {s : State} {m : MethodId} {args : Array Value} {below : List Frame} {meth : Method} {c : Code} {K : zK} {r : Int} {F9 : zF} {B9 : zB} (X : zX D ca L aS vS A p s m args meth c prog_6_method_9_code 6 (Option.none : Option Jvm.ClassFile.FieldType) "StaveHouse$Part") {l0 : Int} {l1 : Int} {F : zF} {B : zB} {H : Heap} {locs : List Loc} {ls : Array Slot} (hf : f_Part_writeNotes_101 K l0 l1 F B = some (r, F9, B9)) (hZ : zH D ca ad lnC K.2 L F B A H) (hS : va_S A s.heap H locs) (hl : lv_has ls 6 [(0, .ref (ad 4 l0 0)), (1, .ref (ad 6 l1 0))]) : W p l e ({ frames := 5, cells := 0, slots := 0, locals := 143 } : Room) s m args below meth c H locs 0 0 (MQ below (Q_Part_writeNotes K D ca ad L r F9 B9 A) args s 0 0 A) (F0 m 101 ls []) := by
  obtain ⟨hx, hb, hr, hml, hown, hts, hlk, hK, hA, hL, hX⟩ := id X
  replace hf : (if 0 ≤ l0 ∧ l0 < K.2 4 then if r32 (F 4 l0 11) then (if (F 4 l0 11) = 0 then zbind (f_Part_hold K l0 F B) (fun r26 F26 B26 => if 0 ≤ l1 ∧ l1 < K.2 6 then zbind (f_Part_setAccidentals K l0 (F26 6 l1 2) F26 B26) (fun r28 F28 B28 => zbind (f_Part_setLedgers K l0 F28 B28) (fun r29 F29 B29 => zbind (f_Piece_beatLength K l1 F29 B29) (fun r30 F30 B30 => zbind (f_Part_group K l0 r30 F30 B30) (fun r31 F31 B31 => zbind (f_Part_setStems K l0 F31 B31) (fun r33 F33 B33 => f_Part_writeNotes_136 K F33 B33))))) else none) else f_Part_writeNotes_136 K F B) else none else none) = some (r, F9, B9) := hf
  refine lv_aload_n hx hb (D_42 W_prog_6_method_9_code_96 5 rfl rfl) rfl (lv_at hl 0 rfl) ?_
  obtain ⟨g23, hf⟩ := gif hf
  refine zget (ci := 4) (C := RX4) (T := TX4) (v := .int (iI (F 4 l0 11))) (k := 11) hx hb hts inW_4 hown hK hZ g23.1 g23.2 rfl (by decide) k_4_151 rfl (D_180 W_prog_6_method_9_code_96 6 rfl rfl rfl) ?_
  obtain ⟨g24, hf⟩ := gif hf
  refine z0ne (tgt := 136) hx hb g24 (D_154 W_prog_6_method_9_code_96 9 rfl rfl rfl) (by decide) (fun h25 => ?_) (fun h25 => ?_)
  · replace hf := gneg hf h25
    exact b_Part_writeNotes_136 X hf hZ hS (lv_sub hl [] rfl)
  · replace hf := gpos hf h25
    refine lv_aload_n hx hb (D_42 W_prog_6_method_9_code_96 12 rfl rfl) rfl (lv_at hl 0 rfl) ?_
    obtain ⟨r26, F26, B26, hc26, hf⟩ := gbind hf
    refine va_callv (va_runV (As := []) (rest := []) ⟨hx, hb, hml, hown, hts⟩ (c_Part_hold (l := l) hc26) (cwV 0 hts (gdV k_5_100 k_5_102 ks_53 k_1_18 k_5_103) rfl rfl rfl (by decide +kernel) ⟨Nat.le_of_ble_eq_true rfl, Nat.le_of_ble_eq_true rfl⟩) (zPV X hZ hS (ci := 4) g23.1 g23.2 (r := (RX4, TX4, 13)) rfl []) rfl rfl hl.1 rfl (lv_room (Nat.le_of_ble_eq_true rfl)) (D_182 W_prog_6_method_9_code_96 13 rfl rfl rfl) ⟨Nat.le_of_ble_eq_true rfl, Nat.le_of_ble_eq_true rfl⟩) hS (fun q _ h => zAin X hS q h) (zAin X hS) (fun u26 t26 H26 locs26 ht26 hv26 hw26 hB26 hz26 hk26 hS26 => ?_)
    have hZ26 := zBack X ht26 hB26
    refine lv_aload_n hx hb (D_42 W_prog_6_method_9_code_96 16 rfl rfl) rfl (lv_at hl 0 rfl) ?_
    refine lv_aload_n hx hb (D_43 W_prog_6_method_9_code_96 17 rfl rfl) rfl (lv_at hl 1 rfl) ?_
    obtain ⟨g27, hf⟩ := gif hf
    refine zget (ci := 6) (C := RX6) (T := TX6) (v := .int (iI (F26 6 l1 2))) (k := 2) hx hb hts inW_6 hown hK hZ26 g27.1 g27.2 rfl (by decide) k_2_198 rfl (D_180 W_prog_6_method_9_code_96 18 rfl rfl rfl) ?_
    obtain ⟨r28, F28, B28, hc28, hf⟩ := gbind hf
    refine va_callv (va_runV (As := [.int (iI (F26 6 l1 2))]) (rest := []) ⟨hx, hb, hml, hown, hts⟩ (c_Part_setAccidentals (l := l) hc28) (cwV 1 hts (gdV k_5_112 k_5_114 ks_56 k_1_18 k_5_115) rfl rfl rfl (by decide +kernel) ⟨Nat.le_of_ble_eq_true rfl, Nat.le_of_ble_eq_true rfl⟩) (zPV X hZ26 hS26 (ci := 4) g23.1 g23.2 (r := (RX4, TX4, 13)) rfl [.int (iI (F26 6 l1 2))]) rfl rfl hl.1 rfl (lv_room (Nat.le_of_ble_eq_true rfl)) (D_182 W_prog_6_method_9_code_96 21 rfl rfl rfl) ⟨Nat.le_of_ble_eq_true rfl, Nat.le_of_ble_eq_true rfl⟩) hS26 (fun q _ h => zAin X hS26 q h) (zAin X hS26) (fun u28 t28 H28 locs28 ht28 hv28 hw28 hB28 hz28 hk28 hS28 => ?_)
    have hZ28 := zBack X ht28 hB28
    refine lv_aload_n hx hb (D_42 W_prog_6_method_9_code_96 24 rfl rfl) rfl (lv_at hl 0 rfl) ?_
    obtain ⟨r29, F29, B29, hc29, hf⟩ := gbind hf
    refine va_callv (va_runV (As := []) (rest := []) ⟨hx, hb, hml, hown, hts⟩ (c_Part_setLedgers (l := l) hc29) (cwV 0 hts (gdV k_5_130 k_5_132 ks_58 k_1_18 k_5_133) rfl rfl rfl (by decide +kernel) ⟨Nat.le_of_ble_eq_true rfl, Nat.le_of_ble_eq_true rfl⟩) (zPV X hZ28 hS28 (ci := 4) g23.1 g23.2 (r := (RX4, TX4, 13)) rfl []) rfl rfl hl.1 rfl (lv_room (Nat.le_of_ble_eq_true rfl)) (D_182 W_prog_6_method_9_code_96 25 rfl rfl rfl) ⟨Nat.le_of_ble_eq_true rfl, Nat.le_of_ble_eq_true rfl⟩) hS28 (fun q _ h => zAin X hS28 q h) (zAin X hS28) (fun u29 t29 H29 locs29 ht29 hv29 hw29 hB29 hz29 hk29 hS29 => ?_)
    have hZ29 := zBack X ht29 hB29
    refine lv_aload_n hx hb (D_42 W_prog_6_method_9_code_96 28 rfl rfl) rfl (lv_at hl 0 rfl) ?_
    refine lv_aload_n hx hb (D_43 W_prog_6_method_9_code_96 29 rfl rfl) rfl (lv_at hl 1 rfl) ?_
    obtain ⟨r30, F30, B30, hc30, hf⟩ := gbind hf
    refine va_calll (va_runV (As := []) (rest := [.ref (ad 4 l0 0)]) ⟨hx, hb, hml, hown, hts⟩ (c_Piece_beatLength (l := l) hc30) (cwV 0 hts (gdV k_5_144 k_5_145 k_5_146 k_1_15 k_5_147) rfl rfl rfl (by decide +kernel) ⟨Nat.le_of_ble_eq_true rfl, Nat.le_of_ble_eq_true rfl⟩) (zPV X hZ29 hS29 (ci := 6) g27.1 g27.2 (r := (RX6, TX6, 14)) rfl []) rfl rfl hl.1 rfl (lv_room (Nat.le_of_ble_eq_true rfl)) (D_182 W_prog_6_method_9_code_96 30 rfl rfl rfl) ⟨Nat.le_of_ble_eq_true rfl, Nat.le_of_ble_eq_true rfl⟩) hS29 (fun q _ h => zAin X hS29 q h) (zAin X hS29) (fun p30 u30 t30 H30 locs30 ht30 hv30 hw30 hB30 hz30 hk30 hS30 => ?_)
    have hZ30 := zBack X ht30 hB30
    subst hw30
    obtain ⟨r31, F31, B31, hc31, hf⟩ := gbind hf
    refine va_callv (va_runV (As := [.long (lI r30)]) (rest := []) ⟨hx, hb, hml, hown, hts⟩ (c_Part_group (l := l) hc31) (cwV 1 hts (gdV k_5_149 k_5_151 ks_61 k_1_18 k_5_152) rfl rfl rfl (by decide +kernel) ⟨Nat.le_of_ble_eq_true rfl, Nat.le_of_ble_eq_true rfl⟩) (zPV X hZ30 hS30 (ci := 4) g23.1 g23.2 (r := (RX4, TX4, 13)) rfl [.long (lI r30)]) rfl rfl hl.1 rfl (lv_room (Nat.le_of_ble_eq_true rfl)) (D_182 W_prog_6_method_9_code_128 1 rfl rfl rfl) ⟨Nat.le_of_ble_eq_true rfl, Nat.le_of_ble_eq_true rfl⟩) hS30 (fun q _ h => zAin X hS30 q h) (zAin X hS30) (fun u31 t31 H31 locs31 ht31 hv31 hw31 hB31 hz31 hk31 hS31 => ?_)
    have hZ31 := zBack X ht31 hB31
    refine lv_aload_n hx hb (D_42 W_prog_6_method_9_code_128 4 rfl rfl) rfl (lv_at hl 0 rfl) ?_
    obtain ⟨r33, F33, B33, hc33, hf⟩ := gbind hf
    refine va_callv (va_runV (As := []) (rest := []) ⟨hx, hb, hml, hown, hts⟩ (c_Part_setStems (l := l) hc33) (cwV 0 hts (gdV k_5_162 k_5_164 ks_64 k_1_18 k_5_165) rfl rfl rfl (by decide +kernel) ⟨Nat.le_of_ble_eq_true rfl, Nat.le_of_ble_eq_true rfl⟩) (zPV X hZ31 hS31 (ci := 4) g23.1 g23.2 (r := (RX4, TX4, 13)) rfl []) rfl rfl hl.1 rfl (lv_room (Nat.le_of_ble_eq_true rfl)) (D_182 W_prog_6_method_9_code_128 5 rfl rfl rfl) ⟨Nat.le_of_ble_eq_true rfl, Nat.le_of_ble_eq_true rfl⟩) hS31 (fun q _ h => zAin X hS31 q h) (zAin X hS31) (fun u33 t33 H33 locs33 ht33 hv33 hw33 hB33 hz33 hk33 hS33 => ?_)
    have hZ33 := zBack X ht33 hB33
    exact b_Part_writeNotes_136 X hf hZ33 hS33 (lv_sub hl [] rfl)

def f_Part_writeNotes_78 (K : zK) (l2 : Int) (l0 : Int) (l1 : Int) (s0 : Int) (F : zF) (B : zB) : zO := if r64 s0 then (if (zcmp s0 0) = 0 then f_Part_writeNotes_101 K l0 l1 F B else if 0 ≤ l0 ∧ l0 < K.2 4 then zbind (f_Part_cut K l0 l1 (-1) (F 4 l0 7) (l2 - s0) F B) (fun r22 F22 B22 => f_Part_writeNotes_101 K l0 l1 F22 B22) else none) else none
set_option maxHeartbeats 4000000 in
set_option maxRecDepth 100000 in
theorem b_Part_writeNotes_78 {D : va_G} {ca : Nat → ClassId} {ad : Nat → Int → Nat → Nat} {L : List Nat} {aS vS : Nat → Nat} {A : Nat → Prop} {p : Program} {l : Launch} {e : Env} {s : State} {m : MethodId} {args : Array Value} {below : List Frame} {meth : Method} {c : Code} {K : zK} {r : Int} {F9 : zF} {B9 : zB} (X : zX D ca L aS vS A p s m args meth c prog_6_method_9_code 6 (Option.none : Option Jvm.ClassFile.FieldType) "StaveHouse$Part") {l2 : Int} {l0 : Int} {l1 : Int} {s0 : Int} {F : zF} {B : zB} {H : Heap} {locs : List Loc} {ls : Array Slot} (hf : f_Part_writeNotes_78 K l2 l0 l1 s0 F B = some (r, F9, B9)) (hZ : zH D ca ad lnC K.2 L F B A H) (hS : va_S A s.heap H locs) (hl : lv_has ls 6 [(2, .long (lI l2)), (0, .ref (ad 4 l0 0)), (1, .ref (ad 6 l1 0))]) : W p l e ({ frames := 5, cells := 0, slots := 0, locals := 143 } : Room) s m args below meth c H locs 0 0 (MQ below (Q_Part_writeNotes K D ca ad L r F9 B9 A) args s 0 0 A) (F0 m 78 ls [.long (lI s0)]) := by
  obtain ⟨hx, hb, hr, hml, hown, hts, hlk, hK, hA, hL, hX⟩ := id X
  replace hf : (if r64 s0 then (if (zcmp s0 0) = 0 then f_Part_writeNotes_101 K l0 l1 F B else if 0 ≤ l0 ∧ l0 < K.2 4 then zbind (f_Part_cut K l0 l1 (-1) (F 4 l0 7) (l2 - s0) F B) (fun r22 F22 B22 => f_Part_writeNotes_101 K l0 l1 F22 B22) else none) else none) = some (r, F9, B9) := hf
  refine lv_lstore (lv' := [(4, .long (lI s0)), (2, .long (lI l2)), (0, .ref (ad 4 l0 0)), (1, .ref (ad 6 l1 0))]) hx hb (D_55 W_prog_6_method_9_code_64 14 rfl rfl) hl (by decide) rfl (fun ls hl => ?_)
  refine lv_lload hx hb (D_22 W_prog_6_method_9_code_64 16 rfl rfl) (lv_at hl 0 rfl) ?_
  refine lv_lconst (v := lI 0) hx hb (D_9 W_prog_6_method_9_code_64 18 rfl rfl) (by decide) ?_
  obtain ⟨g19, hf⟩ := gif hf
  refine zcmp_r hx hb g19 (by decide) (D_148 W_prog_6_method_9_code_64 19 rfl rfl) ?_
  refine z0eq (tgt := 101) hx hb zcmp_32 (D_153 W_prog_6_method_9_code_64 20 rfl rfl rfl) (by decide) (fun h20 => ?_) (fun h20 => ?_)
  · replace hf := gpos hf h20
    exact b_Part_writeNotes_101 X hf hZ hS (lv_sub hl [2, 3] rfl)
  · replace hf := gneg hf h20
    refine lv_aload_n hx hb (D_42 W_prog_6_method_9_code_64 23 rfl rfl) rfl (lv_at hl 2 rfl) ?_
    refine lv_aload_n hx hb (D_43 W_prog_6_method_9_code_64 24 rfl rfl) rfl (lv_at hl 3 rfl) ?_
    refine lv_iconst (v := iI (-1)) hx hb (D_2 W_prog_6_method_9_code_64 25 rfl rfl) rfl ?_
    refine lv_aload_n hx hb (D_42 W_prog_6_method_9_code_64 26 rfl rfl) rfl (lv_at hl 2 rfl) ?_
    obtain ⟨g21, hf⟩ := gif hf
    refine zget (ci := 4) (C := RX4) (T := TX4) (v := .long (lI (F 4 l0 7))) (k := 7) hx hb hts inW_4 hown hK hZ g21.1 g21.2 rfl (by decide) k_4_140 rfl (D_180 W_prog_6_method_9_code_64 27 rfl rfl rfl) ?_
    refine lv_lload_n hx hb (D_32 W_prog_6_method_9_code_64 30 rfl rfl) rfl (lv_at hl 1 rfl) ?_
    refine lv_lload hx hb (D_22 W_prog_6_method_9_code_64 31 rfl rfl) (lv_at hl 0 rfl) ?_
    refine zlsub hx hb (D_101 W_prog_6_method_9_code_96 1 rfl rfl) ?_
    obtain ⟨r22, F22, B22, hc22, hf⟩ := gbind hf
    refine va_callv (va_runV (As := [.ref (ad 6 l1 0), .int (iI (-1)), .long (lI (F 4 l0 7)), .long (lI (l2 - s0))]) (rest := []) ⟨hx, hb, hml, hown, hts⟩ (c_Part_cut (l := l) hc22) (cwV 4 hts (gdV k_5_53 k_5_55 ks_49 k_1_18 k_5_56) rfl rfl rfl (by decide +kernel) ⟨Nat.le_of_ble_eq_true rfl, Nat.le_of_ble_eq_true rfl⟩) (zPV X hZ hS (ci := 4) g21.1 g21.2 (r := (RX4, TX4, 13)) rfl [.ref (ad 6 l1 0), .int (iI (-1)), .long (lI (F 4 l0 7)), .long (lI (l2 - s0))]) rfl rfl hl.1 rfl (lv_room (Nat.le_of_ble_eq_true rfl)) (D_182 W_prog_6_method_9_code_96 2 rfl rfl rfl) ⟨Nat.le_of_ble_eq_true rfl, Nat.le_of_ble_eq_true rfl⟩) hS (fun q _ h => zAin X hS q h) (zAin X hS) (fun u22 t22 H22 locs22 ht22 hv22 hw22 hB22 hz22 hk22 hS22 => ?_)
    have hZ22 := zBack X ht22 hB22
    exact b_Part_writeNotes_101 X hf hZ22 hS22 (lv_sub hl [2, 3] rfl)

def f_Part_writeNotes_57 (K : zK) (l0 : Int) (l1 : Int) (F : zF) (B : zB) : zO := if 0 ≤ l1 ∧ l1 < K.2 6 then zbind (f_Piece_barLength K l1 F B) (fun r14 F14 B14 => if r64 r14 then (if (zcmp r14 0) ≤ 0 then f_Part_writeNotes_78 K r14 l0 l1 0 F14 B14 else if 0 ≤ l0 ∧ l0 < K.2 4 then if ¬ lI r14 = 0 then f_Part_writeNotes_78 K r14 l0 l1 (zlrm (F14 4 l0 7) r14) F14 B14 else none else none) else none) else none
set_option maxHeartbeats 4000000 in
set_option maxRecDepth 100000 in
theorem b_Part_writeNotes_57 {D : va_G} {ca : Nat → ClassId} {ad : Nat → Int → Nat → Nat} {L : List Nat} {aS vS : Nat → Nat} {A : Nat → Prop} {p : Program} {l : Launch} {e : Env} {s : State} {m : MethodId} {args : Array Value} {below : List Frame} {meth : Method} {c : Code} {K : zK} {r : Int} {F9 : zF} {B9 : zB} (X : zX D ca L aS vS A p s m args meth c prog_6_method_9_code 6 (Option.none : Option Jvm.ClassFile.FieldType) "StaveHouse$Part") {l0 : Int} {l1 : Int} {F : zF} {B : zB} {H : Heap} {locs : List Loc} {ls : Array Slot} (hf : f_Part_writeNotes_57 K l0 l1 F B = some (r, F9, B9)) (hZ : zH D ca ad lnC K.2 L F B A H) (hS : va_S A s.heap H locs) (hl : lv_has ls 6 [(0, .ref (ad 4 l0 0)), (1, .ref (ad 6 l1 0))]) : W p l e ({ frames := 5, cells := 0, slots := 0, locals := 143 } : Room) s m args below meth c H locs 0 0 (MQ below (Q_Part_writeNotes K D ca ad L r F9 B9 A) args s 0 0 A) (F0 m 57 ls []) := by
  obtain ⟨hx, hb, hr, hml, hown, hts, hlk, hK, hA, hL, hX⟩ := id X
  replace hf : (if 0 ≤ l1 ∧ l1 < K.2 6 then zbind (f_Piece_barLength K l1 F B) (fun r14 F14 B14 => if r64 r14 then (if (zcmp r14 0) ≤ 0 then f_Part_writeNotes_78 K r14 l0 l1 0 F14 B14 else if 0 ≤ l0 ∧ l0 < K.2 4 then if ¬ lI r14 = 0 then f_Part_writeNotes_78 K r14 l0 l1 (zlrm (F14 4 l0 7) r14) F14 B14 else none else none) else none) else none) = some (r, F9, B9) := hf
  refine lv_aload_n hx hb (D_43 W_prog_6_method_9_code_32 25 rfl rfl) rfl (lv_at hl 1 rfl) ?_
  obtain ⟨g13, hf⟩ := gif hf
  obtain ⟨r14, F14, B14, hc14, hf⟩ := gbind hf
  refine va_calll (va_runV (As := []) (rest := []) ⟨hx, hb, hml, hown, hts⟩ (c_Piece_barLength (l := l) hc14) (cwV 0 hts (gdV k_5_31 k_4_190 k_4_191 k_1_15 k_4_192) rfl rfl rfl (by decide +kernel) ⟨Nat.le_of_ble_eq_true rfl, Nat.le_of_ble_eq_true rfl⟩) (zPV X hZ hS (ci := 6) g13.1 g13.2 (r := (RX6, TX6, 14)) rfl []) rfl rfl hl.1 rfl (lv_room (Nat.le_of_ble_eq_true rfl)) (D_182 W_prog_6_method_9_code_32 26 rfl rfl rfl) ⟨Nat.le_of_ble_eq_true rfl, Nat.le_of_ble_eq_true rfl⟩) hS (fun q _ h => zAin X hS q h) (zAin X hS) (fun p14 u14 t14 H14 locs14 ht14 hv14 hw14 hB14 hz14 hk14 hS14 => ?_)
  have hZ14 := zBack X ht14 hB14
  subst hw14
  refine lv_lstore_n (lv' := [(2, .long (lI r14)), (0, .ref (ad 4 l0 0)), (1, .ref (ad 6 l1 0))]) hx hb (D_65 W_prog_6_method_9_code_32 29 rfl rfl) rfl hl (by decide) rfl (fun ls hl => ?_)
  refine lv_lload_n hx hb (D_32 W_prog_6_method_9_code_32 30 rfl rfl) rfl (lv_at hl 0 rfl) ?_
  refine lv_lconst (v := lI 0) hx hb (D_9 W_prog_6_method_9_code_32 31 rfl rfl) (by decide) ?_
  obtain ⟨g15, hf⟩ := gif hf
  refine zcmp_r hx hb g15 (by decide) (D_148 W_prog_6_method_9_code_64 0 rfl rfl) ?_
  refine z0le (tgt := 77) hx hb zcmp_32 (D_158 W_prog_6_method_9_code_64 1 rfl rfl rfl) (by decide) (fun h16 => ?_) (fun h16 => ?_)
  · replace hf := gpos hf h16
    refine lv_lconst (v := lI 0) hx hb (D_9 W_prog_6_method_9_code_64 13 rfl rfl) (by decide) ?_
    exact b_Part_writeNotes_78 X hf hZ14 hS14 (lv_sub hl [0, 1, 2] rfl)
  · replace hf := gneg hf h16
    refine lv_aload_n hx hb (D_42 W_prog_6_method_9_code_64 4 rfl rfl) rfl (lv_at hl 1 rfl) ?_
    obtain ⟨g17, hf⟩ := gif hf
    refine zget (ci := 4) (C := RX4) (T := TX4) (v := .long (lI (F14 4 l0 7))) (k := 7) hx hb hts inW_4 hown hK hZ14 g17.1 g17.2 rfl (by decide) k_4_140 rfl (D_180 W_prog_6_method_9_code_64 5 rfl rfl rfl) ?_
    refine lv_lload_n hx hb (D_32 W_prog_6_method_9_code_64 8 rfl rfl) rfl (lv_at hl 0 rfl) ?_
    obtain ⟨g18, hf⟩ := gif hf
    refine zlrm_r hx hb g18 (D_113 W_prog_6_method_9_code_64 9 rfl rfl) ?_
    refine lv_goto (tgt := 78) hx hb (D_167 W_prog_6_method_9_code_64 10 rfl rfl rfl) (by decide) ?_
    exact b_Part_writeNotes_78 X hf hZ14 hS14 (lv_sub hl [0, 1, 2] rfl)

def f_Part_writeNotes_12 (K : zK) : Nat → Int → Int → Int → zF → zB → zO
  | 0, _, _, _, _, _ => none
  | n + 1, l2, l0, l1, F, B => if 0 ≤ l0 ∧ l0 < K.2 4 then if r32 l2 then if r32 (F 4 l0 6) then (if (F 4 l0 6) ≤ l2 then f_Part_writeNotes_57 K l0 l1 F B else if r32 (F 4 l0 11) then (if (F 4 l0 11) = 0 then if 0 ≤ l2 ∧ l2 < 200 then if 0 ≤ (B 4 l0 5 l2) ∧ (B 4 l0 5 l2) < K.2 1 then zbind (f_Part_cut K l0 l1 l2 (F 1 (B 4 l0 5 l2) 0) (F 1 (B 4 l0 5 l2) 1) F B) (fun r12 F12 B12 => f_Part_writeNotes_12 K n (l2 + 1) l0 l1 F12 B12) else none else none else f_Part_writeNotes_57 K l0 l1 F B) else none) else none else none else none
set_option maxHeartbeats 4000000 in
set_option maxRecDepth 100000 in
theorem b_Part_writeNotes_12 {D : va_G} {ca : Nat → ClassId} {ad : Nat → Int → Nat → Nat} {L : List Nat} {aS vS : Nat → Nat} {A : Nat → Prop} {p : Program} {l : Launch} {e : Env} {s : State} {m : MethodId} {args : Array Value} {below : List Frame} {meth : Method} {c : Code} {K : zK} {r : Int} {F9 : zF} {B9 : zB} (X : zX D ca L aS vS A p s m args meth c prog_6_method_9_code 6 (Option.none : Option Jvm.ClassFile.FieldType) "StaveHouse$Part") : ∀ {n : Nat} {l2 : Int} {l0 : Int} {l1 : Int} {F : zF} {B : zB} {H : Heap} {locs : List Loc} {ls : Array Slot}, f_Part_writeNotes_12 K n l2 l0 l1 F B = some (r, F9, B9) → zH D ca ad lnC K.2 L F B A H → va_S A s.heap H locs → lv_has ls 6 [(2, .int (iI l2)), (0, .ref (ad 4 l0 0)), (1, .ref (ad 6 l1 0))] → W p l e ({ frames := 5, cells := 0, slots := 0, locals := 143 } : Room) s m args below meth c H locs 0 0 (MQ below (Q_Part_writeNotes K D ca ad L r F9 B9 A) args s 0 0 A) (F0 m 12 ls []) := by
  obtain ⟨hx, hb, hr, hml, hown, hts, hlk, hK, hA, hL, hX⟩ := id X
  intro n
  induction n with
  | zero =>
    intros
    rename_i hf _ _ _
    cases hf
  | succ n ih =>
    intro l2 l0 l1 F B H locs ls hf hZ hS hl
    replace hf : (if 0 ≤ l0 ∧ l0 < K.2 4 then if r32 l2 then if r32 (F 4 l0 6) then (if (F 4 l0 6) ≤ l2 then f_Part_writeNotes_57 K l0 l1 F B else if r32 (F 4 l0 11) then (if (F 4 l0 11) = 0 then if 0 ≤ l2 ∧ l2 < 200 then if 0 ≤ (B 4 l0 5 l2) ∧ (B 4 l0 5 l2) < K.2 1 then zbind (f_Part_cut K l0 l1 l2 (F 1 (B 4 l0 5 l2) 0) (F 1 (B 4 l0 5 l2) 1) F B) (fun r12 F12 B12 => f_Part_writeNotes_12 K n (l2 + 1) l0 l1 F12 B12) else none else none else f_Part_writeNotes_57 K l0 l1 F B) else none) else none else none else none) = some (r, F9, B9) := hf
    refine lv_iload_n hx hb (D_28 W_prog_6_method_9_code_0 12 rfl rfl) rfl (lv_at hl 0 rfl) ?_
    refine lv_aload_n hx hb (D_42 W_prog_6_method_9_code_0 13 rfl rfl) rfl (lv_at hl 1 rfl) ?_
    obtain ⟨g4, hf⟩ := gif hf
    refine zget (ci := 4) (C := RX4) (T := TX4) (v := .int (iI (F 4 l0 6))) (k := 6) hx hb hts inW_4 hown hK hZ g4.1 g4.2 rfl (by decide) k_4_135 rfl (D_180 W_prog_6_method_9_code_0 14 rfl rfl rfl) ?_
    obtain ⟨g5, hf⟩ := gif hf
    obtain ⟨g6, hf⟩ := gif hf
    refine zge (tgt := 57) hx hb g5 g6 (D_162 W_prog_6_method_9_code_0 17 rfl rfl rfl) (by decide) (fun h7 => ?_) (fun h7 => ?_)
    · replace hf := gpos hf h7
      exact b_Part_writeNotes_57 X hf hZ hS (lv_sub hl [1, 2] rfl)
    · replace hf := gneg hf h7
      refine lv_aload_n hx hb (D_42 W_prog_6_method_9_code_0 20 rfl rfl) rfl (lv_at hl 1 rfl) ?_
      refine zget (ci := 4) (C := RX4) (T := TX4) (v := .int (iI (F 4 l0 11))) (k := 11) hx hb hts inW_4 hown hK hZ g4.1 g4.2 rfl (by decide) k_4_151 rfl (D_180 W_prog_6_method_9_code_0 21 rfl rfl rfl) ?_
      obtain ⟨g8, hf⟩ := gif hf
      refine z0ne (tgt := 57) hx hb g8 (D_154 W_prog_6_method_9_code_0 24 rfl rfl rfl) (by decide) (fun h9 => ?_) (fun h9 => ?_)
      · replace hf := gneg hf h9
        exact b_Part_writeNotes_57 X hf hZ hS (lv_sub hl [1, 2] rfl)
      · replace hf := gpos hf h9
        refine lv_aload_n hx hb (D_42 W_prog_6_method_9_code_0 27 rfl rfl) rfl (lv_at hl 1 rfl) ?_
        refine lv_aload_n hx hb (D_43 W_prog_6_method_9_code_0 28 rfl rfl) rfl (lv_at hl 2 rfl) ?_
        refine lv_iload_n hx hb (D_28 W_prog_6_method_9_code_0 29 rfl rfl) rfl (lv_at hl 0 rfl) ?_
        refine lv_aload_n hx hb (D_42 W_prog_6_method_9_code_0 30 rfl rfl) rfl (lv_at hl 1 rfl) ?_
        refine zget (ci := 4) (C := RX4) (T := TX4) (v := .ref (ad 4 l0 (5 + 1))) (k := 5) hx hb hts inW_4 hown hK hZ g4.1 g4.2 rfl (by decide) k_4_130 rfl (D_180 W_prog_6_method_9_code_0 31 rfl rfl rfl) ?_
        refine lv_iload_n hx hb (D_28 W_prog_6_method_9_code_32 2 rfl rfl) rfl (lv_at hl 0 rfl) ?_
        obtain ⟨g10, hf⟩ := gif hf
        refine zaldR (t := 1) (x := 7) (ci := 4) (k := 5) hx hb hK rfl rfl hZ g4.1 g4.2 rfl (Nat.le_of_ble_eq_true rfl) g10.1 g10.2 (D_50 W_prog_6_method_9_code_32 3 rfl rfl) ?_
        obtain ⟨g11, hf⟩ := gif hf
        refine zunrf g11.1 ?_
        refine zget (ci := 1) (C := RX1) (T := TX1) (v := .long (lI (F 1 (B 4 l0 5 l2) 0))) (k := 0) hx hb hts inW_1 hown hK hZ g11.1 g11.2 rfl (by decide) k_2_21 rfl (D_180 W_prog_6_method_9_code_32 4 rfl rfl rfl) ?_
        refine lv_aload_n hx hb (D_42 W_prog_6_method_9_code_32 7 rfl rfl) rfl (lv_at hl 1 rfl) ?_
        refine zget (ci := 4) (C := RX4) (T := TX4) (v := .ref (ad 4 l0 (5 + 1))) (k := 5) hx hb hts inW_4 hown hK hZ g4.1 g4.2 rfl (by decide) k_4_130 rfl (D_180 W_prog_6_method_9_code_32 8 rfl rfl rfl) ?_
        refine lv_iload_n hx hb (D_28 W_prog_6_method_9_code_32 11 rfl rfl) rfl (lv_at hl 0 rfl) ?_
        refine zaldR (t := 1) (x := 7) (ci := 4) (k := 5) hx hb hK rfl rfl hZ g4.1 g4.2 rfl (Nat.le_of_ble_eq_true rfl) g10.1 g10.2 (D_50 W_prog_6_method_9_code_32 12 rfl rfl) ?_
        refine zunrf g11.1 ?_
        refine zget (ci := 1) (C := RX1) (T := TX1) (v := .long (lI (F 1 (B 4 l0 5 l2) 1))) (k := 1) hx hb hts inW_1 hown hK hZ g11.1 g11.2 rfl (by decide) k_2_24 rfl (D_180 W_prog_6_method_9_code_32 13 rfl rfl rfl) ?_
        obtain ⟨r12, F12, B12, hc12, hf⟩ := gbind hf
        refine va_callv (va_runV (As := [.ref (ad 6 l1 0), .int (iI l2), .long (lI (F 1 (B 4 l0 5 l2) 0)), .long (lI (F 1 (B 4 l0 5 l2) 1))]) (rest := []) ⟨hx, hb, hml, hown, hts⟩ (c_Part_cut (l := l) hc12) (cwV 4 hts (gdV k_5_53 k_5_55 ks_49 k_1_18 k_5_56) rfl rfl rfl (by decide +kernel) ⟨Nat.le_of_ble_eq_true rfl, Nat.le_of_ble_eq_true rfl⟩) (zPV X hZ hS (ci := 4) g4.1 g4.2 (r := (RX4, TX4, 13)) rfl [.ref (ad 6 l1 0), .int (iI l2), .long (lI (F 1 (B 4 l0 5 l2) 0)), .long (lI (F 1 (B 4 l0 5 l2) 1))]) rfl rfl hl.1 rfl (lv_room (Nat.le_of_ble_eq_true rfl)) (D_182 W_prog_6_method_9_code_32 16 rfl rfl rfl) ⟨Nat.le_of_ble_eq_true rfl, Nat.le_of_ble_eq_true rfl⟩) hS (fun q _ h => zAin X hS q h) (zAin X hS) (fun u12 t12 H12 locs12 ht12 hv12 hw12 hB12 hz12 hk12 hS12 => ?_)
        have hZ12 := zBack X ht12 hB12
        refine lv_iinc (v := iI (l2 + 1)) (lv' := [(2, .int (iI (l2 + 1))), (0, .ref (ad 4 l0 0)), (1, .ref (ad 6 l1 0))]) hx hb d_6_9_51 hl (k := 0) rfl (iI_add _ 1) (by decide) rfl (fun ls hl => ?_)
        refine lv_goto (tgt := 12) hx hb (D_167 W_prog_6_method_9_code_32 22 rfl rfl rfl) (by decide) ?_
        exact ih hf hZ12 hS12 (lv_sub hl [0, 1, 2] rfl)

def f_Part_writeNotes (K : zK) (l0 : Int) (l1 : Int) (F : zF) (B : zB) : zO := if 0 ≤ l0 ∧ l0 < K.2 4 then f_Part_writeNotes_12 K K.1 0 l0 l1 (zup3 (zup3 F 4 l0 10 0) 4 l0 11 0) B else none
set_option maxHeartbeats 4000000 in
set_option maxRecDepth 100000 in
theorem c_Part_writeNotes {l : Launch} {D : va_G} {ca : Nat → ClassId} {ad : Nat → Int → Nat → Nat} {L : List Nat} {aS vS : Nat → Nat} {sz : Nat} {K : zK}  {l0 : Int} {l1 : Int} {F F9 : zF} {B B9 : zB} {r : Int} (hf : f_Part_writeNotes K l0 l1 F B = some (r, F9, B9)) : Met l ({ cls := "StaveHouse$Part", name := "writeNotes", desc := "(LStaveHouse$Piece;)V" } : Jvm.MethodName) (Cond.code ({ cls := "StaveHouse$Part", name := "writeNotes", desc := "(LStaveHouse$Piece;)V" } : Jvm.MethodName) prog_6_method_9_code 6 (Option.none : Option Jvm.ClassFile.FieldType) :: wAll) ({ frames := 5, cells := 0, slots := 0, locals := 143 } : Room) (va_Pc [.ref (ad 4 l0 0), .ref (ad 6 l1 0)] (zPre D ca ad lnC K.2 L aS vS F B sz)) (Q_Part_writeNotes K D ca ad L r F9 B9 (zA L sz)) 0 0 (zA L sz) := by
  refine zMet (Qc := Q_Part_writeNotes K D ca ad L r F9 B9) (lv := [(0, .ref (ad 4 l0 0)), (1, .ref (ad 6 l1 0))]) (by decide) (Nat.le_of_ble_eq_true rfl) rfl (fun A p e s m below meth c ls X hZ hS hl => ?_)
  obtain ⟨hx, hb, hr, hml, hown, hts, hlk, hK, hA, hL, hX⟩ := id X
  replace hf : (if 0 ≤ l0 ∧ l0 < K.2 4 then f_Part_writeNotes_12 K K.1 0 l0 l1 (zup3 (zup3 F 4 l0 10 0) 4 l0 11 0) B else none) = some (r, F9, B9) := hf
  refine lv_aload_n hx hb (D_42 W_prog_6_method_9_code_0 0 rfl rfl) rfl (lv_at hl 0 rfl) ?_
  refine lv_iconst (v := iI 0) hx hb (D_3 W_prog_6_method_9_code_0 1 rfl rfl) rfl ?_
  obtain ⟨g1, hf⟩ := gif hf
  refine zput (ci := 4) (C := RX4) (T := TX4) (k := 10) (v := 0) (w := .int (iI 0)) hx hb hts inW_4 tyX4 tyX4_ok nmX4 hown hK hZ hS g1.1 g1.2 rfl (by decide) k_4_148 rfl (fun G h => congrArg (fun q => Value.int (iI q)) h) rfl rfl (zno (by decide)) (D_181 W_prog_6_method_9_code_0 2 rfl rfl rfl) (fun H2 locs2 hZ2 hS2 => ?_)
  refine lv_aload_n hx hb (D_42 W_prog_6_method_9_code_0 5 rfl rfl) rfl (lv_at hl 0 rfl) ?_
  refine lv_iconst (v := iI 0) hx hb (D_3 W_prog_6_method_9_code_0 6 rfl rfl) rfl ?_
  refine zput (ci := 4) (C := RX4) (T := TX4) (k := 11) (v := 0) (w := .int (iI 0)) hx hb hts inW_4 tyX4 tyX4_ok nmX4 hown hK hZ2 hS2 g1.1 g1.2 rfl (by decide) k_4_151 rfl (fun G h => congrArg (fun q => Value.int (iI q)) h) rfl rfl (zno (by decide)) (D_181 W_prog_6_method_9_code_0 7 rfl rfl rfl) (fun H3 locs3 hZ3 hS3 => ?_)
  refine lv_iconst (v := iI 0) hx hb (D_3 W_prog_6_method_9_code_0 10 rfl rfl) rfl ?_
  refine lv_istore_n (lv' := [(2, .int (iI 0)), (0, .ref (ad 4 l0 0)), (1, .ref (ad 6 l1 0))]) hx hb (D_61 W_prog_6_method_9_code_0 11 rfl rfl) rfl hl (by decide) rfl (fun ls hl => ?_)
  exact b_Part_writeNotes_12 X hf hZ3 hS3 (lv_sub hl [0, 1, 2] rfl)

