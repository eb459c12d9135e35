theorem k_8_207 : (Jvm.Cond.methodLink "StaveHouse$Scribe" (196 : Nat) ({ cls := "StaveHouse$Event", name := "isRest", desc := "()Z" } : Jvm.MethodName)) ∈ wAll := wA_8 (j := 207) rfl rfl
theorem k_3_38 : (Jvm.Cond.methodLink "StaveHouse$Tokens" (32 : Nat) ({ cls := "StaveHouse$Tokens", name := "isBlank", desc := "(I)Z" } : Jvm.MethodName)) ∈ wAll := wA_3 (j := 38) rfl rfl
theorem k_3_39 : (Jvm.Cond.static ({ cls := "StaveHouse$Tokens", name := "isBlank", desc := "(I)Z" } : Jvm.MethodName)) ∈ wAll := wA_3 (j := 39) rfl rfl
theorem k_3_40 : (Jvm.Cond.code ({ cls := "StaveHouse$Tokens", name := "isBlank", desc := "(I)Z" } : Jvm.MethodName) prog_12_method_11_code (1 : Nat) (Option.some Jvm.ClassFile.FieldType.boolean)) ∈ wAll := wA_3 (j := 40) rfl rfl
theorem k_9_43 : (Jvm.Cond.methodLink "StaveHouse$Study" (139 : Nat) ({ cls := "StaveHouse$Study", name := "takeClasses", desc := "(LStaveHouse$Piece;I)V" } : Jvm.MethodName)) ∈ wAll := wA_9 (j := 43) rfl rfl
theorem k_9_45 : (Jvm.Cond.instanceMethod ({ cls := "StaveHouse$Study", name := "takeClasses", desc := "(LStaveHouse$Piece;I)V" } : Jvm.MethodName)) ∈ wAll := wA_9 (j := 45) rfl rfl
theorem ks_125 : (Jvm.Cond.selects "StaveHouse$Study" ({ cls := "StaveHouse$Study", name := "takeClasses", desc := "(LStaveHouse$Piece;I)V" } : Jvm.MethodName) ({ cls := "StaveHouse$Study", name := "takeClasses", desc := "(LStaveHouse$Piece;I)V" } : Jvm.MethodName)) ∈ wAll := wA_s (j := 125) rfl rfl
theorem k_9_46 : (Jvm.Cond.code ({ cls := "StaveHouse$Study", name := "takeClasses", desc := "(LStaveHouse$Piece;I)V" } : Jvm.MethodName) prog_11_method_13_code (6 : Nat) (Option.none : Option Jvm.ClassFile.FieldType)) ∈ wAll := wA_9 (j := 46) rfl rfl
theorem k_3_50 : (Jvm.Cond.methodLink "StaveHouse$Tokens" (39 : Nat) ({ cls := "StaveHouse$Tokens", name := "runEnd", desc := "(LStaveHouse$ByteRow;I)I" } : Jvm.MethodName)) ∈ wAll := wA_3 (j := 50) rfl rfl
theorem k_3_51 : (Jvm.Cond.static ({ cls := "StaveHouse$Tokens", name := "runEnd", desc := "(LStaveHouse$ByteRow;I)I" } : Jvm.MethodName)) ∈ wAll := wA_3 (j := 51) rfl rfl
theorem k_3_52 : (Jvm.Cond.code ({ cls := "StaveHouse$Tokens", name := "runEnd", desc := "(LStaveHouse$ByteRow;I)I" } : Jvm.MethodName) prog_12_method_6_code (3 : Nat) (Option.some Jvm.ClassFile.FieldType.int)) ∈ wAll := wA_3 (j := 52) rfl rfl
theorem k_4_1 : (Jvm.Cond.methodLink "StaveHouse$Parser" (281 : Nat) ({ cls := "StaveHouse$Parser", name := "takeChord", desc := "(I)Z" } : Jvm.MethodName)) ∈ wAll := wA_4 (j := 1) rfl rfl
theorem k_4_3 : (Jvm.Cond.instanceMethod ({ cls := "StaveHouse$Parser", name := "takeChord", desc := "(I)Z" } : Jvm.MethodName)) ∈ wAll := wA_4 (j := 3) rfl rfl
theorem ks_17 : (Jvm.Cond.selects "StaveHouse$Parser" ({ cls := "StaveHouse$Parser", name := "takeChord", desc := "(I)Z" } : Jvm.MethodName) ({ cls := "StaveHouse$Parser", name := "takeChord", desc := "(I)Z" } : Jvm.MethodName)) ∈ wAll := wA_s (j := 17) rfl rfl
theorem k_4_4 : (Jvm.Cond.code ({ cls := "StaveHouse$Parser", name := "takeChord", desc := "(I)Z" } : Jvm.MethodName) prog_5_method_25_code (3 : Nat) (Option.some Jvm.ClassFile.FieldType.boolean)) ∈ wAll := wA_4 (j := 4) rfl rfl
theorem k_4_5 : (Jvm.Cond.methodLink "StaveHouse$Parser" (284 : Nat) ({ cls := "StaveHouse$Parser", name := "takeLength", desc := "()Z" } : Jvm.MethodName)) ∈ wAll := wA_4 (j := 5) rfl rfl
theorem k_4_7 : (Jvm.Cond.instanceMethod ({ cls := "StaveHouse$Parser", name := "takeLength", desc := "()Z" } : Jvm.MethodName)) ∈ wAll := wA_4 (j := 7) rfl rfl
theorem ks_18 : (Jvm.Cond.selects "StaveHouse$Parser" ({ cls := "StaveHouse$Parser", name := "takeLength", desc := "()Z" } : Jvm.MethodName) ({ cls := "StaveHouse$Parser", name := "takeLength", desc := "()Z" } : Jvm.MethodName)) ∈ wAll := wA_s (j := 18) rfl rfl
theorem k_4_8 : (Jvm.Cond.code ({ cls := "StaveHouse$Parser", name := "takeLength", desc := "()Z" } : Jvm.MethodName) prog_5_method_26_code (4 : Nat) (Option.some Jvm.ClassFile.FieldType.boolean)) ∈ wAll := wA_4 (j := 8) rfl rfl
theorem k_8_88 : (Jvm.Cond.methodLink "StaveHouse$SoundFile" (139 : Nat) ({ cls := "StaveHouse$SoundFile", name := "loadMeta", desc := "()V" } : Jvm.MethodName)) ∈ wAll := wA_8 (j := 88) rfl rfl
theorem k_8_90 : (Jvm.Cond.instanceMethod ({ cls := "StaveHouse$SoundFile", name := "loadMeta", desc := "()V" } : Jvm.MethodName)) ∈ wAll := wA_8 (j := 90) rfl rfl
theorem ks_103 : (Jvm.Cond.selects "StaveHouse$SoundFile" ({ cls := "StaveHouse$SoundFile", name := "loadMeta", desc := "()V" } : Jvm.MethodName) ({ cls := "StaveHouse$SoundFile", name := "loadMeta", desc := "()V" } : Jvm.MethodName)) ∈ wAll := wA_s (j := 103) rfl rfl
theorem k_8_91 : (Jvm.Cond.code ({ cls := "StaveHouse$SoundFile", name := "loadMeta", desc := "()V" } : Jvm.MethodName) prog_10_method_18_code (6 : Nat) (Option.none : Option Jvm.ClassFile.FieldType)) ∈ wAll := wA_8 (j := 91) rfl rfl
theorem k_8_113 : (Jvm.Cond.methodLink "StaveHouse$SoundFile" (145 : Nat) ({ cls := "StaveHouse$SoundFile", name := "loadMessage", desc := "(III)V" } : Jvm.MethodName)) ∈ wAll := wA_8 (j := 113) rfl rfl
theorem k_8_115 : (Jvm.Cond.instanceMethod ({ cls := "StaveHouse$SoundFile", name := "loadMessage", desc := "(III)V" } : Jvm.MethodName)) ∈ wAll := wA_8 (j := 115) rfl rfl
theorem ks_108 : (Jvm.Cond.selects "StaveHouse$SoundFile" ({ cls := "StaveHouse$SoundFile", name := "loadMessage", desc := "(III)V" } : Jvm.MethodName) ({ cls := "StaveHouse$SoundFile", name := "loadMessage", desc := "(III)V" } : Jvm.MethodName)) ∈ wAll := wA_s (j := 108) rfl rfl
theorem k_8_116 : (Jvm.Cond.code ({ cls := "StaveHouse$SoundFile", name := "loadMessage", desc := "(III)V" } : Jvm.MethodName) prog_10_method_15_code (6 : Nat) (Option.none : Option Jvm.ClassFile.FieldType)) ∈ wAll := wA_8 (j := 116) rfl rfl
theorem k_8_172 : (Jvm.Cond.methodLink "StaveHouse$Scribe" (137 : Nat) ({ cls := "StaveHouse$ByteRow", name := "putText", desc := "(Ljava/lang/String;)V" } : Jvm.MethodName)) ∈ wAll := wA_8 (j := 172) rfl rfl
theorem k_8_174 : (Jvm.Cond.methodLink "StaveHouse$Scribe" (144 : Nat) ({ cls := "StaveHouse$ByteRow", name := "putDecimal", desc := "(I)V" } : Jvm.MethodName)) ∈ wAll := wA_8 (j := 174) rfl rfl
theorem k_8_175 : (Jvm.Cond.instanceMethod ({ cls := "StaveHouse$ByteRow", name := "putDecimal", desc := "(I)V" } : Jvm.MethodName)) ∈ wAll := wA_8 (j := 175) rfl rfl
theorem k_8_176 : (Jvm.Cond.selects "StaveHouse$ByteRow" ({ cls := "StaveHouse$ByteRow", name := "putDecimal", desc := "(I)V" } : Jvm.MethodName) ({ cls := "StaveHouse$ByteRow", name := "putDecimal", desc := "(I)V" } : Jvm.MethodName)) ∈ wAll := wA_8 (j := 176) rfl rfl
theorem k_8_177 : (Jvm.Cond.code ({ cls := "StaveHouse$ByteRow", name := "putDecimal", desc := "(I)V" } : Jvm.MethodName) prog_2_method_6_code (4 : Nat) (Option.none : Option Jvm.ClassFile.FieldType)) ∈ wAll := wA_8 (j := 177) rfl rfl
theorem k_2_61 : (Jvm.Cond.fieldLink "StaveHouse$Scribe" (206 : Nat) "StaveHouse$Event" "steps" "[I") ∈ wAll := wA_2 (j := 61) rfl rfl
theorem k_2_67 : (Jvm.Cond.fieldLink "StaveHouse$Scribe" (209 : Nat) "StaveHouse$Event" "alterations" "[I") ∈ wAll := wA_2 (j := 67) rfl rfl
theorem k_8_211 : (Jvm.Cond.methodLink "StaveHouse$Scribe" (212 : Nat) ({ cls := "StaveHouse$Scribe", name := "writePitch", desc := "(II)V" } : Jvm.MethodName)) ∈ wAll := wA_8 (j := 211) rfl rfl
theorem k_8_213 : (Jvm.Cond.instanceMethod ({ cls := "StaveHouse$Scribe", name := "writePitch", desc := "(II)V" } : Jvm.MethodName)) ∈ wAll := wA_8 (j := 213) rfl rfl
theorem ks_120 : (Jvm.Cond.selects "StaveHouse$Scribe" ({ cls := "StaveHouse$Scribe", name := "writePitch", desc := "(II)V" } : Jvm.MethodName) ({ cls := "StaveHouse$Scribe", name := "writePitch", desc := "(II)V" } : Jvm.MethodName)) ∈ wAll := wA_s (j := 120) rfl rfl
theorem k_8_214 : (Jvm.Cond.code ({ cls := "StaveHouse$Scribe", name := "writePitch", desc := "(II)V" } : Jvm.MethodName) prog_9_method_14_code (4 : Nat) (Option.none : Option Jvm.ClassFile.FieldType)) ∈ wAll := wA_8 (j := 214) rfl rfl
theorem k_9_2 : (Jvm.Cond.methodLink "StaveHouse$Performance" (279 : Nat) ({ cls := "StaveHouse$Performance", name := "mixSound", desc := "(LStaveHouse$Piece;II)V" } : Jvm.MethodName)) ∈ wAll := wA_9 (j := 2) rfl rfl
theorem k_9_4 : (Jvm.Cond.instanceMethod ({ cls := "StaveHouse$Performance", name := "mixSound", desc := "(LStaveHouse$Piece;II)V" } : Jvm.MethodName)) ∈ wAll := wA_9 (j := 4) rfl rfl
theorem ks_123 : (Jvm.Cond.selects "StaveHouse$Performance" ({ cls := "StaveHouse$Performance", name := "mixSound", desc := "(LStaveHouse$Piece;II)V" } : Jvm.MethodName) ({ cls := "StaveHouse$Performance", name := "mixSound", desc := "(LStaveHouse$Piece;II)V" } : Jvm.MethodName)) ∈ wAll := wA_s (j := 123) rfl rfl
theorem k_9_5 : (Jvm.Cond.code ({ cls := "StaveHouse$Performance", name := "mixSound", desc := "(LStaveHouse$Piece;II)V" } : Jvm.MethodName) prog_7_method_25_code (15 : Nat) (Option.none : Option Jvm.ClassFile.FieldType)) ∈ wAll := wA_9 (j := 5) rfl rfl
theorem k_6_71 : (Jvm.Cond.fieldLink "StaveHouse$Performance" (11 : Nat) "StaveHouse$Performance" "heardRow" "[I") ∈ wAll := wA_6 (j := 71) rfl rfl
theorem k_6_73 : (Jvm.Cond.fieldLink "StaveHouse$Performance" (15 : Nat) "StaveHouse$Performance" "codeRow" "[I") ∈ wAll := wA_6 (j := 73) rfl rfl
theorem k_9_22 : (Jvm.Cond.methodLink "StaveHouse$Performance" (282 : Nat) ({ cls := "StaveHouse$Performance", name := "nextCode", desc := "()I" } : Jvm.MethodName)) ∈ wAll := wA_9 (j := 22) rfl rfl
theorem k_9_24 : (Jvm.Cond.instanceMethod ({ cls := "StaveHouse$Performance", name := "nextCode", desc := "()I" } : Jvm.MethodName)) ∈ wAll := wA_9 (j := 24) rfl rfl
theorem ks_124 : (Jvm.Cond.selects "StaveHouse$Performance" ({ cls := "StaveHouse$Performance", name := "nextCode", desc := "()I" } : Jvm.MethodName) ({ cls := "StaveHouse$Performance", name := "nextCode", desc := "()I" } : Jvm.MethodName)) ∈ wAll := wA_s (j := 124) rfl rfl
theorem k_9_25 : (Jvm.Cond.code ({ cls := "StaveHouse$Performance", name := "nextCode", desc := "()I" } : Jvm.MethodName) prog_7_method_30_code (7 : Nat) (Option.some Jvm.ClassFile.FieldType.int)) ∈ wAll := wA_9 (j := 25) rfl rfl
theorem k_9_48 : (Jvm.Cond.methodLink "StaveHouse$Study" (147 : Nat) ({ cls := "StaveHouse$Study", name := "chordKind", desc := "(I)I" } : Jvm.MethodName)) ∈ wAll := wA_9 (j := 48) rfl rfl
theorem k_9_50 : (Jvm.Cond.instanceMethod ({ cls := "StaveHouse$Study", name := "chordKind", desc := "(I)I" } : Jvm.MethodName)) ∈ wAll := wA_9 (j := 50) rfl rfl
theorem ks_126 : (Jvm.Cond.selects "StaveHouse$Study" ({ cls := "StaveHouse$Study", name := "chordKind", desc := "(I)I" } : Jvm.MethodName) ({ cls := "StaveHouse$Study", name := "chordKind", desc := "(I)I" } : Jvm.MethodName)) ∈ wAll := wA_s (j := 126) rfl rfl
theorem k_9_51 : (Jvm.Cond.code ({ cls := "StaveHouse$Study", name := "chordKind", desc := "(I)I" } : Jvm.MethodName) prog_11_method_15_code (4 : Nat) (Option.some Jvm.ClassFile.FieldType.int)) ∈ wAll := wA_9 (j := 51) rfl rfl
theorem k_9_65 : (Jvm.Cond.methodLink "StaveHouse$Study" (153 : Nat) ({ cls := "StaveHouse$Study", name := "bassLetter", desc := "(LStaveHouse$Piece;I)I" } : Jvm.MethodName)) ∈ wAll := wA_9 (j := 65) rfl rfl
theorem k_9_67 : (Jvm.Cond.instanceMethod ({ cls := "StaveHouse$Study", name := "bassLetter", desc := "(LStaveHouse$Piece;I)I" } : Jvm.MethodName)) ∈ wAll := wA_9 (j := 67) rfl rfl
theorem ks_129 : (Jvm.Cond.selects "StaveHouse$Study" ({ cls := "StaveHouse$Study", name := "bassLetter", desc := "(LStaveHouse$Piece;I)I" } : Jvm.MethodName) ({ cls := "StaveHouse$Study", name := "bassLetter", desc := "(LStaveHouse$Piece;I)I" } : Jvm.MethodName)) ∈ wAll := wA_s (j := 129) rfl rfl
theorem k_9_68 : (Jvm.Cond.code ({ cls := "StaveHouse$Study", name := "bassLetter", desc := "(LStaveHouse$Piece;I)I" } : Jvm.MethodName) prog_11_method_17_code (9 : Nat) (Option.some Jvm.ClassFile.FieldType.int)) ∈ wAll := wA_9 (j := 68) rfl rfl
theorem k_9_69 : (Jvm.Cond.methodLink "StaveHouse$Study" (157 : Nat) ({ cls := "StaveHouse$Study", name := "tonic", desc := "(LStaveHouse$Piece;)I" } : Jvm.MethodName)) ∈ wAll := wA_9 (j := 69) rfl rfl
theorem k_9_70 : (Jvm.Cond.static ({ cls := "StaveHouse$Study", name := "tonic", desc := "(LStaveHouse$Piece;)I" } : Jvm.MethodName)) ∈ wAll := wA_9 (j := 70) rfl rfl
theorem k_9_71 : (Jvm.Cond.code ({ cls := "StaveHouse$Study", name := "tonic", desc := "(LStaveHouse$Piece;)I" } : Jvm.MethodName) prog_11_method_18_code (1 : Nat) (Option.some Jvm.ClassFile.FieldType.int)) ∈ wAll := wA_9 (j := 71) rfl rfl
theorem k_9_72 : (Jvm.Cond.methodLink "StaveHouse$Study" (161 : Nat) ({ cls := "StaveHouse$Study", name := "isForeign", desc := "(LStaveHouse$Piece;)Z" } : Jvm.MethodName)) ∈ wAll := wA_9 (j := 72) rfl rfl
theorem k_9_74 : (Jvm.Cond.instanceMethod ({ cls := "StaveHouse$Study", name := "isForeign", desc := "(LStaveHouse$Piece;)Z" } : Jvm.MethodName)) ∈ wAll := wA_9 (j := 74) rfl rfl
theorem ks_130 : (Jvm.Cond.selects "StaveHouse$Study" ({ cls := "StaveHouse$Study", name := "isForeign", desc := "(LStaveHouse$Piece;)Z" } : Jvm.MethodName) ({ cls := "StaveHouse$Study", name := "isForeign", desc := "(LStaveHouse$Piece;)Z" } : Jvm.MethodName)) ∈ wAll := wA_s (j := 130) rfl rfl
theorem k_9_75 : (Jvm.Cond.code ({ cls := "StaveHouse$Study", name := "isForeign", desc := "(LStaveHouse$Piece;)Z" } : Jvm.MethodName) prog_11_method_19_code (4 : Nat) (Option.some Jvm.ClassFile.FieldType.boolean)) ∈ wAll := wA_9 (j := 75) rfl rfl
theorem k_9_103 : (Jvm.Cond.methodLink "StaveHouse" (331 : Nat) ({ cls := "StaveHouse$Part", name := "hasShape", desc := "(ILStaveHouse$Part;III)Z" } : Jvm.MethodName)) ∈ wAll := wA_9 (j := 103) rfl rfl
theorem k_9_104 : (Jvm.Cond.instanceMethod ({ cls := "StaveHouse$Part", name := "hasShape", desc := "(ILStaveHouse$Part;III)Z" } : Jvm.MethodName)) ∈ wAll := wA_9 (j := 104) rfl rfl
theorem k_9_105 : (Jvm.Cond.selects "StaveHouse$Part" ({ cls := "StaveHouse$Part", name := "hasShape", desc := "(ILStaveHouse$Part;III)Z" } : Jvm.MethodName) ({ cls := "StaveHouse$Part", name := "hasShape", desc := "(ILStaveHouse$Part;III)Z" } : Jvm.MethodName)) ∈ wAll := wA_9 (j := 105) rfl rfl
theorem k_9_106 : (Jvm.Cond.code ({ cls := "StaveHouse$Part", name := "hasShape", desc := "(ILStaveHouse$Part;III)Z" } : Jvm.MethodName) prog_6_method_28_code (18 : Nat) (Option.some Jvm.ClassFile.FieldType.boolean)) ∈ wAll := wA_9 (j := 106) rfl rfl
theorem k_3_67 : (Jvm.Cond.methodLink "StaveHouse$Tokens" (49 : Nat) ({ cls := "java/lang/String", name := "indexOf", desc := "(I)I" } : Jvm.MethodName)) ∈ wAll := wA_3 (j := 67) rfl rfl
theorem k_3_53 : (Jvm.Cond.methodLink "StaveHouse$Tokens" (43 : Nat) ({ cls := "StaveHouse$Tokens", name := "keepRun", desc := "(LStaveHouse$ByteRow;III)V" } : Jvm.MethodName)) ∈ wAll := wA_3 (j := 53) rfl rfl
theorem k_3_55 : (Jvm.Cond.instanceMethod ({ cls := "StaveHouse$Tokens", name := "keepRun", desc := "(LStaveHouse$ByteRow;III)V" } : Jvm.MethodName)) ∈ wAll := wA_3 (j := 55) rfl rfl
theorem ks_1 : (Jvm.Cond.selects "StaveHouse$Tokens" ({ cls := "StaveHouse$Tokens", name := "keepRun", desc := "(LStaveHouse$ByteRow;III)V" } : Jvm.MethodName) ({ cls := "StaveHouse$Tokens", name := "keepRun", desc := "(LStaveHouse$ByteRow;III)V" } : Jvm.MethodName)) ∈ wAll := wA_s (j := 1) rfl rfl
theorem k_3_56 : (Jvm.Cond.code ({ cls := "StaveHouse$Tokens", name := "keepRun", desc := "(LStaveHouse$ByteRow;III)V" } : Jvm.MethodName) prog_12_method_7_code (8 : Nat) (Option.none : Option Jvm.ClassFile.FieldType)) ∈ wAll := wA_3 (j := 56) rfl rfl
theorem k_3_151 : (Jvm.Cond.methodLink "StaveHouse$Tokens" (57 : Nat) ({ cls := "StaveHouse$Tokens", name := "advance", desc := "()V" } : Jvm.MethodName)) ∈ wAll := wA_3 (j := 151) rfl rfl
theorem k_4_22 : (Jvm.Cond.methodLink "StaveHouse$Parser" (287 : Nat) ({ cls := "StaveHouse$Parser", name := "takeMarks", desc := "(I)V" } : Jvm.MethodName)) ∈ wAll := wA_4 (j := 22) rfl rfl
theorem k_4_24 : (Jvm.Cond.instanceMethod ({ cls := "StaveHouse$Parser", name := "takeMarks", desc := "(I)V" } : Jvm.MethodName)) ∈ wAll := wA_4 (j := 24) rfl rfl
theorem ks_20 : (Jvm.Cond.selects "StaveHouse$Parser" ({ cls := "StaveHouse$Parser", name := "takeMarks", desc := "(I)V" } : Jvm.MethodName) ({ cls := "StaveHouse$Parser", name := "takeMarks", desc := "(I)V" } : Jvm.MethodName)) ∈ wAll := wA_s (j := 20) rfl rfl
theorem k_4_25 : (Jvm.Cond.code ({ cls := "StaveHouse$Parser", name := "takeMarks", desc := "(I)V" } : Jvm.MethodName) prog_5_method_27_code (4 : Nat) (Option.none : Option Jvm.ClassFile.FieldType)) ∈ wAll := wA_4 (j := 25) rfl rfl
theorem k_5_53 : (Jvm.Cond.methodLink "StaveHouse$Part" (109 : Nat) ({ cls := "StaveHouse$Part", name := "cut", desc := "(LStaveHouse$Piece;IJJ)V" } : Jvm.MethodName)) ∈ wAll := wA_5 (j := 53) rfl rfl
theorem k_5_55 : (Jvm.Cond.instanceMethod ({ cls := "StaveHouse$Part", name := "cut", desc := "(LStaveHouse$Piece;IJJ)V" } : Jvm.MethodName)) ∈ wAll := wA_5 (j := 55) rfl rfl
theorem ks_49 : (Jvm.Cond.selects "StaveHouse$Part" ({ cls := "StaveHouse$Part", name := "cut", desc := "(LStaveHouse$Piece;IJJ)V" } : Jvm.MethodName) ({ cls := "StaveHouse$Part", name := "cut", desc := "(LStaveHouse$Piece;IJJ)V" } : Jvm.MethodName)) ∈ wAll := wA_s (j := 49) rfl rfl
theorem k_5_56 : (Jvm.Cond.code ({ cls := "StaveHouse$Part", name := "cut", desc := "(LStaveHouse$Piece;IJJ)V" } : Jvm.MethodName) prog_6_method_10_code (18 : Nat) (Option.none : Option Jvm.ClassFile.FieldType)) ∈ wAll := wA_5 (j := 56) rfl rfl
theorem k_5_100 : (Jvm.Cond.methodLink "StaveHouse$Part" (113 : Nat) ({ cls := "StaveHouse$Part", name := "hold", desc := "()V" } : Jvm.MethodName)) ∈ wAll := wA_5 (j := 100) rfl rfl
theorem k_5_102 : (Jvm.Cond.instanceMethod ({ cls := "StaveHouse$Part", name := "hold", desc := "()V" } : Jvm.MethodName)) ∈ wAll := wA_5 (j := 102) rfl rfl
theorem ks_53 : (Jvm.Cond.selects "StaveHouse$Part" ({ cls := "StaveHouse$Part", name := "hold", desc := "()V" } : Jvm.MethodName) ({ cls := "StaveHouse$Part", name := "hold", desc := "()V" } : Jvm.MethodName)) ∈ wAll := wA_s (j := 53) rfl rfl
theorem k_5_103 : (Jvm.Cond.code ({ cls := "StaveHouse$Part", name := "hold", desc := "()V" } : Jvm.MethodName) prog_6_method_16_code (3 : Nat) (Option.none : Option Jvm.ClassFile.FieldType)) ∈ wAll := wA_5 (j := 103) rfl rfl
theorem k_2_198 : (Jvm.Cond.fieldLink "StaveHouse$Part" (116 : Nat) "StaveHouse$Piece" "fifths" "I") ∈ wAll := wA_2 (j := 198) rfl rfl
theorem k_5_112 : (Jvm.Cond.methodLink "StaveHouse$Part" (119 : Nat) ({ cls := "StaveHouse$Part", name := "setAccidentals", desc := "(I)V" } : Jvm.MethodName)) ∈ wAll := wA_5 (j := 112) rfl rfl
theorem k_5_114 : (Jvm.Cond.instanceMethod ({ cls := "StaveHouse$Part", name := "setAccidentals", desc := "(I)V" } : Jvm.MethodName)) ∈ wAll := wA_5 (j := 114) rfl rfl
theorem ks_56 : (Jvm.Cond.selects "StaveHouse$Part" ({ cls := "StaveHouse$Part", name := "setAccidentals", desc := "(I)V" } : Jvm.MethodName) ({ cls := "StaveHouse$Part", name := "setAccidentals", desc := "(I)V" } : Jvm.MethodName)) ∈ wAll := wA_s (j := 56) rfl rfl
theorem k_5_115 : (Jvm.Cond.code ({ cls := "StaveHouse$Part", name := "setAccidentals", desc := "(I)V" } : Jvm.MethodName) prog_6_method_17_code (5 : Nat) (Option.none : Option Jvm.ClassFile.FieldType)) ∈ wAll := wA_5 (j := 115) rfl rfl
theorem k_5_130 : (Jvm.Cond.methodLink "StaveHouse$Part" (123 : Nat) ({ cls := "StaveHouse$Part", name := "setLedgers", desc := "()V" } : Jvm.MethodName)) ∈ wAll := wA_5 (j := 130) rfl rfl
theorem k_5_132 : (Jvm.Cond.instanceMethod ({ cls := "StaveHouse$Part", name := "setLedgers", desc := "()V" } : Jvm.MethodName)) ∈ wAll := wA_5 (j := 132) rfl rfl
theorem ks_58 : (Jvm.Cond.selects "StaveHouse$Part" ({ cls := "StaveHouse$Part", name := "setLedgers", desc := "()V" } : Jvm.MethodName) ({ cls := "StaveHouse$Part", name := "setLedgers", desc := "()V" } : Jvm.MethodName)) ∈ wAll := wA_s (j := 58) rfl rfl
theorem k_5_133 : (Jvm.Cond.code ({ cls := "StaveHouse$Part", name := "setLedgers", desc := "()V" } : Jvm.MethodName) prog_6_method_21_code (3 : Nat) (Option.none : Option Jvm.ClassFile.FieldType)) ∈ wAll := wA_5 (j := 133) rfl rfl
theorem k_5_144 : (Jvm.Cond.methodLink "StaveHouse$Part" (126 : Nat) ({ cls := "StaveHouse$Piece", name := "beatLength", desc := "()J" } : Jvm.MethodName)) ∈ wAll := wA_5 (j := 144) rfl rfl
theorem k_5_145 : (Jvm.Cond.instanceMethod ({ cls := "StaveHouse$Piece", name := "beatLength", desc := "()J" } : Jvm.MethodName)) ∈ wAll := wA_5 (j := 145) rfl rfl
theorem k_5_146 : (Jvm.Cond.selects "StaveHouse$Piece" ({ cls := "StaveHouse$Piece", name := "beatLength", desc := "()J" } : Jvm.MethodName) ({ cls := "StaveHouse$Piece", name := "beatLength", desc := "()J" } : Jvm.MethodName)) ∈ wAll := wA_5 (j := 146) rfl rfl
theorem k_5_147 : (Jvm.Cond.code ({ cls := "StaveHouse$Piece", name := "beatLength", desc := "()J" } : Jvm.MethodName) prog_8_method_6_code (1 : Nat) (Option.some Jvm.ClassFile.FieldType.long)) ∈ wAll := wA_5 (j := 147) rfl rfl
theorem k_5_149 : (Jvm.Cond.methodLink "StaveHouse$Part" (129 : Nat) ({ cls := "StaveHouse$Part", name := "group", desc := "(J)V" } : Jvm.MethodName)) ∈ wAll := wA_5 (j := 149) rfl rfl
theorem k_5_151 : (Jvm.Cond.instanceMethod ({ cls := "StaveHouse$Part", name := "group", desc := "(J)V" } : Jvm.MethodName)) ∈ wAll := wA_5 (j := 151) rfl rfl
theorem ks_61 : (Jvm.Cond.selects "StaveHouse$Part" ({ cls := "StaveHouse$Part", name := "group", desc := "(J)V" } : Jvm.MethodName) ({ cls := "StaveHouse$Part", name := "group", desc := "(J)V" } : Jvm.MethodName)) ∈ wAll := wA_s (j := 61) rfl rfl
theorem k_5_152 : (Jvm.Cond.code ({ cls := "StaveHouse$Part", name := "group", desc := "(J)V" } : Jvm.MethodName) prog_6_method_24_code (9 : Nat) (Option.none : Option Jvm.ClassFile.FieldType)) ∈ wAll := wA_5 (j := 152) rfl rfl
theorem k_5_162 : (Jvm.Cond.methodLink "StaveHouse$Part" (133 : Nat) ({ cls := "StaveHouse$Part", name := "setStems", desc := "()V" } : Jvm.MethodName)) ∈ wAll := wA_5 (j := 162) rfl rfl
theorem k_5_164 : (Jvm.Cond.instanceMethod ({ cls := "StaveHouse$Part", name := "setStems", desc := "()V" } : Jvm.MethodName)) ∈ wAll := wA_5 (j := 164) rfl rfl
theorem ks_64 : (Jvm.Cond.selects "StaveHouse$Part" ({ cls := "StaveHouse$Part", name := "setStems", desc := "()V" } : Jvm.MethodName) ({ cls := "StaveHouse$Part", name := "setStems", desc := "()V" } : Jvm.MethodName)) ∈ wAll := wA_s (j := 64) rfl rfl
theorem k_5_165 : (Jvm.Cond.code ({ cls := "StaveHouse$Part", name := "setStems", desc := "()V" } : Jvm.MethodName) prog_6_method_25_code (7 : Nat) (Option.none : Option Jvm.ClassFile.FieldType)) ∈ wAll := wA_5 (j := 165) rfl rfl
theorem W_prog_12_method_2_code_0 : chW prog_12_method_2_code 0 [3, 61, 3, 62, 3, 54, 4, 21, 4, 17, 11, 184, 162, 0, 123, 28, 43, 180, 0, 22, 162, 0, 115, 43, 28, 182, 0, 28, 54, 5, 21, 5, 184, 0, 32, 153] := chW_of (by decide +kernel)
theorem d_12_2_0 : decode prog_12_method_2_code 0 = .ok (.iconst 0, 1) := D_3 W_prog_12_method_2_code_0 0 rfl rfl
theorem d_12_2_1 : decode prog_12_method_2_code 1 = .ok (.istore_n 2, 1) := D_61 W_prog_12_method_2_code_0 1 rfl rfl
theorem d_12_2_2 : decode prog_12_method_2_code 2 = .ok (.iconst 0, 1) := D_3 W_prog_12_method_2_code_0 2 rfl rfl
theorem d_12_2_3 : decode prog_12_method_2_code 3 = .ok (.istore_n 3, 1) := D_62 W_prog_12_method_2_code_0 3 rfl rfl
theorem d_12_2_4 : decode prog_12_method_2_code 4 = .ok (.iconst 0, 1) := D_3 W_prog_12_method_2_code_0 4 rfl rfl
theorem d_12_2_5 : decode prog_12_method_2_code 5 = .ok (.istore 4, 2) := D_54 W_prog_12_method_2_code_0 5 rfl rfl
theorem d_12_2_7 : decode prog_12_method_2_code 7 = .ok (.iload 4, 2) := D_21 W_prog_12_method_2_code_0 7 rfl rfl
theorem d_12_2_9 : decode prog_12_method_2_code 9 = .ok (.sipush 3000, 3) := D_17 W_prog_12_method_2_code_0 9 rfl rfl rfl
theorem d_12_2_12 : decode prog_12_method_2_code 12 = .ok (.if_icmp .ge 123, 3) := D_162 W_prog_12_method_2_code_0 12 rfl rfl rfl
theorem d_12_2_15 : decode prog_12_method_2_code 15 = .ok (.iload_n 2, 1) := D_28 W_prog_12_method_2_code_0 15 rfl rfl
theorem d_12_2_16 : decode prog_12_method_2_code 16 = .ok (.aload_n 1, 1) := D_43 W_prog_12_method_2_code_0 16 rfl rfl
theorem d_12_2_17 : decode prog_12_method_2_code 17 = .ok (.getfield 22, 3) := D_180 W_prog_12_method_2_code_0 17 rfl rfl rfl
theorem d_12_2_20 : decode prog_12_method_2_code 20 = .ok (.if_icmp .ge 115, 3) := D_162 W_prog_12_method_2_code_0 20 rfl rfl rfl
theorem d_12_2_23 : decode prog_12_method_2_code 23 = .ok (.aload_n 1, 1) := D_43 W_prog_12_method_2_code_0 23 rfl rfl
theorem d_12_2_24 : decode prog_12_method_2_code 24 = .ok (.iload_n 2, 1) := D_28 W_prog_12_method_2_code_0 24 rfl rfl
theorem d_12_2_25 : decode prog_12_method_2_code 25 = .ok (.invokevirtual 28, 3) := D_182 W_prog_12_method_2_code_0 25 rfl rfl rfl
theorem W_prog_5_method_23_code_0 : chW prog_5_method_23_code 0 [42, 180, 0, 21, 27, 42, 180, 0, 63, 79, 42, 180, 0, 48, 180, 0, 108, 7, 160, 0, 7, 4, 167, 0, 4, 3, 61, 28, 153, 0, 13, 42, 180, 0, 48, 182] := chW_of (by decide +kernel)
theorem d_5_23_0 : decode prog_5_method_23_code 0 = .ok (.aload_n 0, 1) := D_42 W_prog_5_method_23_code_0 0 rfl rfl
theorem d_5_23_1 : decode prog_5_method_23_code 1 = .ok (.getfield 21, 3) := D_180 W_prog_5_method_23_code_0 1 rfl rfl rfl
theorem d_5_23_4 : decode prog_5_method_23_code 4 = .ok (.iload_n 1, 1) := D_27 W_prog_5_method_23_code_0 4 rfl rfl
theorem d_5_23_5 : decode prog_5_method_23_code 5 = .ok (.aload_n 0, 1) := D_42 W_prog_5_method_23_code_0 5 rfl rfl
theorem d_5_23_6 : decode prog_5_method_23_code 6 = .ok (.getfield 63, 3) := D_180 W_prog_5_method_23_code_0 6 rfl rfl rfl
theorem d_5_23_9 : decode prog_5_method_23_code 9 = .ok (.iastore, 1) := D_79 W_prog_5_method_23_code_0 9 rfl rfl
theorem d_5_23_10 : decode prog_5_method_23_code 10 = .ok (.aload_n 0, 1) := D_42 W_prog_5_method_23_code_0 10 rfl rfl
theorem d_5_23_11 : decode prog_5_method_23_code 11 = .ok (.getfield 48, 3) := D_180 W_prog_5_method_23_code_0 11 rfl rfl rfl
theorem d_5_23_14 : decode prog_5_method_23_code 14 = .ok (.getfield 108, 3) := D_180 W_prog_5_method_23_code_0 14 rfl rfl rfl
theorem d_5_23_17 : decode prog_5_method_23_code 17 = .ok (.iconst 4, 1) := D_7 W_prog_5_method_23_code_0 17 rfl rfl
theorem d_5_23_18 : decode prog_5_method_23_code 18 = .ok (.if_icmp .ne 7, 3) := D_160 W_prog_5_method_23_code_0 18 rfl rfl rfl
theorem d_5_23_25 : decode prog_5_method_23_code 25 = .ok (.iconst 0, 1) := D_3 W_prog_5_method_23_code_0 25 rfl rfl
theorem d_5_23_21 : decode prog_5_method_23_code 21 = .ok (.iconst 1, 1) := D_4 W_prog_5_method_23_code_0 21 rfl rfl
theorem d_5_23_22 : decode prog_5_method_23_code 22 = .ok (.goto 4, 3) := D_167 W_prog_5_method_23_code_0 22 rfl rfl rfl
theorem d_5_23_26 : decode prog_5_method_23_code 26 = .ok (.istore_n 2, 1) := D_61 W_prog_5_method_23_code_0 26 rfl rfl
theorem d_5_23_27 : decode prog_5_method_23_code 27 = .ok (.iload_n 2, 1) := D_28 W_prog_5_method_23_code_0 27 rfl rfl
theorem d_5_23_28 : decode prog_5_method_23_code 28 = .ok (.ifCond .eq 13, 3) := D_153 W_prog_5_method_23_code_0 28 rfl rfl rfl
theorem W_prog_5_method_23_code_32 : chW prog_5_method_23_code 32 [180, 0, 48, 182, 0, 122, 167, 0, 32, 42, 180, 0, 48, 180, 0, 108, 5, 160, 0, 11, 42, 27, 182, 1, 21, 167, 0, 13, 42, 27, 182, 1, 25, 154, 0, 5] := chW_of (by decide +kernel)
theorem d_5_23_41 : decode prog_5_method_23_code 41 = .ok (.aload_n 0, 1) := D_42 W_prog_5_method_23_code_32 9 rfl rfl
theorem d_5_23_42 : decode prog_5_method_23_code 42 = .ok (.getfield 48, 3) := D_180 W_prog_5_method_23_code_32 10 rfl rfl rfl
theorem d_5_23_45 : decode prog_5_method_23_code 45 = .ok (.getfield 108, 3) := D_180 W_prog_5_method_23_code_32 13 rfl rfl rfl
theorem d_5_23_48 : decode prog_5_method_23_code 48 = .ok (.iconst 2, 1) := D_5 W_prog_5_method_23_code_32 16 rfl rfl
theorem d_5_23_49 : decode prog_5_method_23_code 49 = .ok (.if_icmp .ne 11, 3) := D_160 W_prog_5_method_23_code_32 17 rfl rfl rfl
theorem d_5_23_60 : decode prog_5_method_23_code 60 = .ok (.aload_n 0, 1) := D_42 W_prog_5_method_23_code_32 28 rfl rfl
theorem d_5_23_61 : decode prog_5_method_23_code 61 = .ok (.iload_n 1, 1) := D_27 W_prog_5_method_23_code_32 29 rfl rfl
theorem d_5_23_62 : decode prog_5_method_23_code 62 = .ok (.invokevirtual 281, 3) := D_182 W_prog_5_method_23_code_32 30 rfl rfl rfl
theorem W_prog_6_method_9_code_0 : chW prog_6_method_9_code 0 [42, 3, 181, 0, 35, 42, 3, 181, 0, 81, 3, 61, 28, 42, 180, 0, 31, 162, 0, 40, 42, 180, 0, 81, 154, 0, 33, 42, 43, 28, 42, 180, 0, 11, 28, 50] := chW_of (by decide +kernel)
theorem d_6_9_0 : decode prog_6_method_9_code 0 = .ok (.aload_n 0, 1) := D_42 W_prog_6_method_9_code_0 0 rfl rfl
theorem d_6_9_1 : decode prog_6_method_9_code 1 = .ok (.iconst 0, 1) := D_3 W_prog_6_method_9_code_0 1 rfl rfl
theorem d_6_9_2 : decode prog_6_method_9_code 2 = .ok (.putfield 35, 3) := D_181 W_prog_6_method_9_code_0 2 rfl rfl rfl
theorem d_6_9_5 : decode prog_6_method_9_code 5 = .ok (.aload_n 0, 1) := D_42 W_prog_6_method_9_code_0 5 rfl rfl
theorem d_6_9_6 : decode prog_6_method_9_code 6 = .ok (.iconst 0, 1) := D_3 W_prog_6_method_9_code_0 6 rfl rfl
theorem d_6_9_7 : decode prog_6_method_9_code 7 = .ok (.putfield 81, 3) := D_181 W_prog_6_method_9_code_0 7 rfl rfl rfl
theorem d_6_9_10 : decode prog_6_method_9_code 10 = .ok (.iconst 0, 1) := D_3 W_prog_6_method_9_code_0 10 rfl rfl
theorem d_6_9_11 : decode prog_6_method_9_code 11 = .ok (.istore_n 2, 1) := D_61 W_prog_6_method_9_code_0 11 rfl rfl
theorem d_6_9_12 : decode prog_6_method_9_code 12 = .ok (.iload_n 2, 1) := D_28 W_prog_6_method_9_code_0 12 rfl rfl
theorem d_6_9_13 : decode prog_6_method_9_code 13 = .ok (.aload_n 0, 1) := D_42 W_prog_6_method_9_code_0 13 rfl rfl
theorem d_6_9_14 : decode prog_6_method_9_code 14 = .ok (.getfield 31, 3) := D_180 W_prog_6_method_9_code_0 14 rfl rfl rfl
theorem d_6_9_17 : decode prog_6_method_9_code 17 = .ok (.if_icmp .ge 40, 3) := D_162 W_prog_6_method_9_code_0 17 rfl rfl rfl
theorem d_6_9_20 : decode prog_6_method_9_code 20 = .ok (.aload_n 0, 1) := D_42 W_prog_6_method_9_code_0 20 rfl rfl
theorem d_6_9_21 : decode prog_6_method_9_code 21 = .ok (.getfield 81, 3) := D_180 W_prog_6_method_9_code_0 21 rfl rfl rfl
theorem d_6_9_24 : decode prog_6_method_9_code 24 = .ok (.ifCond .ne 33, 3) := D_154 W_prog_6_method_9_code_0 24 rfl rfl rfl
theorem d_6_9_27 : decode prog_6_method_9_code 27 = .ok (.aload_n 0, 1) := D_42 W_prog_6_method_9_code_0 27 rfl rfl
theorem d_6_9_28 : decode prog_6_method_9_code 28 = .ok (.aload_n 1, 1) := D_43 W_prog_6_method_9_code_0 28 rfl rfl
theorem d_6_9_29 : decode prog_6_method_9_code 29 = .ok (.iload_n 2, 1) := D_28 W_prog_6_method_9_code_0 29 rfl rfl
theorem d_6_9_30 : decode prog_6_method_9_code 30 = .ok (.aload_n 0, 1) := D_42 W_prog_6_method_9_code_0 30 rfl rfl
theorem d_6_9_31 : decode prog_6_method_9_code 31 = .ok (.getfield 11, 3) := D_180 W_prog_6_method_9_code_0 31 rfl rfl rfl
theorem W_prog_6_method_9_code_32 : chW prog_6_method_9_code 32 [0, 11, 28, 50, 180, 0, 84, 42, 180, 0, 11, 28, 50, 180, 0, 87, 182, 0, 109, 132, 2, 1, 167, 255, 214, 43, 182, 0, 55, 65, 32, 9, 148, 158, 0, 12] := chW_of (by decide +kernel)
theorem d_6_9_34 : decode prog_6_method_9_code 34 = .ok (.iload_n 2, 1) := D_28 W_prog_6_method_9_code_32 2 rfl rfl
theorem d_6_9_35 : decode prog_6_method_9_code 35 = .ok (.aaload, 1) := D_50 W_prog_6_method_9_code_32 3 rfl rfl
theorem d_6_9_36 : decode prog_6_method_9_code 36 = .ok (.getfield 84, 3) := D_180 W_prog_6_method_9_code_32 4 rfl rfl rfl
theorem d_6_9_39 : decode prog_6_method_9_code 39 = .ok (.aload_n 0, 1) := D_42 W_prog_6_method_9_code_32 7 rfl rfl
theorem d_6_9_40 : decode prog_6_method_9_code 40 = .ok (.getfield 11, 3) := D_180 W_prog_6_method_9_code_32 8 rfl rfl rfl
theorem d_6_9_43 : decode prog_6_method_9_code 43 = .ok (.iload_n 2, 1) := D_28 W_prog_6_method_9_code_32 11 rfl rfl
theorem d_6_9_44 : decode prog_6_method_9_code 44 = .ok (.aaload, 1) := D_50 W_prog_6_method_9_code_32 12 rfl rfl
theorem d_6_9_45 : decode prog_6_method_9_code 45 = .ok (.getfield 87, 3) := D_180 W_prog_6_method_9_code_32 13 rfl rfl rfl
theorem d_6_9_48 : decode prog_6_method_9_code 48 = .ok (.invokevirtual 109, 3) := D_182 W_prog_6_method_9_code_32 16 rfl rfl rfl
theorem W_prog_10_method_14_code_0 : chW prog_10_method_14_code 0 [42, 89, 180, 0, 123, 42, 182, 0, 136, 133, 97, 181, 0, 123, 42, 180, 0, 27, 61, 42, 182, 0, 90, 62, 42, 180, 0, 39, 153, 0, 4, 177, 29, 17, 0, 255] := chW_of (by decide +kernel)
theorem d_10_14_0 : decode prog_10_method_14_code 0 = .ok (.aload_n 0, 1) := D_42 W_prog_10_method_14_code_0 0 rfl rfl
theorem d_10_14_1 : decode prog_10_method_14_code 1 = .ok (.dup, 1) := D_89 W_prog_10_method_14_code_0 1 rfl rfl
theorem d_10_14_2 : decode prog_10_method_14_code 2 = .ok (.getfield 123, 3) := D_180 W_prog_10_method_14_code_0 2 rfl rfl rfl
theorem d_10_14_5 : decode prog_10_method_14_code 5 = .ok (.aload_n 0, 1) := D_42 W_prog_10_method_14_code_0 5 rfl rfl
theorem d_10_14_6 : decode prog_10_method_14_code 6 = .ok (.invokevirtual 136, 3) := D_182 W_prog_10_method_14_code_0 6 rfl rfl rfl
theorem W_prog_9_method_9_code_0 : chW prog_9_method_9_code 0 [42, 180, 0, 22, 180, 0, 40, 5, 46, 60, 42, 180, 0, 26, 27, 156, 0, 8, 18, 133, 167, 0, 5, 18, 135, 182, 0, 137, 42, 180, 0, 26, 27, 184, 0, 141] := chW_of (by decide +kernel)
theorem d_9_9_0 : decode prog_9_method_9_code 0 = .ok (.aload_n 0, 1) := D_42 W_prog_9_method_9_code_0 0 rfl rfl
theorem d_9_9_1 : decode prog_9_method_9_code 1 = .ok (.getfield 22, 3) := D_180 W_prog_9_method_9_code_0 1 rfl rfl rfl
theorem d_9_9_4 : decode prog_9_method_9_code 4 = .ok (.getfield 40, 3) := D_180 W_prog_9_method_9_code_0 4 rfl rfl rfl
theorem d_9_9_7 : decode prog_9_method_9_code 7 = .ok (.iconst 2, 1) := D_5 W_prog_9_method_9_code_0 7 rfl rfl
theorem d_9_9_8 : decode prog_9_method_9_code 8 = .ok (.iaload, 1) := D_46 W_prog_9_method_9_code_0 8 rfl rfl
theorem d_9_9_9 : decode prog_9_method_9_code 9 = .ok (.istore_n 1, 1) := D_60 W_prog_9_method_9_code_0 9 rfl rfl
theorem d_9_9_10 : decode prog_9_method_9_code 10 = .ok (.aload_n 0, 1) := D_42 W_prog_9_method_9_code_0 10 rfl rfl
theorem d_9_9_11 : decode prog_9_method_9_code 11 = .ok (.getfield 26, 3) := D_180 W_prog_9_method_9_code_0 11 rfl rfl rfl
theorem d_9_9_14 : decode prog_9_method_9_code 14 = .ok (.iload_n 1, 1) := D_27 W_prog_9_method_9_code_0 14 rfl rfl
theorem d_9_9_15 : decode prog_9_method_9_code 15 = .ok (.ifCond .ge 8, 3) := D_156 W_prog_9_method_9_code_0 15 rfl rfl rfl
theorem d_9_9_23 : decode prog_9_method_9_code 23 = .ok (.ldc 135, 2) := D_18 W_prog_9_method_9_code_0 23 rfl rfl
theorem d_9_9_18 : decode prog_9_method_9_code 18 = .ok (.ldc 133, 2) := D_18 W_prog_9_method_9_code_0 18 rfl rfl
theorem d_9_9_20 : decode prog_9_method_9_code 20 = .ok (.goto 5, 3) := D_167 W_prog_9_method_9_code_0 20 rfl rfl rfl
theorem d_9_9_25 : decode prog_9_method_9_code 25 = .ok (.invokevirtual 137, 3) := D_182 W_prog_9_method_9_code_0 25 rfl rfl rfl
theorem W_prog_9_method_13_code_0 : chW prog_9_method_13_code 0 [42, 180, 0, 12, 182, 0, 196, 153, 0, 12, 42, 180, 0, 26, 16, 114, 182, 0, 151, 42, 180, 0, 26, 42, 180, 0, 12, 180, 0, 115, 4, 164, 0, 8, 18, 200] := chW_of (by decide +kernel)
theorem d_9_13_0 : decode prog_9_method_13_code 0 = .ok (.aload_n 0, 1) := D_42 W_prog_9_method_13_code_0 0 rfl rfl
theorem d_9_13_1 : decode prog_9_method_13_code 1 = .ok (.getfield 12, 3) := D_180 W_prog_9_method_13_code_0 1 rfl rfl rfl
theorem d_9_13_4 : decode prog_9_method_13_code 4 = .ok (.invokevirtual 196, 3) := D_182 W_prog_9_method_13_code_0 4 rfl rfl rfl
theorem d_9_13_7 : decode prog_9_method_13_code 7 = .ok (.ifCond .eq 12, 3) := D_153 W_prog_9_method_13_code_0 7 rfl rfl rfl
theorem d_9_13_10 : decode prog_9_method_13_code 10 = .ok (.aload_n 0, 1) := D_42 W_prog_9_method_13_code_0 10 rfl rfl
theorem d_9_13_11 : decode prog_9_method_13_code 11 = .ok (.getfield 26, 3) := D_180 W_prog_9_method_13_code_0 11 rfl rfl rfl
theorem d_9_13_14 : decode prog_9_method_13_code 14 = .ok (.bipush 114, 2) := D_16 W_prog_9_method_13_code_0 14 rfl rfl rfl
theorem d_9_13_16 : decode prog_9_method_13_code 16 = .ok (.invokevirtual 151, 3) := D_182 W_prog_9_method_13_code_0 16 rfl rfl rfl
theorem d_9_13_19 : decode prog_9_method_13_code 19 = .ok (.aload_n 0, 1) := D_42 W_prog_9_method_13_code_0 19 rfl rfl
theorem d_9_13_20 : decode prog_9_method_13_code 20 = .ok (.getfield 26, 3) := D_180 W_prog_9_method_13_code_0 20 rfl rfl rfl
theorem d_9_13_23 : decode prog_9_method_13_code 23 = .ok (.aload_n 0, 1) := D_42 W_prog_9_method_13_code_0 23 rfl rfl
theorem d_9_13_24 : decode prog_9_method_13_code 24 = .ok (.getfield 12, 3) := D_180 W_prog_9_method_13_code_0 24 rfl rfl rfl
theorem d_9_13_27 : decode prog_9_method_13_code 27 = .ok (.getfield 115, 3) := D_180 W_prog_9_method_13_code_0 27 rfl rfl rfl
theorem d_9_13_30 : decode prog_9_method_13_code 30 = .ok (.iconst 1, 1) := D_4 W_prog_9_method_13_code_0 30 rfl rfl
theorem d_9_13_31 : decode prog_9_method_13_code 31 = .ok (.if_icmp .le 8, 3) := D_164 W_prog_9_method_13_code_0 31 rfl rfl rfl
theorem W_prog_9_method_13_code_32 : chW prog_9_method_13_code 32 [0, 8, 18, 200, 167, 0, 5, 18, 202, 182, 0, 137, 3, 62, 29, 42, 180, 0, 12, 180, 0, 115, 162, 0, 49, 42, 180, 0, 26, 29, 158, 0, 8, 18, 204, 167] := chW_of (by decide +kernel)
theorem d_9_13_39 : decode prog_9_method_13_code 39 = .ok (.ldc 202, 2) := D_18 W_prog_9_method_13_code_32 7 rfl rfl
theorem d_9_13_34 : decode prog_9_method_13_code 34 = .ok (.ldc 200, 2) := D_18 W_prog_9_method_13_code_32 2 rfl rfl
theorem d_9_13_36 : decode prog_9_method_13_code 36 = .ok (.goto 5, 3) := D_167 W_prog_9_method_13_code_32 4 rfl rfl rfl
theorem d_9_13_41 : decode prog_9_method_13_code 41 = .ok (.invokevirtual 137, 3) := D_182 W_prog_9_method_13_code_32 9 rfl rfl rfl
theorem W_prog_7_method_24_code_0 : chW prog_7_method_24_code 0 [3, 62, 29, 28, 162, 0, 16, 42, 180, 0, 18, 29, 3, 79, 132, 3, 1, 167, 255, 241, 3, 62, 29, 42, 180, 0, 36, 162, 0, 16, 42, 43, 29, 28, 182, 1] := chW_of (by decide +kernel)
theorem d_7_24_0 : decode prog_7_method_24_code 0 = .ok (.iconst 0, 1) := D_3 W_prog_7_method_24_code_0 0 rfl rfl
theorem d_7_24_1 : decode prog_7_method_24_code 1 = .ok (.istore_n 3, 1) := D_62 W_prog_7_method_24_code_0 1 rfl rfl
theorem d_7_24_2 : decode prog_7_method_24_code 2 = .ok (.iload_n 3, 1) := D_29 W_prog_7_method_24_code_0 2 rfl rfl
theorem d_7_24_3 : decode prog_7_method_24_code 3 = .ok (.iload_n 2, 1) := D_28 W_prog_7_method_24_code_0 3 rfl rfl
theorem d_7_24_4 : decode prog_7_method_24_code 4 = .ok (.if_icmp .ge 16, 3) := D_162 W_prog_7_method_24_code_0 4 rfl rfl rfl
theorem d_7_24_20 : decode prog_7_method_24_code 20 = .ok (.iconst 0, 1) := D_3 W_prog_7_method_24_code_0 20 rfl rfl
theorem d_7_24_21 : decode prog_7_method_24_code 21 = .ok (.istore_n 3, 1) := D_62 W_prog_7_method_24_code_0 21 rfl rfl
theorem d_7_24_7 : decode prog_7_method_24_code 7 = .ok (.aload_n 0, 1) := D_42 W_prog_7_method_24_code_0 7 rfl rfl
theorem d_7_24_8 : decode prog_7_method_24_code 8 = .ok (.getfield 18, 3) := D_180 W_prog_7_method_24_code_0 8 rfl rfl rfl
theorem d_7_24_11 : decode prog_7_method_24_code 11 = .ok (.iload_n 3, 1) := D_29 W_prog_7_method_24_code_0 11 rfl rfl
theorem d_7_24_12 : decode prog_7_method_24_code 12 = .ok (.iconst 0, 1) := D_3 W_prog_7_method_24_code_0 12 rfl rfl
theorem d_7_24_13 : decode prog_7_method_24_code 13 = .ok (.iastore, 1) := D_79 W_prog_7_method_24_code_0 13 rfl rfl
theorem d_7_24_14 : decode prog_7_method_24_code 14 = .ok (.iinc 3 1, 3) := D_132 W_prog_7_method_24_code_0 14 rfl rfl rfl
theorem d_7_24_17 : decode prog_7_method_24_code 17 = .ok (.goto (-15), 3) := D_167 W_prog_7_method_24_code_0 17 rfl rfl rfl
theorem d_7_24_22 : decode prog_7_method_24_code 22 = .ok (.iload_n 3, 1) := D_29 W_prog_7_method_24_code_0 22 rfl rfl
theorem d_7_24_23 : decode prog_7_method_24_code 23 = .ok (.aload_n 0, 1) := D_42 W_prog_7_method_24_code_0 23 rfl rfl
theorem d_7_24_24 : decode prog_7_method_24_code 24 = .ok (.getfield 36, 3) := D_180 W_prog_7_method_24_code_0 24 rfl rfl rfl
theorem d_7_24_27 : decode prog_7_method_24_code 27 = .ok (.if_icmp .ge 16, 3) := D_162 W_prog_7_method_24_code_0 27 rfl rfl rfl
theorem W_prog_7_method_24_code_32 : chW prog_7_method_24_code 32 [29, 28, 182, 1, 23, 132, 3, 1, 167, 255, 238, 3, 62, 29, 28, 162, 0, 67, 17, 128, 0, 17, 127, 255, 42, 180, 0, 18, 29, 46, 184, 0, 99, 184, 0, 144] := chW_of (by decide +kernel)
theorem d_7_24_43 : decode prog_7_method_24_code 43 = .ok (.iconst 0, 1) := D_3 W_prog_7_method_24_code_32 11 rfl rfl
theorem d_7_24_44 : decode prog_7_method_24_code 44 = .ok (.istore_n 3, 1) := D_62 W_prog_7_method_24_code_32 12 rfl rfl
theorem d_7_24_30 : decode prog_7_method_24_code 30 = .ok (.aload_n 0, 1) := D_42 W_prog_7_method_24_code_0 30 rfl rfl
theorem d_7_24_31 : decode prog_7_method_24_code 31 = .ok (.aload_n 1, 1) := D_43 W_prog_7_method_24_code_0 31 rfl rfl
theorem d_7_24_32 : decode prog_7_method_24_code 32 = .ok (.iload_n 3, 1) := D_29 W_prog_7_method_24_code_32 0 rfl rfl
theorem d_7_24_33 : decode prog_7_method_24_code 33 = .ok (.iload_n 2, 1) := D_28 W_prog_7_method_24_code_32 1 rfl rfl
theorem d_7_24_34 : decode prog_7_method_24_code 34 = .ok (.invokevirtual 279, 3) := D_182 W_prog_7_method_24_code_32 2 rfl rfl rfl
theorem W_prog_11_method_12_code_0 : chW prog_11_method_12_code 0 [42, 43, 28, 182, 0, 139, 3, 54, 4, 2, 54, 5, 3, 54, 6, 21, 6, 16, 7, 162, 0, 43, 21, 4, 42, 180, 0, 40, 21, 6, 46, 184, 0, 142, 96, 54] := chW_of (by decide +kernel)
theorem d_11_12_0 : decode prog_11_method_12_code 0 = .ok (.aload_n 0, 1) := D_42 W_prog_11_method_12_code_0 0 rfl rfl
theorem d_11_12_1 : decode prog_11_method_12_code 1 = .ok (.aload_n 1, 1) := D_43 W_prog_11_method_12_code_0 1 rfl rfl
theorem d_11_12_2 : decode prog_11_method_12_code 2 = .ok (.iload_n 2, 1) := D_28 W_prog_11_method_12_code_0 2 rfl rfl
theorem d_11_12_3 : decode prog_11_method_12_code 3 = .ok (.invokevirtual 139, 3) := D_182 W_prog_11_method_12_code_0 3 rfl rfl rfl
theorem W_prog_6_method_27_code_0 : chW prog_6_method_27_code 0 [42, 180, 0, 11, 29, 50, 180, 0, 84, 43, 180, 0, 11, 28, 50, 180, 0, 84, 148, 157, 0, 5, 3, 172, 42, 180, 0, 11, 29, 50, 182, 0, 227, 43, 180, 0] := chW_of (by decide +kernel)
theorem d_6_27_0 : decode prog_6_method_27_code 0 = .ok (.aload_n 0, 1) := D_42 W_prog_6_method_27_code_0 0 rfl rfl
theorem d_6_27_1 : decode prog_6_method_27_code 1 = .ok (.getfield 11, 3) := D_180 W_prog_6_method_27_code_0 1 rfl rfl rfl
theorem d_6_27_4 : decode prog_6_method_27_code 4 = .ok (.iload_n 3, 1) := D_29 W_prog_6_method_27_code_0 4 rfl rfl
theorem d_6_27_5 : decode prog_6_method_27_code 5 = .ok (.aaload, 1) := D_50 W_prog_6_method_27_code_0 5 rfl rfl
theorem d_6_27_6 : decode prog_6_method_27_code 6 = .ok (.getfield 84, 3) := D_180 W_prog_6_method_27_code_0 6 rfl rfl rfl
theorem d_6_27_9 : decode prog_6_method_27_code 9 = .ok (.aload_n 1, 1) := D_43 W_prog_6_method_27_code_0 9 rfl rfl
theorem d_6_27_10 : decode prog_6_method_27_code 10 = .ok (.getfield 11, 3) := D_180 W_prog_6_method_27_code_0 10 rfl rfl rfl
theorem d_6_27_13 : decode prog_6_method_27_code 13 = .ok (.iload_n 2, 1) := D_28 W_prog_6_method_27_code_0 13 rfl rfl
theorem d_6_27_14 : decode prog_6_method_27_code 14 = .ok (.aaload, 1) := D_50 W_prog_6_method_27_code_0 14 rfl rfl
theorem d_6_27_15 : decode prog_6_method_27_code 15 = .ok (.getfield 84, 3) := D_180 W_prog_6_method_27_code_0 15 rfl rfl rfl
theorem d_6_27_18 : decode prog_6_method_27_code 18 = .ok (.lcmp, 1) := D_148 W_prog_6_method_27_code_0 18 rfl rfl
theorem d_6_27_19 : decode prog_6_method_27_code 19 = .ok (.ifCond .gt 5, 3) := D_157 W_prog_6_method_27_code_0 19 rfl rfl rfl
theorem d_6_27_24 : decode prog_6_method_27_code 24 = .ok (.aload_n 0, 1) := D_42 W_prog_6_method_27_code_0 24 rfl rfl
theorem d_6_27_25 : decode prog_6_method_27_code 25 = .ok (.getfield 11, 3) := D_180 W_prog_6_method_27_code_0 25 rfl rfl rfl
theorem d_6_27_28 : decode prog_6_method_27_code 28 = .ok (.iload_n 3, 1) := D_29 W_prog_6_method_27_code_0 28 rfl rfl
theorem d_6_27_29 : decode prog_6_method_27_code 29 = .ok (.aaload, 1) := D_50 W_prog_6_method_27_code_0 29 rfl rfl
theorem d_6_27_30 : decode prog_6_method_27_code 30 = .ok (.invokevirtual 227, 3) := D_182 W_prog_6_method_27_code_0 30 rfl rfl rfl
theorem W_prog_1_method_33_code_0 : chW prog_1_method_33_code 0 [42, 27, 28, 182, 0, 101, 58, 9, 42, 21, 5, 21, 6, 182, 0, 101, 58, 10, 25, 9, 198, 0, 33, 25, 10, 198, 0, 28, 21, 4, 5, 161, 0, 22, 21, 4] := chW_of (by decide +kernel)
theorem d_1_33_0 : decode prog_1_method_33_code 0 = .ok (.aload_n 0, 1) := D_42 W_prog_1_method_33_code_0 0 rfl rfl
theorem d_1_33_1 : decode prog_1_method_33_code 1 = .ok (.iload_n 1, 1) := D_27 W_prog_1_method_33_code_0 1 rfl rfl
theorem d_1_33_2 : decode prog_1_method_33_code 2 = .ok (.iload_n 2, 1) := D_28 W_prog_1_method_33_code_0 2 rfl rfl
theorem d_1_33_3 : decode prog_1_method_33_code 3 = .ok (.invokevirtual 101, 3) := D_182 W_prog_1_method_33_code_0 3 rfl rfl rfl
theorem d_1_33_6 : decode prog_1_method_33_code 6 = .ok (.astore 9, 2) := D_58 W_prog_1_method_33_code_0 6 rfl rfl
theorem d_1_33_8 : decode prog_1_method_33_code 8 = .ok (.aload_n 0, 1) := D_42 W_prog_1_method_33_code_0 8 rfl rfl
theorem d_1_33_9 : decode prog_1_method_33_code 9 = .ok (.iload 5, 2) := D_21 W_prog_1_method_33_code_0 9 rfl rfl
theorem d_1_33_11 : decode prog_1_method_33_code 11 = .ok (.iload 6, 2) := D_21 W_prog_1_method_33_code_0 11 rfl rfl
theorem d_1_33_13 : decode prog_1_method_33_code 13 = .ok (.invokevirtual 101, 3) := D_182 W_prog_1_method_33_code_0 13 rfl rfl rfl
theorem d_1_33_16 : decode prog_1_method_33_code 16 = .ok (.astore 10, 2) := D_58 W_prog_1_method_33_code_0 16 rfl rfl
theorem d_1_33_18 : decode prog_1_method_33_code 18 = .ok (.aload 9, 2) := D_25 W_prog_1_method_33_code_0 18 rfl rfl
theorem d_1_33_20 : decode prog_1_method_33_code 20 = .ok (.ifnull 33, 3) := D_198 W_prog_1_method_33_code_0 20 rfl rfl rfl
theorem d_1_33_23 : decode prog_1_method_33_code 23 = .ok (.aload 10, 2) := D_25 W_prog_1_method_33_code_0 23 rfl rfl
theorem d_1_33_25 : decode prog_1_method_33_code 25 = .ok (.ifnull 28, 3) := D_198 W_prog_1_method_33_code_0 25 rfl rfl rfl
theorem d_1_33_28 : decode prog_1_method_33_code 28 = .ok (.iload 4, 2) := D_21 W_prog_1_method_33_code_0 28 rfl rfl
theorem d_1_33_30 : decode prog_1_method_33_code 30 = .ok (.iconst 2, 1) := D_5 W_prog_1_method_33_code_0 30 rfl rfl
theorem d_1_33_31 : decode prog_1_method_33_code 31 = .ok (.if_icmp .lt 22, 3) := D_161 W_prog_1_method_33_code_0 31 rfl rfl rfl
theorem W_prog_1_method_33_code_32 : chW prog_1_method_33_code 32 [0, 22, 21, 4, 16, 20, 163, 0, 15, 21, 7, 155, 0, 10, 21, 7, 16, 7, 164, 0, 7, 4, 167, 0, 4, 3, 54, 11, 21, 11, 154, 0, 24, 21, 8, 155] := chW_of (by decide +kernel)
theorem d_1_33_34 : decode prog_1_method_33_code 34 = .ok (.iload 4, 2) := D_21 W_prog_1_method_33_code_32 2 rfl rfl
theorem d_1_33_36 : decode prog_1_method_33_code 36 = .ok (.bipush 20, 2) := D_16 W_prog_1_method_33_code_32 4 rfl rfl rfl
theorem d_1_33_38 : decode prog_1_method_33_code 38 = .ok (.if_icmp .gt 15, 3) := D_163 W_prog_1_method_33_code_32 6 rfl rfl rfl
theorem d_1_33_41 : decode prog_1_method_33_code 41 = .ok (.iload 7, 2) := D_21 W_prog_1_method_33_code_32 9 rfl rfl
theorem d_1_33_43 : decode prog_1_method_33_code 43 = .ok (.ifCond .lt 10, 3) := D_155 W_prog_1_method_33_code_32 11 rfl rfl rfl
theorem d_1_33_46 : decode prog_1_method_33_code 46 = .ok (.iload 7, 2) := D_21 W_prog_1_method_33_code_32 14 rfl rfl
theorem d_1_33_48 : decode prog_1_method_33_code 48 = .ok (.bipush 7, 2) := D_16 W_prog_1_method_33_code_32 16 rfl rfl rfl
theorem d_1_33_50 : decode prog_1_method_33_code 50 = .ok (.if_icmp .le 7, 3) := D_164 W_prog_1_method_33_code_32 18 rfl rfl rfl
theorem d_1_33_57 : decode prog_1_method_33_code 57 = .ok (.iconst 0, 1) := D_3 W_prog_1_method_33_code_32 25 rfl rfl
theorem d_1_33_53 : decode prog_1_method_33_code 53 = .ok (.iconst 1, 1) := D_4 W_prog_1_method_33_code_32 21 rfl rfl
theorem d_1_33_54 : decode prog_1_method_33_code 54 = .ok (.goto 4, 3) := D_167 W_prog_1_method_33_code_32 22 rfl rfl rfl
theorem d_1_33_58 : decode prog_1_method_33_code 58 = .ok (.istore 11, 2) := D_54 W_prog_1_method_33_code_32 26 rfl rfl
theorem d_1_33_60 : decode prog_1_method_33_code 60 = .ok (.iload 11, 2) := D_21 W_prog_1_method_33_code_32 28 rfl rfl
theorem d_1_33_62 : decode prog_1_method_33_code 62 = .ok (.ifCond .ne 24, 3) := D_154 W_prog_1_method_33_code_32 30 rfl rfl rfl
theorem W_prog_1_method_33_code_64 : chW prog_1_method_33_code 64 [24, 21, 8, 155, 0, 19, 29, 155, 0, 15, 29, 25, 9, 180, 0, 105, 21, 4, 100, 164, 0, 5, 2, 172, 21, 8, 54, 12, 3, 54, 13, 21, 13, 25, 10, 180] := chW_of (by decide +kernel)
theorem d_1_33_65 : decode prog_1_method_33_code 65 = .ok (.iload 8, 2) := D_21 W_prog_1_method_33_code_64 1 rfl rfl
theorem d_1_33_67 : decode prog_1_method_33_code 67 = .ok (.ifCond .lt 19, 3) := D_155 W_prog_1_method_33_code_64 3 rfl rfl rfl
theorem d_1_33_70 : decode prog_1_method_33_code 70 = .ok (.iload_n 3, 1) := D_29 W_prog_1_method_33_code_64 6 rfl rfl
theorem d_1_33_71 : decode prog_1_method_33_code 71 = .ok (.ifCond .lt 15, 3) := D_155 W_prog_1_method_33_code_64 7 rfl rfl rfl
theorem d_1_33_74 : decode prog_1_method_33_code 74 = .ok (.iload_n 3, 1) := D_29 W_prog_1_method_33_code_64 10 rfl rfl
theorem d_1_33_75 : decode prog_1_method_33_code 75 = .ok (.aload 9, 2) := D_25 W_prog_1_method_33_code_64 11 rfl rfl
theorem d_1_33_77 : decode prog_1_method_33_code 77 = .ok (.getfield 105, 3) := D_180 W_prog_1_method_33_code_64 13 rfl rfl rfl
theorem d_1_33_80 : decode prog_1_method_33_code 80 = .ok (.iload 4, 2) := D_21 W_prog_1_method_33_code_64 16 rfl rfl
theorem d_1_33_82 : decode prog_1_method_33_code 82 = .ok (.isub, 1) := D_100 W_prog_1_method_33_code_64 18 rfl rfl
theorem d_1_33_83 : decode prog_1_method_33_code 83 = .ok (.if_icmp .le 5, 3) := D_164 W_prog_1_method_33_code_64 19 rfl rfl rfl
theorem d_1_33_88 : decode prog_1_method_33_code 88 = .ok (.iload 8, 2) := D_21 W_prog_1_method_33_code_64 24 rfl rfl
theorem d_1_33_90 : decode prog_1_method_33_code 90 = .ok (.istore 12, 2) := D_54 W_prog_1_method_33_code_64 26 rfl rfl
theorem d_1_33_92 : decode prog_1_method_33_code 92 = .ok (.iconst 0, 1) := D_3 W_prog_1_method_33_code_64 28 rfl rfl
theorem d_1_33_93 : decode prog_1_method_33_code 93 = .ok (.istore 13, 2) := D_54 W_prog_1_method_33_code_64 29 rfl rfl
theorem d_1_33_86 : decode prog_1_method_33_code 86 = .ok (.iconst (-1), 1) := D_2 W_prog_1_method_33_code_64 22 rfl rfl
theorem d_1_33_87 : decode prog_1_method_33_code 87 = .ok (.ireturn, 1) := D_172 W_prog_1_method_33_code_64 23 rfl rfl
theorem d_1_33_95 : decode prog_1_method_33_code 95 = .ok (.iload 13, 2) := D_21 W_prog_1_method_33_code_64 31 rfl rfl
theorem W_prog_1_method_33_code_96 : chW prog_1_method_33_code 96 [13, 25, 10, 180, 0, 105, 21, 4, 100, 163, 0, 37, 25, 10, 21, 13, 25, 9, 29, 21, 4, 21, 7, 182, 1, 75, 153, 0, 14, 21, 12, 154, 0, 6, 21, 13] := chW_of (by decide +kernel)
theorem d_1_33_97 : decode prog_1_method_33_code 97 = .ok (.aload 10, 2) := D_25 W_prog_1_method_33_code_96 1 rfl rfl
theorem d_1_33_99 : decode prog_1_method_33_code 99 = .ok (.getfield 105, 3) := D_180 W_prog_1_method_33_code_96 3 rfl rfl rfl
theorem d_1_33_102 : decode prog_1_method_33_code 102 = .ok (.iload 4, 2) := D_21 W_prog_1_method_33_code_96 6 rfl rfl
theorem d_1_33_104 : decode prog_1_method_33_code 104 = .ok (.isub, 1) := D_100 W_prog_1_method_33_code_96 8 rfl rfl
theorem d_1_33_105 : decode prog_1_method_33_code 105 = .ok (.if_icmp .gt 37, 3) := D_163 W_prog_1_method_33_code_96 9 rfl rfl rfl
theorem W_prog_1_method_33_code_128 : chW prog_1_method_33_code 128 [0, 6, 21, 13, 172, 132, 12, 255, 132, 13, 1, 167, 255, 212, 2, 172] := chW_of (by decide +kernel)
theorem d_1_33_142 : decode prog_1_method_33_code 142 = .ok (.iconst (-1), 1) := D_2 W_prog_1_method_33_code_128 14 rfl rfl
theorem d_1_33_143 : decode prog_1_method_33_code 143 = .ok (.ireturn, 1) := D_172 W_prog_1_method_33_code_128 15 rfl rfl
theorem d_1_33_108 : decode prog_1_method_33_code 108 = .ok (.aload 10, 2) := D_25 W_prog_1_method_33_code_96 12 rfl rfl
theorem d_1_33_110 : decode prog_1_method_33_code 110 = .ok (.iload 13, 2) := D_21 W_prog_1_method_33_code_96 14 rfl rfl
theorem d_1_33_112 : decode prog_1_method_33_code 112 = .ok (.aload 9, 2) := D_25 W_prog_1_method_33_code_96 16 rfl rfl
theorem d_1_33_114 : decode prog_1_method_33_code 114 = .ok (.iload_n 3, 1) := D_29 W_prog_1_method_33_code_96 18 rfl rfl
theorem d_1_33_115 : decode prog_1_method_33_code 115 = .ok (.iload 4, 2) := D_21 W_prog_1_method_33_code_96 19 rfl rfl
theorem d_1_33_117 : decode prog_1_method_33_code 117 = .ok (.iload 7, 2) := D_21 W_prog_1_method_33_code_96 21 rfl rfl
theorem d_1_33_119 : decode prog_1_method_33_code 119 = .ok (.invokevirtual 331, 3) := D_182 W_prog_1_method_33_code_96 23 rfl rfl rfl
theorem d_12_2_28 : decode prog_12_method_2_code 28 = .ok (.istore 5, 2) := D_54 W_prog_12_method_2_code_0 28 rfl rfl
theorem d_12_2_30 : decode prog_12_method_2_code 30 = .ok (.iload 5, 2) := D_21 W_prog_12_method_2_code_0 30 rfl rfl
theorem W_prog_12_method_2_code_32 : chW prog_12_method_2_code 32 [184, 0, 32, 153, 0, 9, 132, 2, 1, 167, 0, 88, 21, 5, 184, 0, 36, 153, 0, 11, 43, 28, 184, 0, 39, 167, 0, 6, 28, 4, 96, 54, 6, 42, 180, 0] := chW_of (by decide +kernel)
theorem d_12_2_32 : decode prog_12_method_2_code 32 = .ok (.invokestatic 32, 3) := D_184 W_prog_12_method_2_code_32 0 rfl rfl rfl
theorem d_12_2_35 : decode prog_12_method_2_code 35 = .ok (.ifCond .eq 9, 3) := D_153 W_prog_12_method_2_code_32 3 rfl rfl rfl
theorem d_12_2_44 : decode prog_12_method_2_code 44 = .ok (.iload 5, 2) := D_21 W_prog_12_method_2_code_32 12 rfl rfl
theorem d_12_2_46 : decode prog_12_method_2_code 46 = .ok (.invokestatic 36, 3) := D_184 W_prog_12_method_2_code_32 14 rfl rfl rfl
theorem d_11_12_6 : decode prog_11_method_12_code 6 = .ok (.iconst 0, 1) := D_3 W_prog_11_method_12_code_0 6 rfl rfl
theorem d_11_12_7 : decode prog_11_method_12_code 7 = .ok (.istore 4, 2) := D_54 W_prog_11_method_12_code_0 7 rfl rfl
theorem d_11_12_9 : decode prog_11_method_12_code 9 = .ok (.iconst (-1), 1) := D_2 W_prog_11_method_12_code_0 9 rfl rfl
theorem d_11_12_10 : decode prog_11_method_12_code 10 = .ok (.istore 5, 2) := D_54 W_prog_11_method_12_code_0 10 rfl rfl
theorem d_11_12_12 : decode prog_11_method_12_code 12 = .ok (.iconst 0, 1) := D_3 W_prog_11_method_12_code_0 12 rfl rfl
theorem d_11_12_13 : decode prog_11_method_12_code 13 = .ok (.istore 6, 2) := D_54 W_prog_11_method_12_code_0 13 rfl rfl
theorem d_11_12_15 : decode prog_11_method_12_code 15 = .ok (.iload 6, 2) := D_21 W_prog_11_method_12_code_0 15 rfl rfl
theorem d_11_12_17 : decode prog_11_method_12_code 17 = .ok (.bipush 7, 2) := D_16 W_prog_11_method_12_code_0 17 rfl rfl rfl
theorem d_11_12_19 : decode prog_11_method_12_code 19 = .ok (.if_icmp .ge 43, 3) := D_162 W_prog_11_method_12_code_0 19 rfl rfl rfl
theorem W_prog_11_method_12_code_32 : chW prog_11_method_12_code 32 [0, 142, 96, 54, 4, 42, 21, 6, 182, 0, 147, 2, 159, 0, 8, 21, 6, 167, 0, 5, 21, 5, 54, 5, 132, 6, 1, 167, 255, 212, 29, 5, 160, 0, 7, 21] := chW_of (by decide +kernel)
theorem d_11_12_62 : decode prog_11_method_12_code 62 = .ok (.iload_n 3, 1) := D_29 W_prog_11_method_12_code_32 30 rfl rfl
theorem d_11_12_63 : decode prog_11_method_12_code 63 = .ok (.iconst 2, 1) := D_5 W_prog_11_method_12_code_32 31 rfl rfl
theorem W_prog_11_method_12_code_64 : chW prog_11_method_12_code 64 [160, 0, 7, 21, 4, 133, 173, 21, 5, 2, 160, 0, 16, 29, 6, 160, 0, 9, 20, 0, 96, 167, 0, 4, 9, 173, 29, 170, 0, 0, 0, 85, 0, 0, 0, 3] := chW_of (by decide +kernel)
theorem d_11_12_64 : decode prog_11_method_12_code 64 = .ok (.if_icmp .ne 7, 3) := D_160 W_prog_11_method_12_code_64 0 rfl rfl rfl
theorem d_11_12_71 : decode prog_11_method_12_code 71 = .ok (.iload 5, 2) := D_21 W_prog_11_method_12_code_64 7 rfl rfl
theorem d_11_12_73 : decode prog_11_method_12_code 73 = .ok (.iconst (-1), 1) := D_2 W_prog_11_method_12_code_64 9 rfl rfl
theorem d_11_12_74 : decode prog_11_method_12_code 74 = .ok (.if_icmp .ne 16, 3) := D_160 W_prog_11_method_12_code_64 10 rfl rfl rfl
theorem d_11_12_90 : decode prog_11_method_12_code 90 = .ok (.iload_n 3, 1) := D_29 W_prog_11_method_12_code_64 26 rfl rfl
theorem d_11_12_91 : decode prog_11_method_12_code 91 = .ok (.tableswitch 85 3 7 #[33, 41, 45, 53, 71], 33) := by decide +kernel
theorem W_prog_11_method_12_code_96 : chW prog_11_method_12_code 96 [0, 0, 0, 3, 0, 0, 0, 7, 0, 0, 0, 33, 0, 0, 0, 41, 0, 0, 0, 45, 0, 0, 0, 53, 0, 0, 0, 71, 42, 21, 5, 182, 0, 147, 133, 173] := chW_of (by decide +kernel)
theorem d_11_12_124 : decode prog_11_method_12_code 124 = .ok (.aload_n 0, 1) := D_42 W_prog_11_method_12_code_96 28 rfl rfl
theorem d_11_12_125 : decode prog_11_method_12_code 125 = .ok (.iload 5, 2) := D_21 W_prog_11_method_12_code_96 29 rfl rfl
theorem d_11_12_127 : decode prog_11_method_12_code 127 = .ok (.invokevirtual 147, 3) := D_182 W_prog_11_method_12_code_96 31 rfl rfl rfl
theorem d_12_2_49 : decode prog_12_method_2_code 49 = .ok (.ifCond .eq 11, 3) := D_153 W_prog_12_method_2_code_32 17 rfl rfl rfl
theorem d_12_2_60 : decode prog_12_method_2_code 60 = .ok (.iload_n 2, 1) := D_28 W_prog_12_method_2_code_32 28 rfl rfl
theorem d_12_2_61 : decode prog_12_method_2_code 61 = .ok (.iconst 1, 1) := D_4 W_prog_12_method_2_code_32 29 rfl rfl
theorem d_12_2_62 : decode prog_12_method_2_code 62 = .ok (.iadd, 1) := D_96 W_prog_12_method_2_code_32 30 rfl rfl
theorem d_12_2_52 : decode prog_12_method_2_code 52 = .ok (.aload_n 1, 1) := D_43 W_prog_12_method_2_code_32 20 rfl rfl
theorem d_12_2_53 : decode prog_12_method_2_code 53 = .ok (.iload_n 2, 1) := D_28 W_prog_12_method_2_code_32 21 rfl rfl
theorem d_12_2_54 : decode prog_12_method_2_code 54 = .ok (.invokestatic 39, 3) := D_184 W_prog_12_method_2_code_32 22 rfl rfl rfl
theorem d_12_2_57 : decode prog_12_method_2_code 57 = .ok (.goto 6, 3) := D_167 W_prog_12_method_2_code_32 25 rfl rfl rfl
theorem d_12_2_38 : decode prog_12_method_2_code 38 = .ok (.iinc 2 1, 3) := D_132 W_prog_12_method_2_code_32 6 rfl rfl rfl
theorem d_12_2_41 : decode prog_12_method_2_code 41 = .ok (.goto 88, 3) := D_167 W_prog_12_method_2_code_32 9 rfl rfl rfl
theorem W_prog_12_method_2_code_128 : chW prog_12_method_2_code 128 [1, 132, 4, 1, 167, 255, 131, 42, 180, 0, 9, 29, 3, 79, 42, 180, 0, 15, 29, 43, 180, 0, 22, 79, 42, 180, 0, 18, 29, 9, 80, 42, 3, 181, 0, 54] := chW_of (by decide +kernel)
theorem d_12_2_129 : decode prog_12_method_2_code 129 = .ok (.iinc 4 1, 3) := D_132 W_prog_12_method_2_code_128 1 rfl rfl rfl
theorem d_12_2_132 : decode prog_12_method_2_code 132 = .ok (.goto (-125), 3) := D_167 W_prog_12_method_2_code_128 4 rfl rfl rfl
theorem d_12_2_63 : decode prog_12_method_2_code 63 = .ok (.istore 6, 2) := D_54 W_prog_12_method_2_code_32 31 rfl rfl
theorem W_prog_12_method_2_code_64 : chW prog_12_method_2_code 64 [6, 42, 180, 0, 15, 29, 28, 79, 21, 5, 184, 0, 36, 153, 0, 15, 42, 43, 29, 28, 21, 6, 182, 0, 43, 167, 0, 34, 42, 180, 0, 9, 29, 18, 47, 21] := chW_of (by decide +kernel)
theorem d_12_2_65 : decode prog_12_method_2_code 65 = .ok (.aload_n 0, 1) := D_42 W_prog_12_method_2_code_64 1 rfl rfl
theorem d_12_2_66 : decode prog_12_method_2_code 66 = .ok (.getfield 15, 3) := D_180 W_prog_12_method_2_code_64 2 rfl rfl rfl
theorem d_12_2_69 : decode prog_12_method_2_code 69 = .ok (.iload_n 3, 1) := D_29 W_prog_12_method_2_code_64 5 rfl rfl
theorem d_12_2_70 : decode prog_12_method_2_code 70 = .ok (.iload_n 2, 1) := D_28 W_prog_12_method_2_code_64 6 rfl rfl
theorem d_12_2_71 : decode prog_12_method_2_code 71 = .ok (.iastore, 1) := D_79 W_prog_12_method_2_code_64 7 rfl rfl
theorem d_12_2_72 : decode prog_12_method_2_code 72 = .ok (.iload 5, 2) := D_21 W_prog_12_method_2_code_64 8 rfl rfl
theorem d_12_2_74 : decode prog_12_method_2_code 74 = .ok (.invokestatic 36, 3) := D_184 W_prog_12_method_2_code_64 10 rfl rfl rfl
