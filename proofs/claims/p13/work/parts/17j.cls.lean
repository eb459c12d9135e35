theorem k_5_57 : (Jvm.Cond.methodLink "StaveHouse$Part" (136 : Nat) ({ cls := "java/lang/Math", name := "min", desc := "(JJ)J" } : Jvm.MethodName)) ∈ wAll := wA_5 (j := 57) rfl rfl
theorem k_6_69 : (Jvm.Cond.fieldLink "StaveHouse$Performance" (44 : Nat) "StaveHouse$Performance" "latest" "I") ∈ wAll := wA_6 (j := 69) rfl rfl
theorem k_2_191 : (Jvm.Cond.fieldLink "StaveHouse$Performance" (47 : Nat) "StaveHouse$Piece" "partCount" "I") ∈ wAll := wA_2 (j := 191) rfl rfl
theorem k_4_27 : (Jvm.Cond.methodLink "StaveHouse$Parser" (304 : Nat) ({ cls := "java/lang/String", name := "length", desc := "()I" } : Jvm.MethodName)) ∈ wAll := wA_4 (j := 27) rfl rfl
theorem k_7_132 : (Jvm.Cond.methodLink "StaveHouse$ByteRow" (29 : Nat) ({ cls := "java/lang/String", name := "length", desc := "()I" } : Jvm.MethodName)) ∈ wAll := wA_7 (j := 132) rfl rfl
theorem k_8_43 : (Jvm.Cond.methodLink "StaveHouse$SoundFile" (98 : Nat) ({ cls := "java/lang/String", name := "length", desc := "()I" } : Jvm.MethodName)) ∈ wAll := wA_8 (j := 43) rfl rfl
theorem k_9_107 : (Jvm.Cond.methodLink "StaveHouse$Part" (231 : Nat) ({ cls := "StaveHouse$Part", name := "sameFraction", desc := "(LStaveHouse$Event;LStaveHouse$Event;LStaveHouse$Event;LStaveHouse$Event;)Z" } : Jvm.MethodName)) ∈ wAll := wA_9 (j := 107) rfl rfl
theorem k_9_108 : (Jvm.Cond.static ({ cls := "StaveHouse$Part", name := "sameFraction", desc := "(LStaveHouse$Event;LStaveHouse$Event;LStaveHouse$Event;LStaveHouse$Event;)Z" } : Jvm.MethodName)) ∈ wAll := wA_9 (j := 108) rfl rfl
theorem k_9_109 : (Jvm.Cond.code ({ cls := "StaveHouse$Part", name := "sameFraction", desc := "(LStaveHouse$Event;LStaveHouse$Event;LStaveHouse$Event;LStaveHouse$Event;)Z" } : Jvm.MethodName) prog_6_method_29_code (8 : Nat) (Option.some Jvm.ClassFile.FieldType.boolean)) ∈ wAll := wA_9 (j := 109) rfl rfl
theorem k_8_63 : (Jvm.Cond.constantLong "StaveHouse$SoundFile" (110 : Nat) (6 : Int64)) ∈ wAll := wA_8 (j := 63) rfl rfl
theorem k_8_44 : (Jvm.Cond.methodLink "StaveHouse$SoundFile" (103 : Nat) ({ cls := "java/lang/String", name := "charAt", desc := "(I)C" } : Jvm.MethodName)) ∈ wAll := wA_8 (j := 44) rfl rfl
theorem k_9_52 : (Jvm.Cond.methodLink "StaveHouse$Study" (171 : Nat) ({ cls := "StaveHouse$Study", name := "tonesAbove", desc := "(II)I" } : Jvm.MethodName)) ∈ wAll := wA_9 (j := 52) rfl rfl
theorem k_9_54 : (Jvm.Cond.instanceMethod ({ cls := "StaveHouse$Study", name := "tonesAbove", desc := "(II)I" } : Jvm.MethodName)) ∈ wAll := wA_9 (j := 54) rfl rfl
theorem ks_127 : (Jvm.Cond.selects "StaveHouse$Study" ({ cls := "StaveHouse$Study", name := "tonesAbove", desc := "(II)I" } : Jvm.MethodName) ({ cls := "StaveHouse$Study", name := "tonesAbove", desc := "(II)I" } : Jvm.MethodName)) ∈ wAll := wA_s (j := 127) rfl rfl
theorem k_9_55 : (Jvm.Cond.code ({ cls := "StaveHouse$Study", name := "tonesAbove", desc := "(II)I" } : Jvm.MethodName) prog_11_method_16_code (5 : Nat) (Option.some Jvm.ClassFile.FieldType.int)) ∈ wAll := wA_9 (j := 55) rfl rfl
theorem k_9_61 : (Jvm.Cond.fieldLink "StaveHouse$Study" (174 : Nat) "StaveHouse$Study" "CHORD_TONES" "[I") ∈ wAll := wA_9 (j := 61) rfl rfl
theorem k_9_63 : (Jvm.Cond.fieldLink "StaveHouse$Study" (177 : Nat) "StaveHouse$Study" "CHORD_KINDS" "[I") ∈ wAll := wA_9 (j := 63) rfl rfl
theorem k_9_97 : (Jvm.Cond.methodLink "StaveHouse$Event" (36 : Nat) ({ cls := "StaveHouse$Event", name := "top", desc := "()I" } : Jvm.MethodName)) ∈ wAll := wA_9 (j := 97) rfl rfl
theorem k_6_18 : (Jvm.Cond.instanceMethod ({ cls := "StaveHouse$Event", name := "top", desc := "()I" } : Jvm.MethodName)) ∈ wAll := wA_6 (j := 18) rfl rfl
theorem k_6_19 : (Jvm.Cond.selects "StaveHouse$Event" ({ cls := "StaveHouse$Event", name := "top", desc := "()I" } : Jvm.MethodName) ({ cls := "StaveHouse$Event", name := "top", desc := "()I" } : Jvm.MethodName)) ∈ wAll := wA_6 (j := 19) rfl rfl
theorem k_6_20 : (Jvm.Cond.code ({ cls := "StaveHouse$Event", name := "top", desc := "()I" } : Jvm.MethodName) prog_3_method_8_code (3 : Nat) (Option.some Jvm.ClassFile.FieldType.int)) ∈ wAll := wA_6 (j := 20) rfl rfl
theorem k_9_93 : (Jvm.Cond.methodLink "StaveHouse$Part" (227 : Nat) ({ cls := "StaveHouse$Event", name := "topStep", desc := "()I" } : Jvm.MethodName)) ∈ wAll := wA_9 (j := 93) rfl rfl
theorem k_9_94 : (Jvm.Cond.instanceMethod ({ cls := "StaveHouse$Event", name := "topStep", desc := "()I" } : Jvm.MethodName)) ∈ wAll := wA_9 (j := 94) rfl rfl
theorem k_9_95 : (Jvm.Cond.selects "StaveHouse$Event" ({ cls := "StaveHouse$Event", name := "topStep", desc := "()I" } : Jvm.MethodName) ({ cls := "StaveHouse$Event", name := "topStep", desc := "()I" } : Jvm.MethodName)) ∈ wAll := wA_9 (j := 95) rfl rfl
theorem k_9_96 : (Jvm.Cond.code ({ cls := "StaveHouse$Event", name := "topStep", desc := "()I" } : Jvm.MethodName) prog_3_method_9_code (2 : Nat) (Option.some Jvm.ClassFile.FieldType.int)) ∈ wAll := wA_9 (j := 96) rfl rfl
theorem k_3_71 : (Jvm.Cond.methodLink "java/lang/String" (633 : Nat) ({ cls := "java/lang/String", name := "indexOf", desc := "(II)I" } : Jvm.MethodName)) ∈ wAll := wA_3 (j := 71) rfl rfl
theorem k_3_72 : (Jvm.Cond.instanceMethod ({ cls := "java/lang/String", name := "indexOf", desc := "(II)I" } : Jvm.MethodName)) ∈ wAll := wA_3 (j := 72) rfl rfl
theorem k_3_73 : (Jvm.Cond.selects "java/lang/String" ({ cls := "java/lang/String", name := "indexOf", desc := "(II)I" } : Jvm.MethodName) ({ cls := "java/lang/String", name := "indexOf", desc := "(II)I" } : Jvm.MethodName)) ∈ wAll := wA_3 (j := 73) rfl rfl
theorem k_3_74 : (Jvm.Cond.code ({ cls := "java/lang/String", name := "indexOf", desc := "(II)I" } : Jvm.MethodName) prog_21_method_80_code (3 : Nat) (Option.some Jvm.ClassFile.FieldType.int)) ∈ wAll := wA_3 (j := 74) rfl rfl
theorem k_4_28 : (Jvm.Cond.methodLink "StaveHouse$Parser" (308 : Nat) ({ cls := "java/lang/String", name := "indexOf", desc := "(I)I" } : Jvm.MethodName)) ∈ wAll := wA_4 (j := 28) rfl rfl
theorem k_3_68 : (Jvm.Cond.instanceMethod ({ cls := "java/lang/String", name := "indexOf", desc := "(I)I" } : Jvm.MethodName)) ∈ wAll := wA_3 (j := 68) rfl rfl
theorem k_3_69 : (Jvm.Cond.selects "java/lang/String" ({ cls := "java/lang/String", name := "indexOf", desc := "(I)I" } : Jvm.MethodName) ({ cls := "java/lang/String", name := "indexOf", desc := "(I)I" } : Jvm.MethodName)) ∈ wAll := wA_3 (j := 69) rfl rfl
theorem k_3_70 : (Jvm.Cond.code ({ cls := "java/lang/String", name := "indexOf", desc := "(I)I" } : Jvm.MethodName) prog_21_method_79_code (2 : Nat) (Option.some Jvm.ClassFile.FieldType.int)) ∈ wAll := wA_3 (j := 70) rfl rfl
theorem k_5_60 : (Jvm.Cond.methodLink "StaveHouse$Part" (142 : Nat) ({ cls := "StaveHouse$Part", name := "writeTuplet", desc := "(IIJ)V" } : Jvm.MethodName)) ∈ wAll := wA_5 (j := 60) rfl rfl
theorem k_5_62 : (Jvm.Cond.instanceMethod ({ cls := "StaveHouse$Part", name := "writeTuplet", desc := "(IIJ)V" } : Jvm.MethodName)) ∈ wAll := wA_5 (j := 62) rfl rfl
theorem ks_50 : (Jvm.Cond.selects "StaveHouse$Part" ({ cls := "StaveHouse$Part", name := "writeTuplet", desc := "(IIJ)V" } : Jvm.MethodName) ({ cls := "StaveHouse$Part", name := "writeTuplet", desc := "(IIJ)V" } : Jvm.MethodName)) ∈ wAll := wA_s (j := 50) rfl rfl
theorem k_5_63 : (Jvm.Cond.code ({ cls := "StaveHouse$Part", name := "writeTuplet", desc := "(IIJ)V" } : Jvm.MethodName) prog_6_method_12_code (11 : Nat) (Option.none : Option Jvm.ClassFile.FieldType)) ∈ wAll := wA_5 (j := 63) rfl rfl
theorem k_5_82 : (Jvm.Cond.methodLink "StaveHouse$Part" (154 : Nat) ({ cls := "StaveHouse$Part", name := "writeCut", desc := "(LStaveHouse$Piece;IJJ)V" } : Jvm.MethodName)) ∈ wAll := wA_5 (j := 82) rfl rfl
theorem k_5_84 : (Jvm.Cond.instanceMethod ({ cls := "StaveHouse$Part", name := "writeCut", desc := "(LStaveHouse$Piece;IJJ)V" } : Jvm.MethodName)) ∈ wAll := wA_5 (j := 84) rfl rfl
theorem ks_52 : (Jvm.Cond.selects "StaveHouse$Part" ({ cls := "StaveHouse$Part", name := "writeCut", desc := "(LStaveHouse$Piece;IJJ)V" } : Jvm.MethodName) ({ cls := "StaveHouse$Part", name := "writeCut", desc := "(LStaveHouse$Piece;IJJ)V" } : Jvm.MethodName)) ∈ wAll := wA_s (j := 52) rfl rfl
theorem k_5_85 : (Jvm.Cond.code ({ cls := "StaveHouse$Part", name := "writeCut", desc := "(LStaveHouse$Piece;IJJ)V" } : Jvm.MethodName) prog_6_method_11_code (16 : Nat) (Option.none : Option Jvm.ClassFile.FieldType)) ∈ wAll := wA_5 (j := 85) rfl rfl
theorem k_6_17 : (Jvm.Cond.methodLink "StaveHouse$Study" (102 : Nat) ({ cls := "StaveHouse$Event", name := "top", desc := "()I" } : Jvm.MethodName)) ∈ wAll := wA_6 (j := 17) rfl rfl
theorem k_6_116 : (Jvm.Cond.methodLink "StaveHouse$Performance" (61 : Nat) ({ cls := "StaveHouse$Performance", name := "isTrilled", desc := "(LStaveHouse$Part;I)Z" } : Jvm.MethodName)) ∈ wAll := wA_6 (j := 116) rfl rfl
theorem k_6_117 : (Jvm.Cond.static ({ cls := "StaveHouse$Performance", name := "isTrilled", desc := "(LStaveHouse$Part;I)Z" } : Jvm.MethodName)) ∈ wAll := wA_6 (j := 117) rfl rfl
theorem k_6_118 : (Jvm.Cond.code ({ cls := "StaveHouse$Performance", name := "isTrilled", desc := "(LStaveHouse$Part;I)Z" } : Jvm.MethodName) prog_7_method_3_code (3 : Nat) (Option.some Jvm.ClassFile.FieldType.boolean)) ∈ wAll := wA_6 (j := 118) rfl rfl
theorem k_6_142 : (Jvm.Cond.methodLink "StaveHouse$Performance" (69 : Nat) ({ cls := "StaveHouse$Performance", name := "soundAll", desc := "(LStaveHouse$Part;II)V" } : Jvm.MethodName)) ∈ wAll := wA_6 (j := 142) rfl rfl
theorem k_6_144 : (Jvm.Cond.instanceMethod ({ cls := "StaveHouse$Performance", name := "soundAll", desc := "(LStaveHouse$Part;II)V" } : Jvm.MethodName)) ∈ wAll := wA_6 (j := 144) rfl rfl
theorem ks_76 : (Jvm.Cond.selects "StaveHouse$Performance" ({ cls := "StaveHouse$Performance", name := "soundAll", desc := "(LStaveHouse$Part;II)V" } : Jvm.MethodName) ({ cls := "StaveHouse$Performance", name := "soundAll", desc := "(LStaveHouse$Part;II)V" } : Jvm.MethodName)) ∈ wAll := wA_s (j := 76) rfl rfl
theorem k_6_145 : (Jvm.Cond.code ({ cls := "StaveHouse$Performance", name := "soundAll", desc := "(LStaveHouse$Part;II)V" } : Jvm.MethodName) prog_7_method_7_code (9 : Nat) (Option.none : Option Jvm.ClassFile.FieldType)) ∈ wAll := wA_6 (j := 145) rfl rfl
theorem k_6_122 : (Jvm.Cond.methodLink "StaveHouse$Performance" (65 : Nat) ({ cls := "StaveHouse$Performance", name := "trill", desc := "(LStaveHouse$Piece;II)V" } : Jvm.MethodName)) ∈ wAll := wA_6 (j := 122) rfl rfl
theorem k_6_124 : (Jvm.Cond.instanceMethod ({ cls := "StaveHouse$Performance", name := "trill", desc := "(LStaveHouse$Piece;II)V" } : Jvm.MethodName)) ∈ wAll := wA_6 (j := 124) rfl rfl
theorem ks_74 : (Jvm.Cond.selects "StaveHouse$Performance" ({ cls := "StaveHouse$Performance", name := "trill", desc := "(LStaveHouse$Piece;II)V" } : Jvm.MethodName) ({ cls := "StaveHouse$Performance", name := "trill", desc := "(LStaveHouse$Piece;II)V" } : Jvm.MethodName)) ∈ wAll := wA_s (j := 74) rfl rfl
theorem k_6_125 : (Jvm.Cond.code ({ cls := "StaveHouse$Performance", name := "trill", desc := "(LStaveHouse$Piece;II)V" } : Jvm.MethodName) prog_7_method_10_code (11 : Nat) (Option.none : Option Jvm.ClassFile.FieldType)) ∈ wAll := wA_6 (j := 125) rfl rfl
theorem k_7_26 : (Jvm.Cond.methodLink "StaveHouse$Layout" (79 : Nat) ({ cls := "StaveHouse$Layout", name := "addColumn", desc := "(LStaveHouse$Piece;I)Z" } : Jvm.MethodName)) ∈ wAll := wA_7 (j := 26) rfl rfl
theorem k_7_28 : (Jvm.Cond.instanceMethod ({ cls := "StaveHouse$Layout", name := "addColumn", desc := "(LStaveHouse$Piece;I)Z" } : Jvm.MethodName)) ∈ wAll := wA_7 (j := 28) rfl rfl
theorem ks_80 : (Jvm.Cond.selects "StaveHouse$Layout" ({ cls := "StaveHouse$Layout", name := "addColumn", desc := "(LStaveHouse$Piece;I)Z" } : Jvm.MethodName) ({ cls := "StaveHouse$Layout", name := "addColumn", desc := "(LStaveHouse$Piece;I)Z" } : Jvm.MethodName)) ∈ wAll := wA_s (j := 80) rfl rfl
theorem k_7_29 : (Jvm.Cond.code ({ cls := "StaveHouse$Layout", name := "addColumn", desc := "(LStaveHouse$Piece;I)Z" } : Jvm.MethodName) prog_4_method_4_code (10 : Nat) (Option.some Jvm.ClassFile.FieldType.boolean)) ∈ wAll := wA_7 (j := 29) rfl rfl
theorem k_7_39 : (Jvm.Cond.methodLink "StaveHouse$Layout" (83 : Nat) ({ cls := "StaveHouse$Piece", name := "barLength", desc := "()J" } : Jvm.MethodName)) ∈ wAll := wA_7 (j := 39) rfl rfl
theorem k_7_40 : (Jvm.Cond.methodLink "StaveHouse$Layout" (87 : Nat) ({ cls := "StaveHouse$Layout", name := "widen", desc := "(IJ)V" } : Jvm.MethodName)) ∈ wAll := wA_7 (j := 40) rfl rfl
theorem k_7_42 : (Jvm.Cond.instanceMethod ({ cls := "StaveHouse$Layout", name := "widen", desc := "(IJ)V" } : Jvm.MethodName)) ∈ wAll := wA_7 (j := 42) rfl rfl
theorem ks_82 : (Jvm.Cond.selects "StaveHouse$Layout" ({ cls := "StaveHouse$Layout", name := "widen", desc := "(IJ)V" } : Jvm.MethodName) ({ cls := "StaveHouse$Layout", name := "widen", desc := "(IJ)V" } : Jvm.MethodName)) ∈ wAll := wA_s (j := 82) rfl rfl
theorem k_7_43 : (Jvm.Cond.code ({ cls := "StaveHouse$Layout", name := "widen", desc := "(IJ)V" } : Jvm.MethodName) prog_4_method_7_code (10 : Nat) (Option.none : Option Jvm.ClassFile.FieldType)) ∈ wAll := wA_7 (j := 43) rfl rfl
theorem k_7_133 : (Jvm.Cond.methodLink "StaveHouse$ByteRow" (35 : Nat) ({ cls := "java/lang/String", name := "charAt", desc := "(I)C" } : Jvm.MethodName)) ∈ wAll := wA_7 (j := 133) rfl rfl
theorem k_7_128 : (Jvm.Cond.methodLink "StaveHouse$Performance" (203 : Nat) ({ cls := "StaveHouse$ByteRow", name := "putText", desc := "(Ljava/lang/String;)V" } : Jvm.MethodName)) ∈ wAll := wA_7 (j := 128) rfl rfl
theorem k_7_129 : (Jvm.Cond.instanceMethod ({ cls := "StaveHouse$ByteRow", name := "putText", desc := "(Ljava/lang/String;)V" } : Jvm.MethodName)) ∈ wAll := wA_7 (j := 129) rfl rfl
theorem k_7_130 : (Jvm.Cond.selects "StaveHouse$ByteRow" ({ cls := "StaveHouse$ByteRow", name := "putText", desc := "(Ljava/lang/String;)V" } : Jvm.MethodName) ({ cls := "StaveHouse$ByteRow", name := "putText", desc := "(Ljava/lang/String;)V" } : Jvm.MethodName)) ∈ wAll := wA_7 (j := 130) rfl rfl
theorem k_7_131 : (Jvm.Cond.code ({ cls := "StaveHouse$ByteRow", name := "putText", desc := "(Ljava/lang/String;)V" } : Jvm.MethodName) prog_2_method_5_code (3 : Nat) (Option.none : Option Jvm.ClassFile.FieldType)) ∈ wAll := wA_7 (j := 131) rfl rfl
theorem k_7_154 : (Jvm.Cond.methodLink "StaveHouse$Performance" (209 : Nat) ({ cls := "StaveHouse$ByteRow", name := "putWide", desc := "(II)V" } : Jvm.MethodName)) ∈ wAll := wA_7 (j := 154) rfl rfl
theorem k_7_155 : (Jvm.Cond.instanceMethod ({ cls := "StaveHouse$ByteRow", name := "putWide", desc := "(II)V" } : Jvm.MethodName)) ∈ wAll := wA_7 (j := 155) rfl rfl
theorem k_7_156 : (Jvm.Cond.selects "StaveHouse$ByteRow" ({ cls := "StaveHouse$ByteRow", name := "putWide", desc := "(II)V" } : Jvm.MethodName) ({ cls := "StaveHouse$ByteRow", name := "putWide", desc := "(II)V" } : Jvm.MethodName)) ∈ wAll := wA_7 (j := 156) rfl rfl
theorem k_7_157 : (Jvm.Cond.code ({ cls := "StaveHouse$ByteRow", name := "putWide", desc := "(II)V" } : Jvm.MethodName) prog_2_method_7_code (4 : Nat) (Option.none : Option Jvm.ClassFile.FieldType)) ∈ wAll := wA_7 (j := 157) rfl rfl
theorem k_7_161 : (Jvm.Cond.methodLink "StaveHouse$Performance" (237 : Nat) ({ cls := "StaveHouse$Performance", name := "beginTrack", desc := "(LStaveHouse$ByteRow;)I" } : Jvm.MethodName)) ∈ wAll := wA_7 (j := 161) rfl rfl
theorem k_7_162 : (Jvm.Cond.static ({ cls := "StaveHouse$Performance", name := "beginTrack", desc := "(LStaveHouse$ByteRow;)I" } : Jvm.MethodName)) ∈ wAll := wA_7 (j := 162) rfl rfl
theorem k_7_163 : (Jvm.Cond.code ({ cls := "StaveHouse$Performance", name := "beginTrack", desc := "(LStaveHouse$ByteRow;)I" } : Jvm.MethodName) prog_7_method_18_code (1 : Nat) (Option.some Jvm.ClassFile.FieldType.int)) ∈ wAll := wA_7 (j := 163) rfl rfl
theorem k_4_118 : (Jvm.Cond.fieldLink "StaveHouse$Performance" (263 : Nat) "StaveHouse$Part" "word" "J") ∈ wAll := wA_4 (j := 118) rfl rfl
theorem k_7_187 : (Jvm.Cond.methodLink "StaveHouse$Performance" (269 : Nat) ({ cls := "StaveHouse$Performance", name := "writeStrokes", desc := "(ILStaveHouse$ByteRow;)V" } : Jvm.MethodName)) ∈ wAll := wA_7 (j := 187) rfl rfl
theorem k_7_189 : (Jvm.Cond.instanceMethod ({ cls := "StaveHouse$Performance", name := "writeStrokes", desc := "(ILStaveHouse$ByteRow;)V" } : Jvm.MethodName)) ∈ wAll := wA_7 (j := 189) rfl rfl
theorem ks_91 : (Jvm.Cond.selects "StaveHouse$Performance" ({ cls := "StaveHouse$Performance", name := "writeStrokes", desc := "(ILStaveHouse$ByteRow;)V" } : Jvm.MethodName) ({ cls := "StaveHouse$Performance", name := "writeStrokes", desc := "(ILStaveHouse$ByteRow;)V" } : Jvm.MethodName)) ∈ wAll := wA_s (j := 91) rfl rfl
theorem k_7_190 : (Jvm.Cond.code ({ cls := "StaveHouse$Performance", name := "writeStrokes", desc := "(ILStaveHouse$ByteRow;)V" } : Jvm.MethodName) prog_7_method_23_code (6 : Nat) (Option.none : Option Jvm.ClassFile.FieldType)) ∈ wAll := wA_7 (j := 190) rfl rfl
theorem k_7_176 : (Jvm.Cond.methodLink "StaveHouse$Performance" (259 : Nat) ({ cls := "StaveHouse$Performance", name := "endTrack", desc := "(LStaveHouse$ByteRow;I)V" } : Jvm.MethodName)) ∈ wAll := wA_7 (j := 176) rfl rfl
theorem k_7_177 : (Jvm.Cond.static ({ cls := "StaveHouse$Performance", name := "endTrack", desc := "(LStaveHouse$ByteRow;I)V" } : Jvm.MethodName)) ∈ wAll := wA_7 (j := 177) rfl rfl
theorem k_7_178 : (Jvm.Cond.code ({ cls := "StaveHouse$Performance", name := "endTrack", desc := "(LStaveHouse$ByteRow;I)V" } : Jvm.MethodName) prog_7_method_19_code (2 : Nat) (Option.none : Option Jvm.ClassFile.FieldType)) ∈ wAll := wA_7 (j := 178) rfl rfl
theorem k_8_45 : (Jvm.Cond.methodLink "StaveHouse$SoundFile" (107 : Nat) ({ cls := "StaveHouse$SoundFile", name := "takeOnly", desc := "(II)V" } : Jvm.MethodName)) ∈ wAll := wA_8 (j := 45) rfl rfl
theorem k_8_47 : (Jvm.Cond.instanceMethod ({ cls := "StaveHouse$SoundFile", name := "takeOnly", desc := "(II)V" } : Jvm.MethodName)) ∈ wAll := wA_8 (j := 47) rfl rfl
theorem ks_94 : (Jvm.Cond.selects "StaveHouse$SoundFile" ({ cls := "StaveHouse$SoundFile", name := "takeOnly", desc := "(II)V" } : Jvm.MethodName) ({ cls := "StaveHouse$SoundFile", name := "takeOnly", desc := "(II)V" } : Jvm.MethodName)) ∈ wAll := wA_s (j := 94) rfl rfl
theorem k_8_48 : (Jvm.Cond.code ({ cls := "StaveHouse$SoundFile", name := "takeOnly", desc := "(II)V" } : Jvm.MethodName) prog_10_method_6_code (4 : Nat) (Option.none : Option Jvm.ClassFile.FieldType)) ∈ wAll := wA_8 (j := 48) rfl rfl
theorem k_8_64 : (Jvm.Cond.constantLong "StaveHouse$SoundFile" (112 : Nat) (8 : Int64)) ∈ wAll := wA_8 (j := 64) rfl rfl
theorem k_8_65 : (Jvm.Cond.methodLink "StaveHouse$SoundFile" (114 : Nat) ({ cls := "StaveHouse$SoundFile", name := "takeBounded", desc := "(IJJ)I" } : Jvm.MethodName)) ∈ wAll := wA_8 (j := 65) rfl rfl
theorem k_8_67 : (Jvm.Cond.instanceMethod ({ cls := "StaveHouse$SoundFile", name := "takeBounded", desc := "(IJJ)I" } : Jvm.MethodName)) ∈ wAll := wA_8 (j := 67) rfl rfl
theorem ks_98 : (Jvm.Cond.selects "StaveHouse$SoundFile" ({ cls := "StaveHouse$SoundFile", name := "takeBounded", desc := "(IJJ)I" } : Jvm.MethodName) ({ cls := "StaveHouse$SoundFile", name := "takeBounded", desc := "(IJJ)I" } : Jvm.MethodName)) ∈ wAll := wA_s (j := 98) rfl rfl
theorem k_8_68 : (Jvm.Cond.code ({ cls := "StaveHouse$SoundFile", name := "takeBounded", desc := "(IJJ)I" } : Jvm.MethodName) prog_10_method_8_code (9 : Nat) (Option.some Jvm.ClassFile.FieldType.int)) ∈ wAll := wA_8 (j := 68) rfl rfl
theorem k_8_69 : (Jvm.Cond.constantLong "StaveHouse$SoundFile" (118 : Nat) (960 : Int64)) ∈ wAll := wA_8 (j := 69) rfl rfl
theorem W_prog_21_method_79_code_0 : chW prog_21_method_79_code 0 [42, 27, 3, 182, 2, 121, 172] := chW_of (by decide +kernel)
theorem W_prog_5_method_27_code_0 : chW prog_5_method_27_code 0 [3, 61, 28, 19, 1, 46, 182, 1, 48, 162, 0, 73, 42, 180, 0, 48, 180, 0, 108, 8, 160, 0, 62, 19, 1, 46, 42, 180, 0, 48, 180, 0, 173, 136, 146, 182] := chW_of (by decide +kernel)
theorem W_prog_6_method_10_code_0 : chW prog_6_method_10_code 0 [43, 182, 0, 55, 55, 7, 33, 55, 9, 33, 22, 5, 97, 55, 11, 3, 54, 13, 21, 13, 16, 100, 163, 0, 153, 22, 9, 22, 11, 148, 156, 0, 145, 22, 7, 9] := chW_of (by decide +kernel)
theorem W_prog_6_method_10_code_32 : chW prog_6_method_10_code 32 [145, 22, 7, 9, 148, 158, 0, 138, 22, 9, 22, 7, 109, 136, 54, 14, 22, 11, 21, 14, 4, 96, 133, 22, 7, 105, 184, 0, 136, 55, 15, 28, 2, 159, 0, 19] := chW_of (by decide +kernel)
theorem W_prog_6_method_10_code_64 : chW prog_6_method_10_code 64 [2, 159, 0, 19, 42, 180, 0, 11, 28, 50, 180, 0, 90, 153, 0, 7, 4, 167, 0, 4, 3, 54, 17, 21, 17, 153, 0, 22, 42, 28, 21, 14, 22, 9, 21, 14] := chW_of (by decide +kernel)
theorem W_prog_6_method_10_code_96 : chW prog_6_method_10_code 96 [22, 9, 21, 14, 133, 22, 7, 105, 101, 182, 0, 142, 167, 0, 57, 28, 2, 159, 0, 15, 42, 180, 0, 11, 28, 50, 182, 0, 146, 153, 0, 27, 22, 15, 22, 9] := chW_of (by decide +kernel)
theorem W_prog_11_method_6_code_0 : chW prog_11_method_6_code 0 [3, 62, 29, 43, 180, 0, 58, 162, 0, 136, 42, 43, 29, 28, 182, 0, 98, 58, 4, 42, 180, 0, 30, 29, 42, 180, 0, 23, 29, 46, 79, 42, 180, 0, 33, 29] := chW_of (by decide +kernel)
theorem W_prog_11_method_6_code_128 : chW prog_11_method_6_code 128 [10, 25, 4, 21, 5, 182, 0, 107, 79, 132, 3, 1, 167, 255, 118, 177] := chW_of (by decide +kernel)
theorem W_prog_7_method_2_code_0 : chW prog_7_method_2_code 0 [42, 3, 181, 0, 36, 42, 3, 181, 0, 40, 42, 3, 181, 0, 44, 3, 61, 28, 43, 180, 0, 47, 162, 0, 69, 43, 180, 0, 52, 28, 50, 78, 3, 54, 4, 21] := chW_of (by decide +kernel)
theorem W_prog_7_method_2_code_64 : chW prog_7_method_2_code 64 [4, 182, 0, 65, 167, 0, 11, 42, 45, 28, 21, 4, 182, 0, 69, 132, 4, 1, 167, 255, 209, 132, 2, 1, 167, 255, 185, 177] := chW_of (by decide +kernel)
theorem W_prog_7_method_2_code_32 : chW prog_7_method_2_code 32 [3, 54, 4, 21, 4, 45, 180, 0, 56, 162, 0, 44, 42, 180, 0, 40, 154, 0, 37, 45, 21, 4, 184, 0, 61, 153, 0, 14, 42, 43, 28, 21, 4, 182, 0, 65] := chW_of (by decide +kernel)
theorem W_prog_4_method_3_code_0 : chW prog_4_method_3_code 0 [42, 3, 181, 0, 76, 3, 62, 29, 7, 162, 0, 16, 42, 180, 0, 43, 29, 3, 79, 132, 3, 1, 167, 255, 241, 3, 62, 29, 28, 162, 0, 116, 42, 180, 0, 22] := chW_of (by decide +kernel)
theorem d_4_3_19 : decode prog_4_method_3_code 19 = .ok (.iinc 3 1, 3) := D_132 W_prog_4_method_3_code_0 19 rfl rfl rfl
theorem W_prog_4_method_3_code_128 : chW prog_4_method_3_code 128 [21, 4, 46, 96, 79, 132, 4, 1, 167, 255, 228, 132, 3, 1, 167, 255, 141, 42, 180, 0, 22, 28, 42, 180, 0, 76, 79, 177] := chW_of (by decide +kernel)
theorem W_prog_4_method_3_code_32 : chW prog_4_method_3_code 32 [42, 180, 0, 22, 29, 42, 180, 0, 76, 79, 3, 54, 4, 21, 4, 17, 12, 128, 162, 0, 28, 42, 43, 29, 182, 0, 79, 153, 0, 19, 42, 89, 180, 0, 76, 4] := chW_of (by decide +kernel)
theorem W_prog_2_method_5_code_0 : chW prog_2_method_5_code 0 [3, 61, 28, 43, 182, 0, 29, 162, 0, 18, 42, 43, 28, 182, 0, 35, 182, 0, 39, 132, 2, 1, 167, 255, 236, 177] := chW_of (by decide +kernel)
theorem W_prog_7_method_18_code_0 : chW prog_7_method_18_code 0 [42, 18, 221, 182, 0, 203, 42, 3, 7, 182, 0, 209, 42, 180, 0, 223, 172] := chW_of (by decide +kernel)
theorem W_prog_7_method_22_code_0 : chW prog_7_method_22_code 0 [45, 184, 0, 237, 54, 4, 3, 54, 5, 3, 54, 6, 21, 6, 16, 8, 162, 0, 27, 43, 180, 1, 7, 16, 8, 21, 6, 104, 125, 9, 148, 153, 0, 12, 132, 5] := chW_of (by decide +kernel)
theorem W_prog_10_method_12_code_0 : chW prog_10_method_12_code 0 [18, 96, 76, 3, 61, 28, 43, 182, 0, 98, 162, 0, 23, 42, 43, 28, 182, 0, 103, 43, 28, 182, 0, 103, 182, 0, 107, 132, 2, 1, 167, 255, 231, 42, 180, 0] := chW_of (by decide +kernel)
theorem W_prog_11_method_15_code_0 : chW prog_11_method_15_code 0 [3, 61, 28, 16, 7, 162, 0, 41, 28, 5, 112, 154, 0, 7, 4, 167, 0, 4, 3, 62, 42, 180, 0, 40, 27, 28, 96, 16, 7, 112, 46, 184, 0, 142, 29, 164] := chW_of (by decide +kernel)
theorem W_prog_11_method_15_code_32 : chW prog_11_method_15_code 32 [0, 142, 29, 164, 0, 5, 2, 172, 132, 2, 1, 167, 255, 215, 42, 180, 0, 40, 27, 46, 154, 0, 5, 2, 172, 17, 39, 16, 42, 27, 5, 182, 0, 171, 104, 16] := chW_of (by decide +kernel)
theorem W_prog_3_method_9_code_0 : chW prog_3_method_9_code 0 [42, 182, 0, 36, 60, 27, 2, 160, 0, 7, 3, 167, 0, 9, 42, 180, 0, 9, 27, 46, 172] := chW_of (by decide +kernel)
theorem W_prog_6_method_28_code_0 : chW prog_6_method_28_code 0 [21, 5, 4, 126, 153, 0, 7, 4, 167, 0, 4, 3, 54, 6, 21, 5, 5, 126, 153, 0, 7, 4, 167, 0, 4, 3, 54, 7, 21, 5, 7, 126, 153, 0, 7, 4] := chW_of (by decide +kernel)
theorem W_prog_6_method_28_code_32 : chW prog_6_method_28_code 32 [153, 0, 7, 4, 167, 0, 4, 3, 54, 8, 44, 180, 0, 11, 29, 50, 58, 9, 42, 180, 0, 11, 21, 7, 153, 0, 12, 27, 21, 4, 96, 4, 100, 167, 0, 4] := chW_of (by decide +kernel)
theorem W_prog_6_method_28_code_64 : chW prog_6_method_28_code 64 [100, 167, 0, 4, 27, 50, 58, 10, 1, 58, 11, 1, 58, 12, 3, 54, 13, 21, 13, 21, 4, 162, 0, 189, 44, 180, 0, 11, 29, 21, 13, 96, 50, 58, 14, 42] := chW_of (by decide +kernel)
theorem W_prog_6_method_28_code_256 : chW prog_6_method_28_code 256 [17, 116, 167, 0, 5, 21, 17, 159, 0, 5, 3, 172, 132, 13, 1, 167, 255, 66, 4, 172] := chW_of (by decide +kernel)
theorem W_prog_6_method_28_code_96 : chW prog_6_method_28_code 96 [50, 58, 14, 42, 180, 0, 11, 21, 7, 153, 0, 15, 27, 21, 4, 96, 4, 100, 21, 13, 100, 167, 0, 7, 27, 21, 13, 96, 50, 58, 15, 21, 8, 153, 0, 17] := chW_of (by decide +kernel)
theorem W_prog_6_method_28_code_128 : chW prog_6_method_28_code 128 [8, 153, 0, 17, 25, 9, 25, 10, 25, 14, 25, 15, 184, 0, 231, 167, 0, 22, 25, 14, 180, 0, 87, 25, 15, 180, 0, 87, 148, 154, 0, 7, 4, 167, 0, 4] := chW_of (by decide +kernel)
theorem W_prog_6_method_28_code_160 : chW prog_6_method_28_code 160 [4, 167, 0, 4, 3, 54, 16, 21, 16, 153, 0, 16, 25, 14, 182, 0, 146, 25, 15, 182, 0, 146, 159, 0, 5, 3, 172, 25, 12, 199, 0, 19, 25, 14, 182, 0] := chW_of (by decide +kernel)
theorem W_prog_5_method_27_code_32 : chW prog_5_method_27_code 32 [173, 136, 146, 182, 1, 52, 62, 29, 155, 0, 16, 42, 180, 0, 33, 27, 46, 29, 122, 4, 126, 153, 0, 4, 177, 42, 180, 0, 33, 27, 92, 46, 4, 29, 120, 128] := chW_of (by decide +kernel)
theorem W_prog_11_method_6_code_32 : chW prog_11_method_6_code 32 [180, 0, 33, 29, 42, 180, 0, 27, 29, 46, 79, 25, 4, 199, 0, 7, 2, 167, 0, 8, 25, 4, 182, 0, 102, 54, 5, 42, 180, 0, 36, 29, 25, 4, 198, 0] := chW_of (by decide +kernel)
theorem W_prog_10_method_12_code_32 : chW prog_10_method_12_code 32 [231, 42, 180, 0, 27, 61, 42, 7, 182, 0, 54, 66, 33, 20, 0, 110, 148, 156, 0, 9, 42, 6, 28, 182, 0, 83, 42, 3, 3, 182, 0, 107, 42, 3, 4, 182] := chW_of (by decide +kernel)
theorem W_prog_6_method_28_code_192 : chW prog_6_method_28_code 192 [25, 14, 182, 0, 146, 154, 0, 11, 25, 14, 58, 11, 25, 15, 58, 12, 25, 12, 198, 0, 58, 25, 11, 198, 0, 53, 25, 14, 182, 0, 146, 154, 0, 45, 25, 14] := chW_of (by decide +kernel)
theorem W_prog_6_method_28_code_224 : chW prog_6_method_28_code 224 [0, 45, 25, 14, 182, 0, 227, 25, 11, 182, 0, 227, 100, 54, 17, 25, 15, 182, 0, 227, 25, 12, 182, 0, 227, 100, 21, 6, 153, 0, 9, 21, 17, 116, 167, 0] := chW_of (by decide +kernel)
theorem W_prog_11_method_15_code_64 : chW prog_11_method_15_code 64 [0, 171, 104, 16, 100, 42, 27, 7, 182, 0, 171, 104, 96, 42, 27, 16, 6, 182, 0, 171, 96, 61, 3, 62, 29, 178, 0, 174, 190, 162, 0, 24, 178, 0, 174, 29] := chW_of (by decide +kernel)
theorem d_11_15_40 : decode prog_11_method_15_code 40 = .ok (.iinc 2 1, 3) := D_132 W_prog_11_method_15_code_32 8 rfl rfl rfl
theorem W_prog_11_method_15_code_96 : chW prog_11_method_15_code 96 [178, 0, 174, 29, 46, 28, 160, 0, 9, 178, 0, 177, 29, 46, 172, 132, 3, 1, 167, 255, 230, 2, 172] := chW_of (by decide +kernel)
theorem d_11_15_111 : decode prog_11_method_15_code 111 = .ok (.iinc 3 1, 3) := D_132 W_prog_11_method_15_code_96 15 rfl rfl rfl
theorem d_6_28_268 : decode prog_6_method_28_code 268 = .ok (.iinc 13 1, 3) := D_132 W_prog_6_method_28_code_256 12 rfl rfl rfl
theorem W_prog_5_method_27_code_64 : chW prog_5_method_27_code 64 [4, 29, 120, 128, 79, 42, 180, 0, 48, 182, 0, 122, 132, 2, 1, 167, 255, 179, 177] := chW_of (by decide +kernel)
theorem d_5_27_76 : decode prog_5_method_27_code 76 = .ok (.iinc 2 1, 3) := D_132 W_prog_5_method_27_code_64 12 rfl rfl rfl
theorem W_prog_6_method_10_code_160 : chW prog_6_method_10_code 160 [9, 101, 182, 0, 154, 22, 15, 55, 9, 132, 13, 1, 167, 255, 102, 177] := chW_of (by decide +kernel)
theorem d_6_10_169 : decode prog_6_method_10_code 169 = .ok (.iinc 13 1, 3) := D_132 W_prog_6_method_10_code_160 9 rfl rfl rfl
theorem W_prog_6_method_10_code_128 : chW prog_6_method_10_code 128 [22, 15, 22, 9, 101, 22, 7, 148, 154, 0, 16, 42, 28, 21, 14, 9, 16, 29, 182, 0, 150, 167, 0, 16, 42, 43, 28, 22, 9, 22, 15, 22, 9, 101, 182, 0] := chW_of (by decide +kernel)
theorem W_prog_11_method_6_code_64 : chW prog_11_method_6_code 64 [25, 4, 198, 0, 22, 25, 4, 180, 0, 90, 42, 180, 0, 9, 28, 47, 148, 154, 0, 7, 4, 167, 0, 4, 3, 84, 42, 180, 0, 23, 29, 21, 5, 2, 160, 0] := chW_of (by decide +kernel)
theorem W_prog_11_method_6_code_96 : chW prog_11_method_6_code 96 [5, 2, 160, 0, 7, 2, 167, 0, 11, 25, 4, 180, 0, 106, 21, 5, 46, 79, 42, 180, 0, 27, 29, 21, 5, 2, 160, 0, 7, 2, 167, 0, 10, 25, 4, 21] := chW_of (by decide +kernel)
theorem d_11_6_137 : decode prog_11_method_6_code 137 = .ok (.iinc 3 1, 3) := D_132 W_prog_11_method_6_code_128 9 rfl rfl rfl
theorem d_7_2_79 : decode prog_7_method_2_code 79 = .ok (.iinc 4 1, 3) := D_132 W_prog_7_method_2_code_64 15 rfl rfl rfl
theorem d_7_2_85 : decode prog_7_method_2_code 85 = .ok (.iinc 2 1, 3) := D_132 W_prog_7_method_2_code_64 21 rfl rfl rfl
theorem W_prog_4_method_3_code_64 : chW prog_4_method_3_code 64 [180, 0, 76, 4, 96, 181, 0, 76, 132, 4, 1, 167, 255, 226, 42, 42, 180, 0, 22, 29, 46, 43, 182, 0, 83, 182, 0, 87, 42, 180, 0, 25, 29, 16, 6, 79] := chW_of (by decide +kernel)
theorem d_4_3_72 : decode prog_4_method_3_code 72 = .ok (.iinc 4 1, 3) := D_132 W_prog_4_method_3_code_64 8 rfl rfl rfl
theorem W_prog_4_method_3_code_96 : chW prog_4_method_3_code 96 [29, 16, 6, 79, 42, 180, 0, 22, 29, 46, 54, 4, 21, 4, 42, 180, 0, 76, 162, 0, 25, 42, 180, 0, 25, 29, 92, 46, 42, 180, 0, 15, 21, 4, 46, 96] := chW_of (by decide +kernel)
theorem d_4_3_139 : decode prog_4_method_3_code 139 = .ok (.iinc 3 1, 3) := D_132 W_prog_4_method_3_code_128 11 rfl rfl rfl
theorem d_4_3_133 : decode prog_4_method_3_code 133 = .ok (.iinc 4 1, 3) := D_132 W_prog_4_method_3_code_128 5 rfl rfl rfl
theorem d_2_5_19 : decode prog_2_method_5_code 19 = .ok (.iinc 2 1, 3) := D_132 W_prog_2_method_5_code_0 19 rfl rfl rfl
theorem W_prog_7_method_22_code_32 : chW prog_7_method_22_code 32 [0, 12, 132, 5, 1, 132, 6, 1, 167, 255, 228, 45, 6, 21, 5, 184, 0, 226, 21, 5, 4, 100, 54, 6, 21, 6, 155, 0, 24, 45, 43, 180, 1, 7, 16, 8] := chW_of (by decide +kernel)
theorem d_7_22_34 : decode prog_7_method_22_code 34 = .ok (.iinc 5 1, 3) := D_132 W_prog_7_method_22_code_32 2 rfl rfl rfl
theorem d_7_22_37 : decode prog_7_method_22_code 37 = .ok (.iinc 6 1, 3) := D_132 W_prog_7_method_22_code_32 5 rfl rfl rfl
theorem W_prog_7_method_22_code_64 : chW prog_7_method_22_code 64 [1, 7, 16, 8, 21, 6, 104, 125, 136, 182, 0, 233, 132, 6, 255, 167, 255, 233, 45, 3, 182, 0, 233, 45, 17, 0, 192, 28, 96, 182, 0, 233, 45, 43, 180, 1] := chW_of (by decide +kernel)
theorem W_prog_7_method_22_code_96 : chW prog_7_method_22_code 96 [45, 43, 180, 1, 10, 182, 0, 233, 42, 28, 45, 182, 1, 13, 45, 21, 4, 184, 1, 3, 177] := chW_of (by decide +kernel)
theorem d_7_22_76 : decode prog_7_method_22_code 76 = .ok (.iinc 6 (-1), 3) := D_132 W_prog_7_method_22_code_64 12 rfl rfl rfl
theorem d_10_12_27 : decode prog_10_method_12_code 27 = .ok (.iinc 2 1, 3) := D_132 W_prog_10_method_12_code_0 27 rfl rfl rfl
theorem W_prog_10_method_12_code_64 : chW prog_10_method_12_code 64 [42, 3, 4, 182, 0, 107, 42, 180, 0, 9, 3, 42, 5, 10, 20, 0, 112, 182, 0, 114, 79, 42, 180, 0, 9, 4, 42, 5, 10, 20, 0, 118, 182, 0, 114, 79] := chW_of (by decide +kernel)
theorem W_prog_10_method_12_code_96 : chW prog_10_method_12_code 96 [182, 0, 114, 79, 42, 33, 20, 0, 110, 101, 182, 0, 70, 177] := chW_of (by decide +kernel)
abbrev Q_Study_chordKind (K : zK) (D : va_G) (ca : Nat → ClassId) (ad : Nat → Int → Nat → Nat) (L : List Nat) (r : Int) (F : zF) (B : zB) (A : Nat → Prop) : Array Value → State → Outcome → State → Prop := va_Qi (S := Unit) (fun p _ => p = iI r) (fun _ => zPo D ca ad lnC K.2 L F B A) A
def f_Study_chordKind_88 (K : zK) : Nat → Int → Int → zF → zB → zO
  | 0, _, _, _, _ => none
  | n + 1, l3, l2, F, B => if r32 l3 then if r32 (ztl 16) then (if (ztl 16) ≤ l3 then some ((-1), F, B) else if 0 ≤ l3 ∧ l3 < ztl 16 then if r32 (ztv 16 l3) then if r32 l2 then (if (ztv 16 l3) = l2 then if 0 ≤ l3 ∧ l3 < ztl 17 then some (ztv 17 l3, F, B) else none else f_Study_chordKind_88 K n (l3 + 1) l2 F B) else none else none else none) else none else none
set_option maxHeartbeats 4000000 in
set_option maxRecDepth 100000 in
theorem b_Study_chordKind_88 {D : va_G} {ca : Nat → ClassId} {ad : Nat → Int → Nat → Nat} {L : List Nat} {aS vS : Nat → Nat} {A : Nat → Prop} {p : Program} {l : Launch} {e : Env} {s : State} {m : MethodId} {args : Array Value} {below : List Frame} {meth : Method} {c : Code} {K : zK} {r : Int} {F9 : zF} {B9 : zB} (X : zX D ca L aS vS A p s m args meth c prog_11_method_15_code 4 (Option.some Jvm.ClassFile.FieldType.int) "StaveHouse$Study") : ∀ {n : Nat} {l3 : Int} {l2 : Int} {F : zF} {B : zB} {H : Heap} {locs : List Loc} {ls : Array Slot}, f_Study_chordKind_88 K n l3 l2 F B = some (r, F9, B9) → zH D ca ad lnC K.2 L F B A H → va_S A s.heap H locs → lv_has ls 4 [(3, .int (iI l3)), (2, .int (iI l2))] → W p l e ({ frames := 3, cells := 0, slots := 0, locals := 65 } : Room) s m args below meth c H locs 0 0 (MQ below (Q_Study_chordKind K D ca ad L r F9 B9 A) args s 0 0 A) (F0 m 88 ls []) := by
  obtain ⟨hx, hb, hr, hml, hown, hts, hlk, hK, hA, hL, hX⟩ := id X
  intro n
  induction n with
  | zero =>
    intros
    rename_i hf _ _ _
    cases hf
  | succ n ih =>
    intro l3 l2 F B H locs ls hf hZ hS hl
    replace hf : (if r32 l3 then if r32 (ztl 16) then (if (ztl 16) ≤ l3 then some ((-1), F, B) else if 0 ≤ l3 ∧ l3 < ztl 16 then if r32 (ztv 16 l3) then if r32 l2 then (if (ztv 16 l3) = l2 then if 0 ≤ l3 ∧ l3 < ztl 17 then some (ztv 17 l3, F, B) else none else f_Study_chordKind_88 K n (l3 + 1) l2 F B) else none else none else none) else none else none) = some (r, F9, B9) := hf
    refine lv_iload_n hx hb (D_29 W_prog_11_method_15_code_64 24 rfl rfl) rfl (lv_at hl 0 rfl) ?_
    refine va_gets hx hb (hX.2.2.2.2.2.2 16 _ rfl).1 hS hown (hts _ k_9_61) (fun _ h => h) (D_178 W_prog_11_method_15_code_64 25 rfl rfl rfl) ?_
    refine W.eq (g2 := F0 m 92 ls [.ref (vS (1000 + 16)), .int (iI l3)]) rfl ?_
    refine va_tlen (v := iI (ztl 16)) hx hb (ztT hX (by decide)) hS (ztl_n _) (D_190 W_prog_11_method_15_code_64 28 rfl rfl) ?_
    obtain ⟨g18, hf⟩ := gif hf
    obtain ⟨g19, hf⟩ := gif hf
    refine zge (tgt := 117) hx hb g18 g19 (D_162 W_prog_11_method_15_code_64 29 rfl rfl rfl) (by decide) (fun h20 => ?_) (fun h20 => ?_)
    · replace hf := gpos hf h20
      refine lv_iconst (v := iI (-1)) hx hb (D_2 W_prog_11_method_15_code_96 21 rfl rfl) rfl ?_
      cases hf
      exact W.iret hx hb hr (fun t ht hW => ⟨⟨_, (), rfl, rfl, by rw [ht]; exact hZ, va_K.moved hW.alike hK⟩, hS.F ht⟩) hS.2.2 (D_172 W_prog_11_method_15_code_96 22 rfl rfl) hlk
    · replace hf := gneg hf h20
      refine va_gets hx hb (hX.2.2.2.2.2.2 16 _ rfl).1 hS hown (hts _ k_9_61) (fun _ h => h) (D_178 W_prog_11_method_15_code_96 0 rfl rfl rfl) ?_
      refine W.eq (g2 := F0 m 99 ls [.ref (vS (1000 + 16))]) rfl ?_
      refine lv_iload_n hx hb (D_29 W_prog_11_method_15_code_96 3 rfl rfl) rfl (lv_at hl 0 rfl) ?_
      obtain ⟨g21, hf⟩ := gif hf
      refine va_ti (v := .int (iI (ztv 16 l3))) hx hb (ztI hX (by decide) (by decide)) hS (zt_in (by decide) g21) (ztI_v (by decide) g21) (D_46 W_prog_11_method_15_code_96 4 rfl rfl) ?_
      refine lv_iload_n hx hb (D_28 W_prog_11_method_15_code_96 5 rfl rfl) rfl (lv_at hl 1 rfl) ?_
      obtain ⟨g22, hf⟩ := gif hf
      obtain ⟨g23, hf⟩ := gif hf
      refine zne (tgt := 111) hx hb g22 g23 (D_160 W_prog_11_method_15_code_96 6 rfl rfl rfl) (by decide) (fun h24 => ?_) (fun h24 => ?_)
      · replace hf := gneg hf h24
        refine lv_iinc (v := iI (l3 + 1)) (lv' := [(3, .int (iI (l3 + 1))), (2, .int (iI l2))]) hx hb d_11_15_111 hl (k := 0) rfl (iI_add _ 1) (by decide) rfl (fun ls hl => ?_)
        refine lv_goto (tgt := 88) hx hb (D_167 W_prog_11_method_15_code_96 18 rfl rfl rfl) (by decide) ?_
        exact ih hf hZ hS (lv_sub hl [0, 1] rfl)
      · replace hf := gpos hf h24
        refine va_gets hx hb (hX.2.2.2.2.2.2 17 _ rfl).1 hS hown (hts _ k_9_63) (fun _ h => h) (D_178 W_prog_11_method_15_code_96 9 rfl rfl rfl) ?_
        refine W.eq (g2 := F0 m 108 ls [.ref (vS (1000 + 17))]) rfl ?_
        refine lv_iload_n hx hb (D_29 W_prog_11_method_15_code_96 12 rfl rfl) rfl (lv_at hl 0 rfl) ?_
        obtain ⟨g25, hf⟩ := gif hf
        refine va_ti (v := .int (iI (ztv 17 l3))) hx hb (ztI hX (by decide) (by decide)) hS (zt_in (by decide) g25) (ztI_v (by decide) g25) (D_46 W_prog_11_method_15_code_96 13 rfl rfl) ?_
        cases hf
        exact W.iret hx hb hr (fun t ht hW => ⟨⟨_, (), rfl, rfl, by rw [ht]; exact hZ, va_K.moved hW.alike hK⟩, hS.F ht⟩) hS.2.2 (D_172 W_prog_11_method_15_code_96 14 rfl rfl) hlk

def f_Study_chordKind_19 (rec2 : Int → Int → Int → zF → zB → zO) (K : zK) (l2 : Int) (l0 : Int) (l1 : Int) (s0 : Int) (F : zF) (B : zB) : zO := if 0 ≤ l0 ∧ l0 < K.2 9 then if 0 ≤ (zrm (l1 + l2) 7) ∧ (zrm (l1 + l2) 7) < 7 then zbind (f_Integer_bitCount K (B 9 l0 10 (zrm (l1 + l2) 7)) F B) (fun r14 F14 B14 => if r32 r14 then if r32 s0 then (if r14 ≤ s0 then rec2 (l2 + 1) l0 l1 F14 B14 else some ((-1), F14, B14)) else none else none) else none else none
set_option maxHeartbeats 4000000 in
set_option maxRecDepth 100000 in
theorem b_Study_chordKind_19 {D : va_G} {ca : Nat → ClassId} {ad : Nat → Int → Nat → Nat} {L : List Nat} {aS vS : Nat → Nat} {A : Nat → Prop} {p : Program} {l : Launch} {e : Env} {s : State} {m : MethodId} {args : Array Value} {below : List Frame} {meth : Method} {c : Code} {K : zK} {r : Int} {F9 : zF} {B9 : zB} (X : zX D ca L aS vS A p s m args meth c prog_11_method_15_code 4 (Option.some Jvm.ClassFile.FieldType.int) "StaveHouse$Study") {rec2 : Int → Int → Int → zF → zB → zO} (hrec2 : ∀ {l2 : Int} {l0 : Int} {l1 : Int} {F : zF} {B : zB} {H : Heap} {locs : List Loc} {ls : Array Slot}, rec2 l2 l0 l1 F B = some (r, F9, B9) → zH D ca ad lnC K.2 L F B A H → va_S A s.heap H locs → lv_has ls 4 [(2, .int (iI l2)), (0, .ref (ad 9 l0 0)), (1, .int (iI l1))] → W p l e ({ frames := 3, cells := 0, slots := 0, locals := 65 } : Room) s m args below meth c H locs 0 0 (MQ below (Q_Study_chordKind K D ca ad L r F9 B9 A) args s 0 0 A) (F0 m 2 ls [])) {l2 : Int} {l0 : Int} {l1 : Int} {s0 : Int} {F : zF} {B : zB} {H : Heap} {locs : List Loc} {ls : Array Slot} (hf : f_Study_chordKind_19 rec2 K l2 l0 l1 s0 F B = some (r, F9, B9)) (hZ : zH D ca ad lnC K.2 L F B A H) (hS : va_S A s.heap H locs) (hl : lv_has ls 4 [(2, .int (iI l2)), (0, .ref (ad 9 l0 0)), (1, .int (iI l1))]) : W p l e ({ frames := 3, cells := 0, slots := 0, locals := 65 } : Room) s m args below meth c H locs 0 0 (MQ below (Q_Study_chordKind K D ca ad L r F9 B9 A) args s 0 0 A) (F0 m 19 ls [.int (iI s0)]) := by
  obtain ⟨hx, hb, hr, hml, hown, hts, hlk, hK, hA, hL, hX⟩ := id X
  replace hf : (if 0 ≤ l0 ∧ l0 < K.2 9 then if 0 ≤ (zrm (l1 + l2) 7) ∧ (zrm (l1 + l2) 7) < 7 then zbind (f_Integer_bitCount K (B 9 l0 10 (zrm (l1 + l2) 7)) F B) (fun r14 F14 B14 => if r32 r14 then if r32 s0 then (if r14 ≤ s0 then rec2 (l2 + 1) l0 l1 F14 B14 else some ((-1), F14, B14)) else none else none) else none else none) = some (r, F9, B9) := hf
  refine lv_istore_n (lv' := [(3, .int (iI s0)), (2, .int (iI l2)), (0, .ref (ad 9 l0 0)), (1, .int (iI l1))]) hx hb (D_62 W_prog_11_method_15_code_0 19 rfl rfl) rfl hl (by decide) rfl (fun ls hl => ?_)
  refine lv_aload_n hx hb (D_42 W_prog_11_method_15_code_0 20 rfl rfl) rfl (lv_at hl 2 rfl) ?_
  obtain ⟨g12, hf⟩ := gif hf
  refine zget (ci := 9) (C := RX9) (T := TX9) (v := .ref (ad 9 l0 (10 + 1))) (k := 10) hx hb hts inW_9 hown hK hZ g12.1 g12.2 rfl (by decide) k_5_211 rfl (D_180 W_prog_11_method_15_code_0 21 rfl rfl rfl) ?_
  refine lv_iload_n hx hb (D_27 W_prog_11_method_15_code_0 24 rfl rfl) rfl (lv_at hl 3 rfl) ?_
  refine lv_iload_n hx hb (D_28 W_prog_11_method_15_code_0 25 rfl rfl) rfl (lv_at hl 1 rfl) ?_
  refine zadd hx hb (D_96 W_prog_11_method_15_code_0 26 rfl rfl) ?_
  refine lv_bipush (v := iI 7) hx hb (D_16 W_prog_11_method_15_code_0 27 rfl rfl rfl) (by decide) ?_
  refine zrm_r hx hb (by decide) (D_112 W_prog_11_method_15_code_0 29 rfl rfl) ?_
  obtain ⟨g13, hf⟩ := gif hf
  refine zald (ci := 9) (k := 10) hx hb hK rfl hZ g12.1 g12.2 rfl (Nat.le_of_ble_eq_true rfl) g13.1 g13.2 (D_46 W_prog_11_method_15_code_0 30 rfl rfl) ?_
  obtain ⟨r14, F14, B14, hc14, hf⟩ := gbind hf
  refine va_calli (va_runS (As := [.int (iI (B 9 l0 10 (zrm (l1 + l2) 7)))]) (rest := []) ⟨hx, hb, hml, hown, hts⟩ (c_Integer_bitCount (l := l) hc14) (va_cwS 1 hts (gdS k_9_47 k_7_170 k_1_22 k_7_171) rfl rfl rfl (by decide +kernel) ⟨Nat.le_of_ble_eq_true rfl, Nat.le_of_ble_eq_true rfl⟩) (zPS X hZ hS [.int (iI (B 9 l0 10 (zrm (l1 + l2) 7)))]) rfl rfl hl.1 rfl (lv_room (Nat.le_of_ble_eq_true rfl)) (D_184 W_prog_11_method_15_code_0 31 rfl rfl rfl) ⟨Nat.le_of_ble_eq_true rfl, Nat.le_of_ble_eq_true rfl⟩) hS (fun q _ h => zAin X hS q h) (zAin X hS) (fun p14 u14 t14 H14 locs14 ht14 hv14 hw14 hB14 hz14 hk14 hS14 => ?_)
  have hZ14 := zBack X ht14 hB14
  subst hw14
  refine lv_iload_n hx hb (D_29 W_prog_11_method_15_code_32 2 rfl rfl) rfl (lv_at hl 0 rfl) ?_
  obtain ⟨g15, hf⟩ := gif hf
  obtain ⟨g16, hf⟩ := gif hf
  refine zle (tgt := 40) hx hb g15 g16 (D_164 W_prog_11_method_15_code_32 3 rfl rfl rfl) (by decide) (fun h17 => ?_) (fun h17 => ?_)
  · replace hf := gpos hf h17
    refine lv_iinc (v := iI (l2 + 1)) (lv' := [(2, .int (iI (l2 + 1))), (3, .int (iI s0)), (0, .ref (ad 9 l0 0)), (1, .int (iI l1))]) hx hb d_11_15_40 hl (k := 1) rfl (iI_add _ 1) (by decide) rfl (fun ls hl => ?_)
    refine lv_goto (tgt := 2) hx hb (D_167 W_prog_11_method_15_code_32 11 rfl rfl rfl) (by decide) ?_
    exact hrec2 hf hZ14 hS14 (lv_sub hl [0, 2, 3] rfl)
  · replace hf := gneg hf h17
    refine lv_iconst (v := iI (-1)) hx hb (D_2 W_prog_11_method_15_code_32 6 rfl rfl) rfl ?_
    cases hf
    exact W.iret hx hb hr (fun t ht hW => ⟨⟨_, (), rfl, rfl, by rw [ht]; exact hZ14, va_K.moved hW.alike hK⟩, hS14.F ht⟩) hS14.2.2 (D_172 W_prog_11_method_15_code_32 7 rfl rfl) hlk

def f_Study_chordKind_2 (K : zK) : Nat → Int → Int → Int → zF → zB → zO
  | 0, _, _, _, _, _ => none
  | n + 1, l2, l0, l1, F, B => if r32 l2 then (if 7 ≤ l2 then if 0 ≤ l0 ∧ l0 < K.2 9 then if 0 ≤ l1 ∧ l1 < 7 then if r32 (B 9 l0 10 l1) then (if (B 9 l0 10 l1) = 0 then some ((-1), F, B) else zbind (f_Study_tonesAbove K l0 l1 2 F B) (fun r7 F7 B7 => zbind (f_Study_tonesAbove K l0 l1 4 F7 B7) (fun r8 F8 B8 => zbind (f_Study_tonesAbove K l0 l1 6 F8 B8) (fun r9 F9 B9 => f_Study_chordKind_88 K K.1 0 (((10000 * r7) + (100 * r8)) + r9) F9 B9)))) else none else none else none else if r32 (zrm l2 2) then (if (zrm l2 2) = 0 then f_Study_chordKind_19 (f_Study_chordKind_2 K n) K l2 l0 l1 1 F B else f_Study_chordKind_19 (f_Study_chordKind_2 K n) K l2 l0 l1 0 F B) else none) else none
set_option maxHeartbeats 4000000 in
set_option maxRecDepth 100000 in
theorem b_Study_chordKind_2 {D : va_G} {ca : Nat → ClassId} {ad : Nat → Int → Nat → Nat} {L : List Nat} {aS vS : Nat → Nat} {A : Nat → Prop} {p : Program} {l : Launch} {e : Env} {s : State} {m : MethodId} {args : Array Value} {below : List Frame} {meth : Method} {c : Code} {K : zK} {r : Int} {F9 : zF} {B9 : zB} (X : zX D ca L aS vS A p s m args meth c prog_11_method_15_code 4 (Option.some Jvm.ClassFile.FieldType.int) "StaveHouse$Study") : ∀ {n : Nat} {l2 : Int} {l0 : Int} {l1 : Int} {F : zF} {B : zB} {H : Heap} {locs : List Loc} {ls : Array Slot}, f_Study_chordKind_2 K n l2 l0 l1 F B = some (r, F9, B9) → zH D ca ad lnC K.2 L F B A H → va_S A s.heap H locs → lv_has ls 4 [(2, .int (iI l2)), (0, .ref (ad 9 l0 0)), (1, .int (iI l1))] → W p l e ({ frames := 3, cells := 0, slots := 0, locals := 65 } : Room) s m args below meth c H locs 0 0 (MQ below (Q_Study_chordKind K D ca ad L r F9 B9 A) args s 0 0 A) (F0 m 2 ls []) := by
  obtain ⟨hx, hb, hr, hml, hown, hts, hlk, hK, hA, hL, hX⟩ := id X
  intro n
  induction n with
  | zero =>
    intros
    rename_i hf _ _ _
    cases hf
  | succ n ih =>
    intro l2 l0 l1 F B H locs ls hf hZ hS hl
    replace hf : (if r32 l2 then (if 7 ≤ l2 then if 0 ≤ l0 ∧ l0 < K.2 9 then if 0 ≤ l1 ∧ l1 < 7 then if r32 (B 9 l0 10 l1) then (if (B 9 l0 10 l1) = 0 then some ((-1), F, B) else zbind (f_Study_tonesAbove K l0 l1 2 F B) (fun r7 F7 B7 => zbind (f_Study_tonesAbove K l0 l1 4 F7 B7) (fun r8 F8 B8 => zbind (f_Study_tonesAbove K l0 l1 6 F8 B8) (fun r9 F9 B9 => f_Study_chordKind_88 K K.1 0 (((10000 * r7) + (100 * r8)) + r9) F9 B9)))) else none else none else none else if r32 (zrm l2 2) then (if (zrm l2 2) = 0 then f_Study_chordKind_19 (f_Study_chordKind_2 K n) K l2 l0 l1 1 F B else f_Study_chordKind_19 (f_Study_chordKind_2 K n) K l2 l0 l1 0 F B) else none) else none) = some (r, F9, B9) := hf
    refine lv_iload_n hx hb (D_28 W_prog_11_method_15_code_0 2 rfl rfl) rfl (lv_at hl 0 rfl) ?_
    refine lv_bipush (v := iI 7) hx hb (D_16 W_prog_11_method_15_code_0 3 rfl rfl rfl) (by decide) ?_
    obtain ⟨g1, hf⟩ := gif hf
    refine zge (tgt := 46) hx hb g1 (by decide) (D_162 W_prog_11_method_15_code_0 5 rfl rfl rfl) (by decide) (fun h2 => ?_) (fun h2 => ?_)
    · replace hf := gpos hf h2
      refine lv_aload_n hx hb (D_42 W_prog_11_method_15_code_32 14 rfl rfl) rfl (lv_at hl 1 rfl) ?_
      obtain ⟨g3, hf⟩ := gif hf
      refine zget (ci := 9) (C := RX9) (T := TX9) (v := .ref (ad 9 l0 (10 + 1))) (k := 10) hx hb hts inW_9 hown hK hZ g3.1 g3.2 rfl (by decide) k_5_211 rfl (D_180 W_prog_11_method_15_code_32 15 rfl rfl rfl) ?_
      refine lv_iload_n hx hb (D_27 W_prog_11_method_15_code_32 18 rfl rfl) rfl (lv_at hl 2 rfl) ?_
      obtain ⟨g4, hf⟩ := gif hf
      refine zald (ci := 9) (k := 10) hx hb hK rfl hZ g3.1 g3.2 rfl (Nat.le_of_ble_eq_true rfl) g4.1 g4.2 (D_46 W_prog_11_method_15_code_32 19 rfl rfl) ?_
      obtain ⟨g5, hf⟩ := gif hf
      refine z0ne (tgt := 57) hx hb g5 (D_154 W_prog_11_method_15_code_32 20 rfl rfl rfl) (by decide) (fun h6 => ?_) (fun h6 => ?_)
      · replace hf := gneg hf h6
        refine lv_sipush (v := iI 10000) hx hb (D_17 W_prog_11_method_15_code_32 25 rfl rfl rfl) (by decide) ?_
        refine lv_aload_n hx hb (D_42 W_prog_11_method_15_code_32 28 rfl rfl) rfl (lv_at hl 1 rfl) ?_
        refine lv_iload_n hx hb (D_27 W_prog_11_method_15_code_32 29 rfl rfl) rfl (lv_at hl 2 rfl) ?_
        refine lv_iconst (v := iI 2) hx hb (D_5 W_prog_11_method_15_code_32 30 rfl rfl) rfl ?_
        obtain ⟨r7, F7, B7, hc7, hf⟩ := gbind hf
        refine va_calli (va_runV (As := [.int (iI l1), .int (iI 2)]) (rest := [.int (iI 10000)]) ⟨hx, hb, hml, hown, hts⟩ (c_Study_tonesAbove (l := l) hc7) (cwV 2 hts (gdV k_9_52 k_9_54 ks_127 k_1_19 k_9_55) rfl rfl rfl (by decide +kernel) ⟨Nat.le_of_ble_eq_true rfl, Nat.le_of_ble_eq_true rfl⟩) (zPV X hZ hS (ci := 9) g3.1 g3.2 (r := (RX9, TX9, 11)) rfl [.int (iI l1), .int (iI 2)]) rfl rfl hl.1 rfl (lv_room (Nat.le_of_ble_eq_true rfl)) (D_182 W_prog_11_method_15_code_32 31 rfl rfl rfl) ⟨Nat.le_of_ble_eq_true rfl, Nat.le_of_ble_eq_true rfl⟩) hS (fun q _ h => zAin X hS q h) (zAin X hS) (fun p7 u7 t7 H7 locs7 ht7 hv7 hw7 hB7 hz7 hk7 hS7 => ?_)
        have hZ7 := zBack X ht7 hB7
        subst hw7
        refine zmul hx hb (D_104 W_prog_11_method_15_code_64 2 rfl rfl) ?_
        refine lv_bipush (v := iI 100) hx hb (D_16 W_prog_11_method_15_code_64 3 rfl rfl rfl) (by decide) ?_
        refine lv_aload_n hx hb (D_42 W_prog_11_method_15_code_64 5 rfl rfl) rfl (lv_at hl 1 rfl) ?_
        refine lv_iload_n hx hb (D_27 W_prog_11_method_15_code_64 6 rfl rfl) rfl (lv_at hl 2 rfl) ?_
        refine lv_iconst (v := iI 4) hx hb (D_7 W_prog_11_method_15_code_64 7 rfl rfl) rfl ?_
        obtain ⟨r8, F8, B8, hc8, hf⟩ := gbind hf
        refine va_calli (va_runV (As := [.int (iI l1), .int (iI 4)]) (rest := [.int (iI 100), .int (iI (10000 * r7))]) ⟨hx, hb, hml, hown, hts⟩ (c_Study_tonesAbove (l := l) hc8) (cwV 2 hts (gdV k_9_52 k_9_54 ks_127 k_1_19 k_9_55) rfl rfl rfl (by decide +kernel) ⟨Nat.le_of_ble_eq_true rfl, Nat.le_of_ble_eq_true rfl⟩) (zPV X hZ7 hS7 (ci := 9) g3.1 g3.2 (r := (RX9, TX9, 11)) rfl [.int (iI l1), .int (iI 4)]) rfl rfl hl.1 rfl (lv_room (Nat.le_of_ble_eq_true rfl)) (D_182 W_prog_11_method_15_code_64 8 rfl rfl rfl) ⟨Nat.le_of_ble_eq_true rfl, Nat.le_of_ble_eq_true rfl⟩) hS7 (fun q _ h => zAin X hS7 q h) (zAin X hS7) (fun p8 u8 t8 H8 locs8 ht8 hv8 hw8 hB8 hz8 hk8 hS8 => ?_)
        have hZ8 := zBack X ht8 hB8
        subst hw8
        refine zmul hx hb (D_104 W_prog_11_method_15_code_64 11 rfl rfl) ?_
        refine zadd hx hb (D_96 W_prog_11_method_15_code_64 12 rfl rfl) ?_
        refine lv_aload_n hx hb (D_42 W_prog_11_method_15_code_64 13 rfl rfl) rfl (lv_at hl 1 rfl) ?_
        refine lv_iload_n hx hb (D_27 W_prog_11_method_15_code_64 14 rfl rfl) rfl (lv_at hl 2 rfl) ?_
        refine lv_bipush (v := iI 6) hx hb (D_16 W_prog_11_method_15_code_64 15 rfl rfl rfl) (by decide) ?_
        obtain ⟨r9, F9, B9, hc9, hf⟩ := gbind hf
        refine va_calli (va_runV (As := [.int (iI l1), .int (iI 6)]) (rest := [.int (iI ((10000 * r7) + (100 * r8)))]) ⟨hx, hb, hml, hown, hts⟩ (c_Study_tonesAbove (l := l) hc9) (cwV 2 hts (gdV k_9_52 k_9_54 ks_127 k_1_19 k_9_55) rfl rfl rfl (by decide +kernel) ⟨Nat.le_of_ble_eq_true rfl, Nat.le_of_ble_eq_true rfl⟩) (zPV X hZ8 hS8 (ci := 9) g3.1 g3.2 (r := (RX9, TX9, 11)) rfl [.int (iI l1), .int (iI 6)]) rfl rfl hl.1 rfl (lv_room (Nat.le_of_ble_eq_true rfl)) (D_182 W_prog_11_method_15_code_64 17 rfl rfl rfl) ⟨Nat.le_of_ble_eq_true rfl, Nat.le_of_ble_eq_true rfl⟩) hS8 (fun q _ h => zAin X hS8 q h) (zAin X hS8) (fun p9 u9 t9 H9 locs9 ht9 hv9 hw9 hB9 hz9 hk9 hS9 => ?_)
        have hZ9 := zBack X ht9 hB9
        subst hw9
        refine zadd hx hb (D_96 W_prog_11_method_15_code_64 20 rfl rfl) ?_
        refine lv_istore_n (lv' := [(2, .int (iI (((10000 * r7) + (100 * r8)) + r9))), (0, .ref (ad 9 l0 0)), (1, .int (iI l1))]) hx hb (D_61 W_prog_11_method_15_code_64 21 rfl rfl) rfl hl (by decide) rfl (fun ls hl => ?_)
        refine lv_iconst (v := iI 0) hx hb (D_3 W_prog_11_method_15_code_64 22 rfl rfl) rfl ?_
        refine lv_istore_n (lv' := [(3, .int (iI 0)), (2, .int (iI (((10000 * r7) + (100 * r8)) + r9))), (0, .ref (ad 9 l0 0)), (1, .int (iI l1))]) hx hb (D_62 W_prog_11_method_15_code_64 23 rfl rfl) rfl hl (by decide) rfl (fun ls hl => ?_)
        exact b_Study_chordKind_88 X hf hZ9 hS9 (lv_sub hl [0, 1] rfl)
      · replace hf := gpos hf h6
        refine lv_iconst (v := iI (-1)) hx hb (D_2 W_prog_11_method_15_code_32 23 rfl rfl) rfl ?_
        cases hf
        exact W.iret hx hb hr (fun t ht hW => ⟨⟨_, (), rfl, rfl, by rw [ht]; exact hZ, va_K.moved hW.alike hK⟩, hS.F ht⟩) hS.2.2 (D_172 W_prog_11_method_15_code_32 24 rfl rfl) hlk
    · replace hf := gneg hf h2
      refine lv_iload_n hx hb (D_28 W_prog_11_method_15_code_0 8 rfl rfl) rfl (lv_at hl 0 rfl) ?_
      refine lv_iconst (v := iI 2) hx hb (D_5 W_prog_11_method_15_code_0 9 rfl rfl) rfl ?_
      refine zrm_r hx hb (by decide) (D_112 W_prog_11_method_15_code_0 10 rfl rfl) ?_
      obtain ⟨g10, hf⟩ := gif hf
      refine z0ne (tgt := 18) hx hb g10 (D_154 W_prog_11_method_15_code_0 11 rfl rfl rfl) (by decide) (fun h11 => ?_) (fun h11 => ?_)
      · replace hf := gneg hf h11
        refine lv_iconst (v := iI 0) hx hb (D_3 W_prog_11_method_15_code_0 18 rfl rfl) rfl ?_
        exact b_Study_chordKind_19 X ih hf hZ hS (lv_sub hl [0, 1, 2] rfl)
      · replace hf := gpos hf h11
        refine lv_iconst (v := iI 1) hx hb (D_4 W_prog_11_method_15_code_0 14 rfl rfl) rfl ?_
        refine lv_goto (tgt := 19) hx hb (D_167 W_prog_11_method_15_code_0 15 rfl rfl rfl) (by decide) ?_
        exact b_Study_chordKind_19 X ih hf hZ hS (lv_sub hl [0, 1, 2] rfl)

def f_Study_chordKind (K : zK) (l0 : Int) (l1 : Int) (F : zF) (B : zB) : zO := f_Study_chordKind_2 K K.1 0 l0 l1 F B
set_option maxHeartbeats 4000000 in
set_option maxRecDepth 100000 in
theorem c_Study_chordKind {l : Launch} {D : va_G} {ca : Nat → ClassId} {ad : Nat → Int → Nat → Nat} {L : List Nat} {aS vS : Nat → Nat} {sz : Nat} {K : zK}  {l0 : Int} {l1 : Int} {F F9 : zF} {B B9 : zB} {r : Int} (hf : f_Study_chordKind K l0 l1 F B = some (r, F9, B9)) : Met l ({ cls := "StaveHouse$Study", name := "chordKind", desc := "(I)I" } : Jvm.MethodName) (Cond.code ({ cls := "StaveHouse$Study", name := "chordKind", desc := "(I)I" } : Jvm.MethodName) prog_11_method_15_code 4 (Option.some Jvm.ClassFile.FieldType.int) :: wAll) ({ frames := 3, cells := 0, slots := 0, locals := 65 } : Room) (va_Pc [.ref (ad 9 l0 0), .int (iI l1)] (zPre D ca ad lnC K.2 L aS vS F B sz)) (Q_Study_chordKind K D ca ad L r F9 B9 (zA L sz)) 0 0 (zA L sz) := by
  refine zMet (Qc := Q_Study_chordKind K D ca ad L r F9 B9) (lv := [(0, .ref (ad 9 l0 0)), (1, .int (iI l1))]) (by decide) (Nat.le_of_ble_eq_true rfl) rfl (fun A p e s m below meth c ls X hZ hS hl => ?_)
  obtain ⟨hx, hb, hr, hml, hown, hts, hlk, hK, hA, hL, hX⟩ := id X
  replace hf : (f_Study_chordKind_2 K K.1 0 l0 l1 F B) = some (r, F9, B9) := hf
  refine lv_iconst (v := iI 0) hx hb (D_3 W_prog_11_method_15_code_0 0 rfl rfl) rfl ?_
  refine lv_istore_n (lv' := [(2, .int (iI 0)), (0, .ref (ad 9 l0 0)), (1, .int (iI l1))]) hx hb (D_61 W_prog_11_method_15_code_0 1 rfl rfl) rfl hl (by decide) rfl (fun ls hl => ?_)
  exact b_Study_chordKind_2 X hf hZ hS (lv_sub hl [0, 1, 2] rfl)

abbrev Q_Event_topStep (K : zK) (D : va_G) (ca : Nat → ClassId) (ad : Nat → Int → Nat → Nat) (L : List Nat) (r : Int) (F : zF) (B : zB) (A : Nat → Prop) : Array Value → State → Outcome → State → Prop := va_Qi (S := Unit) (fun p _ => p = iI r) (fun _ => zPo D ca ad lnC K.2 L F B A) A
def f_Event_topStep_20 (K : zK) (s0 : Int) (F : zF) (B : zB) : zO := some (s0, F, B)
set_option maxHeartbeats 4000000 in
set_option maxRecDepth 100000 in
theorem b_Event_topStep_20 {D : va_G} {ca : Nat → ClassId} {ad : Nat → Int → Nat → Nat} {L : List Nat} {aS vS : Nat → Nat} {A : Nat → Prop} {p : Program} {l : Launch} {e : Env} {s : State} {m : MethodId} {args : Array Value} {below : List Frame} {meth : Method} {c : Code} {K : zK} {r : Int} {F9 : zF} {B9 : zB} (X : zX D ca L aS vS A p s m args meth c prog_3_method_9_code 2 (Option.some Jvm.ClassFile.FieldType.int) "StaveHouse$Event") {s0 : Int} {F : zF} {B : zB} {H : Heap} {locs : List Loc} {ls : Array Slot} (hf : f_Event_topStep_20 K s0 F B = some (r, F9, B9)) (hZ : zH D ca ad lnC K.2 L F B A H) (hS : va_S A s.heap H locs) (hl : lv_has ls 2 []) : W p l e ({ frames := 4, cells := 0, slots := 0, locals := 85 } : Room) s m args below meth c H locs 0 0 (MQ below (Q_Event_topStep K D ca ad L r F9 B9 A) args s 0 0 A) (F0 m 20 ls [.int (iI s0)]) := by
  obtain ⟨hx, hb, hr, hml, hown, hts, hlk, hK, hA, hL, hX⟩ := id X
  replace hf : (some (s0, F, B)) = some (r, F9, B9) := hf
  cases hf
  exact W.iret hx hb hr (fun t ht hW => ⟨⟨_, (), rfl, rfl, by rw [ht]; exact hZ, va_K.moved hW.alike hK⟩, hS.F ht⟩) hS.2.2 (D_172 W_prog_3_method_9_code_0 20 rfl rfl) hlk

def f_Event_topStep (K : zK) (l0 : Int) (F : zF) (B : zB) : zO := if 0 ≤ l0 ∧ l0 < K.2 1 then zbind (f_Event_top K l0 F B) (fun r2 F2 B2 => if r32 r2 then (if r2 = (-1) then f_Event_topStep_20 K 0 F2 B2 else if 0 ≤ r2 ∧ r2 < 6 then f_Event_topStep_20 K (B2 1 l0 12 r2) F2 B2 else none) else none) else none
set_option maxHeartbeats 4000000 in
set_option maxRecDepth 100000 in
theorem c_Event_topStep {l : Launch} {D : va_G} {ca : Nat → ClassId} {ad : Nat → Int → Nat → Nat} {L : List Nat} {aS vS : Nat → Nat} {sz : Nat} {K : zK}  {l0 : Int} {F F9 : zF} {B B9 : zB} {r : Int} (hf : f_Event_topStep K l0 F B = some (r, F9, B9)) : Met l ({ cls := "StaveHouse$Event", name := "topStep", desc := "()I" } : Jvm.MethodName) (Cond.code ({ cls := "StaveHouse$Event", name := "topStep", desc := "()I" } : Jvm.MethodName) prog_3_method_9_code 2 (Option.some Jvm.ClassFile.FieldType.int) :: wAll) ({ frames := 4, cells := 0, slots := 0, locals := 85 } : Room) (va_Pc [.ref (ad 1 l0 0)] (zPre D ca ad lnC K.2 L aS vS F B sz)) (Q_Event_topStep K D ca ad L r F9 B9 (zA L sz)) 0 0 (zA L sz) := by
  refine zMet (Qc := Q_Event_topStep K D ca ad L r F9 B9) (lv := [(0, .ref (ad 1 l0 0))]) (by decide) (Nat.le_of_ble_eq_true rfl) rfl (fun A p e s m below meth c ls X hZ hS hl => ?_)
  obtain ⟨hx, hb, hr, hml, hown, hts, hlk, hK, hA, hL, hX⟩ := id X
  replace hf : (if 0 ≤ l0 ∧ l0 < K.2 1 then zbind (f_Event_top K l0 F B) (fun r2 F2 B2 => if r32 r2 then (if r2 = (-1) then f_Event_topStep_20 K 0 F2 B2 else if 0 ≤ r2 ∧ r2 < 6 then f_Event_topStep_20 K (B2 1 l0 12 r2) F2 B2 else none) else none) else none) = some (r, F9, B9) := hf
  refine lv_aload_n hx hb (D_42 W_prog_3_method_9_code_0 0 rfl rfl) rfl (lv_at hl 0 rfl) ?_
  obtain ⟨g1, hf⟩ := gif hf
  obtain ⟨r2, F2, B2, hc2, hf⟩ := gbind hf
  refine va_calli (va_runV (As := []) (rest := []) ⟨hx, hb, hml, hown, hts⟩ (c_Event_top (l := l) hc2) (cwV 0 hts (gdV k_9_97 k_6_18 k_6_19 k_1_8 k_6_20) rfl rfl rfl (by decide +kernel) ⟨Nat.le_of_ble_eq_true rfl, Nat.le_of_ble_eq_true rfl⟩) (zPV X hZ hS (ci := 1) g1.1 g1.2 (r := (RX1, TX1, 14)) rfl []) rfl rfl hl.1 rfl (lv_room (Nat.le_of_ble_eq_true rfl)) (D_182 W_prog_3_method_9_code_0 1 rfl rfl rfl) ⟨Nat.le_of_ble_eq_true rfl, Nat.le_of_ble_eq_true rfl⟩) hS (fun q _ h => zAin X hS q h) (zAin X hS) (fun p2 u2 t2 H2 locs2 ht2 hv2 hw2 hB2 hz2 hk2 hS2 => ?_)
  have hZ2 := zBack X ht2 hB2
  subst hw2
  refine lv_istore_n (lv' := [(1, .int (iI r2)), (0, .ref (ad 1 l0 0))]) hx hb (D_60 W_prog_3_method_9_code_0 4 rfl rfl) rfl hl (by decide) rfl (fun ls hl => ?_)
  refine lv_iload_n hx hb (D_27 W_prog_3_method_9_code_0 5 rfl rfl) rfl (lv_at hl 0 rfl) ?_
  refine lv_iconst (v := iI (-1)) hx hb (D_2 W_prog_3_method_9_code_0 6 rfl rfl) rfl ?_
  obtain ⟨g3, hf⟩ := gif hf
  refine zne (tgt := 14) hx hb g3 (by decide) (D_160 W_prog_3_method_9_code_0 7 rfl rfl rfl) (by decide) (fun h4 => ?_) (fun h4 => ?_)
  · replace hf := gneg hf h4
    refine lv_aload_n hx hb (D_42 W_prog_3_method_9_code_0 14 rfl rfl) rfl (lv_at hl 1 rfl) ?_
    refine zget (ci := 1) (C := RX1) (T := TX1) (v := .ref (ad 1 l0 (12 + 1))) (k := 12) hx hb hts inW_1 hown hK hZ2 g1.1 g1.2 rfl (by decide) k_2_57 rfl (D_180 W_prog_3_method_9_code_0 15 rfl rfl rfl) ?_
    refine lv_iload_n hx hb (D_27 W_prog_3_method_9_code_0 18 rfl rfl) rfl (lv_at hl 0 rfl) ?_
    obtain ⟨g5, hf⟩ := gif hf
    refine zald (ci := 1) (k := 12) hx hb hK rfl hZ2 g1.1 g1.2 rfl (Nat.le_of_ble_eq_true rfl) g5.1 g5.2 (D_46 W_prog_3_method_9_code_0 19 rfl rfl) ?_
    exact b_Event_topStep_20 X hf hZ2 hS2 (lv_sub hl [] rfl)
  · replace hf := gpos hf h4
    refine lv_iconst (v := iI 0) hx hb (D_3 W_prog_3_method_9_code_0 10 rfl rfl) rfl ?_
    refine lv_goto (tgt := 20) hx hb (D_167 W_prog_3_method_9_code_0 11 rfl rfl rfl) (by decide) ?_
    exact b_Event_topStep_20 X hf hZ2 hS2 (lv_sub hl [] rfl)

abbrev Q_Part_hasShape (K : zK) (D : va_G) (ca : Nat → ClassId) (ad : Nat → Int → Nat → Nat) (L : List Nat) (r : Int) (F : zF) (B : zB) (A : Nat → Prop) : Array Value → State → Outcome → State → Prop := va_Qi (S := Unit) (fun p _ => p = iI r) (fun _ => zPo D ca ad lnC K.2 L F B A) A
def f_Part_hasShape_268 (rec81 : Int → Int → Int → Int → Int → Int → Int → Int → Int → Int → Int → Int → Int → zF → zB → zO) (K : zK) (l13 : Int) (l12 : Int) (l11 : Int) (l10 : Int) (l9 : Int) (l8 : Int) (l7 : Int) (l6 : Int) (l0 : Int) (l1 : Int) (l2 : Int) (l3 : Int) (l4 : Int) (F : zF) (B : zB) : zO := rec81 (l13 + 1) l12 l11 l10 l9 l8 l7 l6 l0 l1 l2 l3 l4 F B
set_option maxHeartbeats 4000000 in
set_option maxRecDepth 100000 in
theorem b_Part_hasShape_268 {D : va_G} {ca : Nat → ClassId} {ad : Nat → Int → Nat → Nat} {L : List Nat} {aS vS : Nat → Nat} {A : Nat → Prop} {p : Program} {l : Launch} {e : Env} {s : State} {m : MethodId} {args : Array Value} {below : List Frame} {meth : Method} {c : Code} {K : zK} {r : Int} {F9 : zF} {B9 : zB} (X : zX D ca L aS vS A p s m args meth c prog_6_method_28_code 18 (Option.some Jvm.ClassFile.FieldType.boolean) "StaveHouse$Part") {rec81 : Int → Int → Int → Int → Int → Int → Int → Int → Int → Int → Int → Int → Int → zF → zB → zO} (hrec81 : ∀ {l13 : Int} {l12 : Int} {l11 : Int} {l10 : Int} {l9 : Int} {l8 : Int} {l7 : Int} {l6 : Int} {l0 : Int} {l1 : Int} {l2 : Int} {l3 : Int} {l4 : Int} {F : zF} {B : zB} {H : Heap} {locs : List Loc} {ls : Array Slot}, rec81 l13 l12 l11 l10 l9 l8 l7 l6 l0 l1 l2 l3 l4 F B = some (r, F9, B9) → zH D ca ad lnC K.2 L F B A H → va_S A s.heap H locs → lv_has ls 18 [(13, .int (iI l13)), (12, va_rf (zrf ad 1 l12)), (11, va_rf (zrf ad 1 l11)), (10, va_rf (zrf ad 1 l10)), (9, va_rf (zrf ad 1 l9)), (8, .int (iI l8)), (7, .int (iI l7)), (6, .int (iI l6)), (0, .ref (ad 4 l0 0)), (1, .int (iI l1)), (2, .ref (ad 4 l2 0)), (3, .int (iI l3)), (4, .int (iI l4))] → W p l e ({ frames := 5, cells := 0, slots := 0, locals := 106 } : Room) s m args below meth c H locs 0 0 (MQ below (Q_Part_hasShape K D ca ad L r F9 B9 A) args s 0 0 A) (F0 m 81 ls [])) {l13 : Int} {l12 : Int} {l11 : Int} {l10 : Int} {l9 : Int} {l8 : Int} {l7 : Int} {l6 : Int} {l0 : Int} {l1 : Int} {l2 : Int} {l3 : Int} {l4 : Int} {F : zF} {B : zB} {H : Heap} {locs : List Loc} {ls : Array Slot} (hf : f_Part_hasShape_268 rec81 K l13 l12 l11 l10 l9 l8 l7 l6 l0 l1 l2 l3 l4 F B = some (r, F9, B9)) (hZ : zH D ca ad lnC K.2 L F B A H) (hS : va_S A s.heap H locs) (hl : lv_has ls 18 [(13, .int (iI l13)), (12, va_rf (zrf ad 1 l12)), (11, va_rf (zrf ad 1 l11)), (10, va_rf (zrf ad 1 l10)), (9, va_rf (zrf ad 1 l9)), (8, .int (iI l8)), (7, .int (iI l7)), (6, .int (iI l6)), (0, .ref (ad 4 l0 0)), (1, .int (iI l1)), (2, .ref (ad 4 l2 0)), (3, .int (iI l3)), (4, .int (iI l4))]) : W p l e ({ frames := 5, cells := 0, slots := 0, locals := 106 } : Room) s m args below meth c H locs 0 0 (MQ below (Q_Part_hasShape K D ca ad L r F9 B9 A) args s 0 0 A) (F0 m 268 ls []) := by
  obtain ⟨hx, hb, hr, hml, hown, hts, hlk, hK, hA, hL, hX⟩ := id X
  replace hf : (rec81 (l13 + 1) l12 l11 l10 l9 l8 l7 l6 l0 l1 l2 l3 l4 F B) = some (r, F9, B9) := hf
  refine lv_iinc (v := iI (l13 + 1)) (lv' := [(13, .int (iI (l13 + 1))), (12, va_rf (zrf ad 1 l12)), (11, va_rf (zrf ad 1 l11)), (10, va_rf (zrf ad 1 l10)), (9, va_rf (zrf ad 1 l9)), (8, .int (iI l8)), (7, .int (iI l7)), (6, .int (iI l6)), (0, .ref (ad 4 l0 0)), (1, .int (iI l1)), (2, .ref (ad 4 l2 0)), (3, .int (iI l3)), (4, .int (iI l4))]) hx hb d_6_28_268 hl (k := 0) rfl (iI_add _ 1) (by decide) (by cases zrf ad 1 l12 <;> rfl) (fun ls hl => ?_)
  refine lv_goto (tgt := 81) hx hb (D_167 W_prog_6_method_28_code_256 15 rfl rfl rfl) (by decide) ?_
  exact hrec81 hf hZ hS (lv_sub hl [0, 1, 2, 3, 4, 5, 6, 7, 8, 9, 10, 11, 12] rfl)

def f_Part_hasShape_263 (rec81 : Int → Int → Int → Int → Int → Int → Int → Int → Int → Int → Int → Int → Int → zF → zB → zO) (K : zK) (l13 : Int) (l12 : Int) (l11 : Int) (l10 : Int) (l9 : Int) (l8 : Int) (l7 : Int) (l6 : Int) (l0 : Int) (l1 : Int) (l2 : Int) (l3 : Int) (l4 : Int) (s0 : Int) (s1 : Int) (F : zF) (B : zB) : zO := if r32 s0 then if r32 s1 then (if s0 = s1 then f_Part_hasShape_268 rec81 K l13 l12 l11 l10 l9 l8 l7 l6 l0 l1 l2 l3 l4 F B else some (0, F, B)) else none else none
set_option maxHeartbeats 4000000 in
set_option maxRecDepth 100000 in
theorem b_Part_hasShape_263 {D : va_G} {ca : Nat → ClassId} {ad : Nat → Int → Nat → Nat} {L : List Nat} {aS vS : Nat → Nat} {A : Nat → Prop} {p : Program} {l : Launch} {e : Env} {s : State} {m : MethodId} {args : Array Value} {below : List Frame} {meth : Method} {c : Code} {K : zK} {r : Int} {F9 : zF} {B9 : zB} (X : zX D ca L aS vS A p s m args meth c prog_6_method_28_code 18 (Option.some Jvm.ClassFile.FieldType.boolean) "StaveHouse$Part") {rec81 : Int → Int → Int → Int → Int → Int → Int → Int → Int → Int → Int → Int → Int → zF → zB → zO} (hrec81 : ∀ {l13 : Int} {l12 : Int} {l11 : Int} {l10 : Int} {l9 : Int} {l8 : Int} {l7 : Int} {l6 : Int} {l0 : Int} {l1 : Int} {l2 : Int} {l3 : Int} {l4 : Int} {F : zF} {B : zB} {H : Heap} {locs : List Loc} {ls : Array Slot}, rec81 l13 l12 l11 l10 l9 l8 l7 l6 l0 l1 l2 l3 l4 F B = some (r, F9, B9) → zH D ca ad lnC K.2 L F B A H → va_S A s.heap H locs → lv_has ls 18 [(13, .int (iI l13)), (12, va_rf (zrf ad 1 l12)), (11, va_rf (zrf ad 1 l11)), (10, va_rf (zrf ad 1 l10)), (9, va_rf (zrf ad 1 l9)), (8, .int (iI l8)), (7, .int (iI l7)), (6, .int (iI l6)), (0, .ref (ad 4 l0 0)), (1, .int (iI l1)), (2, .ref (ad 4 l2 0)), (3, .int (iI l3)), (4, .int (iI l4))] → W p l e ({ frames := 5, cells := 0, slots := 0, locals := 106 } : Room) s m args below meth c H locs 0 0 (MQ below (Q_Part_hasShape K D ca ad L r F9 B9 A) args s 0 0 A) (F0 m 81 ls [])) {l13 : Int} {l12 : Int} {l11 : Int} {l10 : Int} {l9 : Int} {l8 : Int} {l7 : Int} {l6 : Int} {l0 : Int} {l1 : Int} {l2 : Int} {l3 : Int} {l4 : Int} {s0 : Int} {s1 : Int} {F : zF} {B : zB} {H : Heap} {locs : List Loc} {ls : Array Slot} (hf : f_Part_hasShape_263 rec81 K l13 l12 l11 l10 l9 l8 l7 l6 l0 l1 l2 l3 l4 s0 s1 F B = some (r, F9, B9)) (hZ : zH D ca ad lnC K.2 L F B A H) (hS : va_S A s.heap H locs) (hl : lv_has ls 18 [(13, .int (iI l13)), (12, va_rf (zrf ad 1 l12)), (11, va_rf (zrf ad 1 l11)), (10, va_rf (zrf ad 1 l10)), (9, va_rf (zrf ad 1 l9)), (8, .int (iI l8)), (7, .int (iI l7)), (6, .int (iI l6)), (0, .ref (ad 4 l0 0)), (1, .int (iI l1)), (2, .ref (ad 4 l2 0)), (3, .int (iI l3)), (4, .int (iI l4))]) : W p l e ({ frames := 5, cells := 0, slots := 0, locals := 106 } : Room) s m args below meth c H locs 0 0 (MQ below (Q_Part_hasShape K D ca ad L r F9 B9 A) args s 0 0 A) (F0 m 263 ls [.int (iI s1), .int (iI s0)]) := by
  obtain ⟨hx, hb, hr, hml, hown, hts, hlk, hK, hA, hL, hX⟩ := id X
  replace hf : (if r32 s0 then if r32 s1 then (if s0 = s1 then f_Part_hasShape_268 rec81 K l13 l12 l11 l10 l9 l8 l7 l6 l0 l1 l2 l3 l4 F B else some (0, F, B)) else none else none) = some (r, F9, B9) := hf
  obtain ⟨g66, hf⟩ := gif hf
  obtain ⟨g67, hf⟩ := gif hf
  refine zeq (tgt := 268) hx hb g66 g67 (D_159 W_prog_6_method_28_code_256 7 rfl rfl rfl) (by decide) (fun h68 => ?_) (fun h68 => ?_)
  · replace hf := gpos hf h68
    exact b_Part_hasShape_268 X hrec81 hf hZ hS (lv_sub hl [0, 1, 2, 3, 4, 5, 6, 7, 8, 9, 10, 11, 12] rfl)
  · replace hf := gneg hf h68
    refine lv_iconst (v := iI 0) hx hb (D_3 W_prog_6_method_28_code_256 10 rfl rfl) rfl ?_
    cases hf
    exact W.zret hx hb hr rfl (fun t ht hW => ⟨⟨_, (), rfl, rfl, by rw [ht]; exact hZ, va_K.moved hW.alike hK⟩, hS.F ht⟩) hS.2.2 (D_172 W_prog_6_method_28_code_256 11 rfl rfl) hlk

def f_Part_hasShape_208 (rec81 : Int → Int → Int → Int → Int → Int → Int → Int → Int → Int → Int → Int → Int → zF → zB → zO) (K : zK) (l15 : Int) (l14 : Int) (l13 : Int) (l12 : Int) (l11 : Int) (l10 : Int) (l9 : Int) (l8 : Int) (l7 : Int) (l6 : Int) (l0 : Int) (l1 : Int) (l2 : Int) (l3 : Int) (l4 : Int) (F : zF) (B : zB) : zO := (if l12 < 0 then f_Part_hasShape_268 rec81 K l13 l12 l11 l10 l9 l8 l7 l6 l0 l1 l2 l3 l4 F B else (if l11 < 0 then f_Part_hasShape_268 rec81 K l13 l12 l11 l10 l9 l8 l7 l6 l0 l1 l2 l3 l4 F B else if 0 ≤ l14 ∧ l14 < K.2 1 then zbind (f_Event_isRest K l14 F B) (fun r53 F53 B53 => if r32 r53 then (if r53 = 0 then zbind (f_Event_topStep K l14 F53 B53) (fun r56 F56 B56 => if 0 ≤ l11 ∧ l11 < K.2 1 then zbind (f_Event_topStep K l11 F56 B56) (fun r58 F58 B58 => if 0 ≤ l15 ∧ l15 < K.2 1 then zbind (f_Event_topStep K l15 F58 B58) (fun r60 F60 B60 => if 0 ≤ l12 ∧ l12 < K.2 1 then zbind (f_Event_topStep K l12 F60 B60) (fun r62 F62 B62 => if r32 l6 then (if l6 = 0 then f_Part_hasShape_263 rec81 K l13 l12 l11 l10 l9 l8 l7 l6 l0 l1 l2 l3 l4 (r60 - r62) (r56 - r58) F62 B62 else f_Part_hasShape_263 rec81 K l13 l12 l11 l10 l9 l8 l7 l6 l0 l1 l2 l3 l4 (r60 - r62) (-(r56 - r58)) F62 B62) else none) else none) else none) else none) else f_Part_hasShape_268 rec81 K l13 l12 l11 l10 l9 l8 l7 l6 l0 l1 l2 l3 l4 F53 B53) else none) else none))
set_option maxHeartbeats 4000000 in
set_option maxRecDepth 100000 in
theorem b_Part_hasShape_208 {D : va_G} {ca : Nat → ClassId} {ad : Nat → Int → Nat → Nat} {L : List Nat} {aS vS : Nat → Nat} {A : Nat → Prop} {p : Program} {l : Launch} {e : Env} {s : State} {m : MethodId} {args : Array Value} {below : List Frame} {meth : Method} {c : Code} {K : zK} {r : Int} {F9 : zF} {B9 : zB} (X : zX D ca L aS vS A p s m args meth c prog_6_method_28_code 18 (Option.some Jvm.ClassFile.FieldType.boolean) "StaveHouse$Part") {rec81 : Int → Int → Int → Int → Int → Int → Int → Int → Int → Int → Int → Int → Int → zF → zB → zO} (hrec81 : ∀ {l13 : Int} {l12 : Int} {l11 : Int} {l10 : Int} {l9 : Int} {l8 : Int} {l7 : Int} {l6 : Int} {l0 : Int} {l1 : Int} {l2 : Int} {l3 : Int} {l4 : Int} {F : zF} {B : zB} {H : Heap} {locs : List Loc} {ls : Array Slot}, rec81 l13 l12 l11 l10 l9 l8 l7 l6 l0 l1 l2 l3 l4 F B = some (r, F9, B9) → zH D ca ad lnC K.2 L F B A H → va_S A s.heap H locs → lv_has ls 18 [(13, .int (iI l13)), (12, va_rf (zrf ad 1 l12)), (11, va_rf (zrf ad 1 l11)), (10, va_rf (zrf ad 1 l10)), (9, va_rf (zrf ad 1 l9)), (8, .int (iI l8)), (7, .int (iI l7)), (6, .int (iI l6)), (0, .ref (ad 4 l0 0)), (1, .int (iI l1)), (2, .ref (ad 4 l2 0)), (3, .int (iI l3)), (4, .int (iI l4))] → W p l e ({ frames := 5, cells := 0, slots := 0, locals := 106 } : Room) s m args below meth c H locs 0 0 (MQ below (Q_Part_hasShape K D ca ad L r F9 B9 A) args s 0 0 A) (F0 m 81 ls [])) {l15 : Int} {l14 : Int} {l13 : Int} {l12 : Int} {l11 : Int} {l10 : Int} {l9 : Int} {l8 : Int} {l7 : Int} {l6 : Int} {l0 : Int} {l1 : Int} {l2 : Int} {l3 : Int} {l4 : Int} {F : zF} {B : zB} {H : Heap} {locs : List Loc} {ls : Array Slot} (hf : f_Part_hasShape_208 rec81 K l15 l14 l13 l12 l11 l10 l9 l8 l7 l6 l0 l1 l2 l3 l4 F B = some (r, F9, B9)) (hZ : zH D ca ad lnC K.2 L F B A H) (hS : va_S A s.heap H locs) (hl : lv_has ls 18 [(15, va_rf (zrf ad 1 l15)), (14, va_rf (zrf ad 1 l14)), (13, .int (iI l13)), (12, va_rf (zrf ad 1 l12)), (11, va_rf (zrf ad 1 l11)), (10, va_rf (zrf ad 1 l10)), (9, va_rf (zrf ad 1 l9)), (8, .int (iI l8)), (7, .int (iI l7)), (6, .int (iI l6)), (0, .ref (ad 4 l0 0)), (1, .int (iI l1)), (2, .ref (ad 4 l2 0)), (3, .int (iI l3)), (4, .int (iI l4))]) : W p l e ({ frames := 5, cells := 0, slots := 0, locals := 106 } : Room) s m args below meth c H locs 0 0 (MQ below (Q_Part_hasShape K D ca ad L r F9 B9 A) args s 0 0 A) (F0 m 208 ls []) := by
  obtain ⟨hx, hb, hr, hml, hown, hts, hlk, hK, hA, hL, hX⟩ := id X
  replace hf : ((if l12 < 0 then f_Part_hasShape_268 rec81 K l13 l12 l11 l10 l9 l8 l7 l6 l0 l1 l2 l3 l4 F B else (if l11 < 0 then f_Part_hasShape_268 rec81 K l13 l12 l11 l10 l9 l8 l7 l6 l0 l1 l2 l3 l4 F B else if 0 ≤ l14 ∧ l14 < K.2 1 then zbind (f_Event_isRest K l14 F B) (fun r53 F53 B53 => if r32 r53 then (if r53 = 0 then zbind (f_Event_topStep K l14 F53 B53) (fun r56 F56 B56 => if 0 ≤ l11 ∧ l11 < K.2 1 then zbind (f_Event_topStep K l11 F56 B56) (fun r58 F58 B58 => if 0 ≤ l15 ∧ l15 < K.2 1 then zbind (f_Event_topStep K l15 F58 B58) (fun r60 F60 B60 => if 0 ≤ l12 ∧ l12 < K.2 1 then zbind (f_Event_topStep K l12 F60 B60) (fun r62 F62 B62 => if r32 l6 then (if l6 = 0 then f_Part_hasShape_263 rec81 K l13 l12 l11 l10 l9 l8 l7 l6 l0 l1 l2 l3 l4 (r60 - r62) (r56 - r58) F62 B62 else f_Part_hasShape_263 rec81 K l13 l12 l11 l10 l9 l8 l7 l6 l0 l1 l2 l3 l4 (r60 - r62) (-(r56 - r58)) F62 B62) else none) else none) else none) else none) else f_Part_hasShape_268 rec81 K l13 l12 l11 l10 l9 l8 l7 l6 l0 l1 l2 l3 l4 F53 B53) else none) else none))) = some (r, F9, B9) := hf
  refine zaload hx hb (D_25 W_prog_6_method_28_code_192 16 rfl rfl) (lv_at hl 3 rfl) ?_
  refine zifnull (tgt := 268) hx hb (D_198 W_prog_6_method_28_code_192 18 rfl rfl rfl) (by decide) (fun h50 => ?_) (fun h50 => ?_)
  · replace hf := gpos hf h50
    exact b_Part_hasShape_268 X hrec81 hf hZ hS (lv_sub hl [2, 3, 4, 5, 6, 7, 8, 9, 10, 11, 12, 13, 14] rfl)
  · replace hf := gneg hf h50
    refine zaload hx hb (D_25 W_prog_6_method_28_code_192 21 rfl rfl) (lv_at hl 4 rfl) ?_
    refine zifnull (tgt := 268) hx hb (D_198 W_prog_6_method_28_code_192 23 rfl rfl rfl) (by decide) (fun h51 => ?_) (fun h51 => ?_)
    · replace hf := gpos hf h51
      exact b_Part_hasShape_268 X hrec81 hf hZ hS (lv_sub hl [2, 3, 4, 5, 6, 7, 8, 9, 10, 11, 12, 13, 14] rfl)
    · replace hf := gneg hf h51
      refine zaload hx hb (D_25 W_prog_6_method_28_code_192 26 rfl rfl) (lv_at hl 1 rfl) ?_
      obtain ⟨g52, hf⟩ := gif hf
      refine W.eq (g2 := F0 m 220 ls [.ref (ad 1 l14 0)]) (by rw [zrf_pos (ad := ad) (t := 1) g52.1]; try rfl) ?_
      obtain ⟨r53, F53, B53, hc53, hf⟩ := gbind hf
      refine va_calli (va_runV (As := []) (rest := []) ⟨hx, hb, hml, hown, hts⟩ (c_Event_isRest (l := l) hc53) (cwV 0 hts (gdV k_5_78 k_5_79 k_5_80 k_1_8 k_5_81) rfl rfl rfl (by decide +kernel) ⟨Nat.le_of_ble_eq_true rfl, Nat.le_of_ble_eq_true rfl⟩) (zPV X hZ hS (ci := 1) g52.1 g52.2 (r := (RX1, TX1, 14)) rfl []) rfl rfl hl.1 rfl (lv_room (Nat.le_of_ble_eq_true rfl)) (D_182 W_prog_6_method_28_code_192 28 rfl rfl rfl) ⟨Nat.le_of_ble_eq_true rfl, Nat.le_of_ble_eq_true rfl⟩) hS (fun q _ h => zAin X hS q h) (zAin X hS) (fun p53 u53 t53 H53 locs53 ht53 hv53 hw53 hB53 hz53 hk53 hS53 => ?_)
      have hZ53 := zBack X ht53 hB53
      subst hw53
      obtain ⟨g54, hf⟩ := gif hf
      refine z0ne (tgt := 268) hx hb g54 (D_154 W_prog_6_method_28_code_192 31 rfl rfl rfl) (by decide) (fun h55 => ?_) (fun h55 => ?_)
      · replace hf := gneg hf h55
        exact b_Part_hasShape_268 X hrec81 hf hZ53 hS53 (lv_sub hl [2, 3, 4, 5, 6, 7, 8, 9, 10, 11, 12, 13, 14] rfl)
      · replace hf := gpos hf h55
        refine zaload hx hb (D_25 W_prog_6_method_28_code_224 2 rfl rfl) (lv_at hl 1 rfl) ?_
        refine W.eq (g2 := F0 m 228 ls [.ref (ad 1 l14 0)]) (by rw [zrf_pos (ad := ad) (t := 1) g52.1]; try rfl) ?_
        obtain ⟨r56, F56, B56, hc56, hf⟩ := gbind hf
        refine va_calli (va_runV (As := []) (rest := []) ⟨hx, hb, hml, hown, hts⟩ (c_Event_topStep (l := l) hc56) (cwV 0 hts (gdV k_9_93 k_9_94 k_9_95 k_1_8 k_9_96) rfl rfl rfl (by decide +kernel) ⟨Nat.le_of_ble_eq_true rfl, Nat.le_of_ble_eq_true rfl⟩) (zPV X hZ53 hS53 (ci := 1) g52.1 g52.2 (r := (RX1, TX1, 14)) rfl []) rfl rfl hl.1 rfl (lv_room (Nat.le_of_ble_eq_true rfl)) (D_182 W_prog_6_method_28_code_224 4 rfl rfl rfl) ⟨Nat.le_of_ble_eq_true rfl, Nat.le_of_ble_eq_true rfl⟩) hS53 (fun q _ h => zAin X hS53 q h) (zAin X hS53) (fun p56 u56 t56 H56 locs56 ht56 hv56 hw56 hB56 hz56 hk56 hS56 => ?_)
        have hZ56 := zBack X ht56 hB56
        subst hw56
        refine zaload hx hb (D_25 W_prog_6_method_28_code_224 7 rfl rfl) (lv_at hl 4 rfl) ?_
        obtain ⟨g57, hf⟩ := gif hf
        refine W.eq (g2 := F0 m 233 ls [.ref (ad 1 l11 0), .int (iI r56)]) (by rw [zrf_pos (ad := ad) (t := 1) g57.1]; try rfl) ?_
        obtain ⟨r58, F58, B58, hc58, hf⟩ := gbind hf
        refine va_calli (va_runV (As := []) (rest := [.int (iI r56)]) ⟨hx, hb, hml, hown, hts⟩ (c_Event_topStep (l := l) hc58) (cwV 0 hts (gdV k_9_93 k_9_94 k_9_95 k_1_8 k_9_96) rfl rfl rfl (by decide +kernel) ⟨Nat.le_of_ble_eq_true rfl, Nat.le_of_ble_eq_true rfl⟩) (zPV X hZ56 hS56 (ci := 1) g57.1 g57.2 (r := (RX1, TX1, 14)) rfl []) rfl rfl hl.1 rfl (lv_room (Nat.le_of_ble_eq_true rfl)) (D_182 W_prog_6_method_28_code_224 9 rfl rfl rfl) ⟨Nat.le_of_ble_eq_true rfl, Nat.le_of_ble_eq_true rfl⟩) hS56 (fun q _ h => zAin X hS56 q h) (zAin X hS56) (fun p58 u58 t58 H58 locs58 ht58 hv58 hw58 hB58 hz58 hk58 hS58 => ?_)
        have hZ58 := zBack X ht58 hB58
        subst hw58
        refine zsub hx hb (D_100 W_prog_6_method_28_code_224 12 rfl rfl) ?_
        refine lv_istore (lv' := [(17, .int (iI (r56 - r58))), (15, va_rf (zrf ad 1 l15)), (14, va_rf (zrf ad 1 l14)), (13, .int (iI l13)), (12, va_rf (zrf ad 1 l12)), (11, va_rf (zrf ad 1 l11)), (10, va_rf (zrf ad 1 l10)), (9, va_rf (zrf ad 1 l9)), (8, .int (iI l8)), (7, .int (iI l7)), (6, .int (iI l6)), (0, .ref (ad 4 l0 0)), (1, .int (iI l1)), (2, .ref (ad 4 l2 0)), (3, .int (iI l3)), (4, .int (iI l4))]) hx hb (D_54 W_prog_6_method_28_code_224 13 rfl rfl) hl (by decide) rfl (fun ls hl => ?_)
        refine zaload hx hb (D_25 W_prog_6_method_28_code_224 15 rfl rfl) (lv_at hl 1 rfl) ?_
        obtain ⟨g59, hf⟩ := gif hf
        refine W.eq (g2 := F0 m 241 ls [.ref (ad 1 l15 0)]) (by rw [zrf_pos (ad := ad) (t := 1) g59.1]; try rfl) ?_
        obtain ⟨r60, F60, B60, hc60, hf⟩ := gbind hf
        refine va_calli (va_runV (As := []) (rest := []) ⟨hx, hb, hml, hown, hts⟩ (c_Event_topStep (l := l) hc60) (cwV 0 hts (gdV k_9_93 k_9_94 k_9_95 k_1_8 k_9_96) rfl rfl rfl (by decide +kernel) ⟨Nat.le_of_ble_eq_true rfl, Nat.le_of_ble_eq_true rfl⟩) (zPV X hZ58 hS58 (ci := 1) g59.1 g59.2 (r := (RX1, TX1, 14)) rfl []) rfl rfl hl.1 rfl (lv_room (Nat.le_of_ble_eq_true rfl)) (D_182 W_prog_6_method_28_code_224 17 rfl rfl rfl) ⟨Nat.le_of_ble_eq_true rfl, Nat.le_of_ble_eq_true rfl⟩) hS58 (fun q _ h => zAin X hS58 q h) (zAin X hS58) (fun p60 u60 t60 H60 locs60 ht60 hv60 hw60 hB60 hz60 hk60 hS60 => ?_)
        have hZ60 := zBack X ht60 hB60
        subst hw60
        refine zaload hx hb (D_25 W_prog_6_method_28_code_224 20 rfl rfl) (lv_at hl 4 rfl) ?_
        obtain ⟨g61, hf⟩ := gif hf
        refine W.eq (g2 := F0 m 246 ls [.ref (ad 1 l12 0), .int (iI r60)]) (by rw [zrf_pos (ad := ad) (t := 1) g61.1]; try rfl) ?_
        obtain ⟨r62, F62, B62, hc62, hf⟩ := gbind hf
        refine va_calli (va_runV (As := []) (rest := [.int (iI r60)]) ⟨hx, hb, hml, hown, hts⟩ (c_Event_topStep (l := l) hc62) (cwV 0 hts (gdV k_9_93 k_9_94 k_9_95 k_1_8 k_9_96) rfl rfl rfl (by decide +kernel) ⟨Nat.le_of_ble_eq_true rfl, Nat.le_of_ble_eq_true rfl⟩) (zPV X hZ60 hS60 (ci := 1) g61.1 g61.2 (r := (RX1, TX1, 14)) rfl []) rfl rfl hl.1 rfl (lv_room (Nat.le_of_ble_eq_true rfl)) (D_182 W_prog_6_method_28_code_224 22 rfl rfl rfl) ⟨Nat.le_of_ble_eq_true rfl, Nat.le_of_ble_eq_true rfl⟩) hS60 (fun q _ h => zAin X hS60 q h) (zAin X hS60) (fun p62 u62 t62 H62 locs62 ht62 hv62 hw62 hB62 hz62 hk62 hS62 => ?_)
        have hZ62 := zBack X ht62 hB62
        subst hw62
        refine zsub hx hb (D_100 W_prog_6_method_28_code_224 25 rfl rfl) ?_
        refine lv_iload hx hb (D_21 W_prog_6_method_28_code_224 26 rfl rfl) (lv_at hl 10 rfl) ?_
        obtain ⟨g63, hf⟩ := gif hf
        refine z0eq (tgt := 261) hx hb g63 (D_153 W_prog_6_method_28_code_224 28 rfl rfl rfl) (by decide) (fun h65 => ?_) (fun h65 => ?_)
        · replace hf := gpos hf h65
          refine lv_iload hx hb (D_21 W_prog_6_method_28_code_256 5 rfl rfl) (lv_at hl 0 rfl) ?_
          exact b_Part_hasShape_263 X hrec81 hf hZ62 hS62 (lv_sub hl [3, 4, 5, 6, 7, 8, 9, 10, 11, 12, 13, 14, 15] rfl)
        · replace hf := gneg hf h65
          refine lv_iload hx hb (D_21 W_prog_6_method_28_code_224 31 rfl rfl) (lv_at hl 0 rfl) ?_
          refine zneg hx hb (D_116 W_prog_6_method_28_code_256 1 rfl rfl) ?_
          refine lv_goto (tgt := 263) hx hb (D_167 W_prog_6_method_28_code_256 2 rfl rfl rfl) (by decide) ?_
          exact b_Part_hasShape_263 X hrec81 hf hZ62 hS62 (lv_sub hl [3, 4, 5, 6, 7, 8, 9, 10, 11, 12, 13, 14, 15] rfl)

def f_Part_hasShape_185 (K : zK)  (F : zF) (B : zB) : zO := some (0, F, B)
set_option maxHeartbeats 4000000 in
set_option maxRecDepth 100000 in
theorem b_Part_hasShape_185 {D : va_G} {ca : Nat → ClassId} {ad : Nat → Int → Nat → Nat} {L : List Nat} {aS vS : Nat → Nat} {A : Nat → Prop} {p : Program} {l : Launch} {e : Env} {s : State} {m : MethodId} {args : Array Value} {below : List Frame} {meth : Method} {c : Code} {K : zK} {r : Int} {F9 : zF} {B9 : zB} (X : zX D ca L aS vS A p s m args meth c prog_6_method_28_code 18 (Option.some Jvm.ClassFile.FieldType.boolean) "StaveHouse$Part")  {F : zF} {B : zB} {H : Heap} {locs : List Loc} {ls : Array Slot} (hf : f_Part_hasShape_185 K  F B = some (r, F9, B9)) (hZ : zH D ca ad lnC K.2 L F B A H) (hS : va_S A s.heap H locs) (hl : lv_has ls 18 []) : W p l e ({ frames := 5, cells := 0, slots := 0, locals := 106 } : Room) s m args below meth c H locs 0 0 (MQ below (Q_Part_hasShape K D ca ad L r F9 B9 A) args s 0 0 A) (F0 m 185 ls []) := by
  obtain ⟨hx, hb, hr, hml, hown, hts, hlk, hK, hA, hL, hX⟩ := id X
  replace hf : (some (0, F, B)) = some (r, F9, B9) := hf
  refine lv_iconst (v := iI 0) hx hb (D_3 W_prog_6_method_28_code_160 25 rfl rfl) rfl ?_
  cases hf
  exact W.zret hx hb hr rfl (fun t ht hW => ⟨⟨_, (), rfl, rfl, by rw [ht]; exact hZ, va_K.moved hW.alike hK⟩, hS.F ht⟩) hS.2.2 (D_172 W_prog_6_method_28_code_160 26 rfl rfl) hlk

def f_Part_hasShape_165 (rec81 : Int → Int → Int → Int → Int → Int → Int → Int → Int → Int → Int → Int → Int → zF → zB → zO) (K : zK) (l15 : Int) (l14 : Int) (l13 : Int) (l12 : Int) (l11 : Int) (l10 : Int) (l9 : Int) (l8 : Int) (l7 : Int) (l6 : Int) (l0 : Int) (l1 : Int) (l2 : Int) (l3 : Int) (l4 : Int) (s0 : Int) (F : zF) (B : zB) : zO := if r32 s0 then (if s0 = 0 then f_Part_hasShape_185 K F B else if 0 ≤ l14 ∧ l14 < K.2 1 then zbind (f_Event_isRest K l14 F B) (fun r40 F40 B40 => if 0 ≤ l15 ∧ l15 < K.2 1 then zbind (f_Event_isRest K l15 F40 B40) (fun r42 F42 B42 => if r32 r40 then if r32 r42 then (if r40 = r42 then (if l12 < 0 then zbind (f_Event_isRest K l14 F42 B42) (fun r47 F47 B47 => if r32 r47 then (if r47 = 0 then f_Part_hasShape_208 rec81 K l15 l14 l13 l15 l14 l10 l9 l8 l7 l6 l0 l1 l2 l3 l4 F47 B47 else f_Part_hasShape_208 rec81 K l15 l14 l13 l12 l11 l10 l9 l8 l7 l6 l0 l1 l2 l3 l4 F47 B47) else none) else f_Part_hasShape_208 rec81 K l15 l14 l13 l12 l11 l10 l9 l8 l7 l6 l0 l1 l2 l3 l4 F42 B42) else f_Part_hasShape_185 K F42 B42) else none else none) else none) else none) else none
set_option maxHeartbeats 4000000 in
set_option maxRecDepth 100000 in
theorem b_Part_hasShape_165 {D : va_G} {ca : Nat → ClassId} {ad : Nat → Int → Nat → Nat} {L : List Nat} {aS vS : Nat → Nat} {A : Nat → Prop} {p : Program} {l : Launch} {e : Env} {s : State} {m : MethodId} {args : Array Value} {below : List Frame} {meth : Method} {c : Code} {K : zK} {r : Int} {F9 : zF} {B9 : zB} (X : zX D ca L aS vS A p s m args meth c prog_6_method_28_code 18 (Option.some Jvm.ClassFile.FieldType.boolean) "StaveHouse$Part") {rec81 : Int → Int → Int → Int → Int → Int → Int → Int → Int → Int → Int → Int → Int → zF → zB → zO} (hrec81 : ∀ {l13 : Int} {l12 : Int} {l11 : Int} {l10 : Int} {l9 : Int} {l8 : Int} {l7 : Int} {l6 : Int} {l0 : Int} {l1 : Int} {l2 : Int} {l3 : Int} {l4 : Int} {F : zF} {B : zB} {H : Heap} {locs : List Loc} {ls : Array Slot}, rec81 l13 l12 l11 l10 l9 l8 l7 l6 l0 l1 l2 l3 l4 F B = some (r, F9, B9) → zH D ca ad lnC K.2 L F B A H → va_S A s.heap H locs → lv_has ls 18 [(13, .int (iI l13)), (12, va_rf (zrf ad 1 l12)), (11, va_rf (zrf ad 1 l11)), (10, va_rf (zrf ad 1 l10)), (9, va_rf (zrf ad 1 l9)), (8, .int (iI l8)), (7, .int (iI l7)), (6, .int (iI l6)), (0, .ref (ad 4 l0 0)), (1, .int (iI l1)), (2, .ref (ad 4 l2 0)), (3, .int (iI l3)), (4, .int (iI l4))] → W p l e ({ frames := 5, cells := 0, slots := 0, locals := 106 } : Room) s m args below meth c H locs 0 0 (MQ below (Q_Part_hasShape K D ca ad L r F9 B9 A) args s 0 0 A) (F0 m 81 ls [])) {l15 : Int} {l14 : Int} {l13 : Int} {l12 : Int} {l11 : Int} {l10 : Int} {l9 : Int} {l8 : Int} {l7 : Int} {l6 : Int} {l0 : Int} {l1 : Int} {l2 : Int} {l3 : Int} {l4 : Int} {s0 : Int} {F : zF} {B : zB} {H : Heap} {locs : List Loc} {ls : Array Slot} (hf : f_Part_hasShape_165 rec81 K l15 l14 l13 l12 l11 l10 l9 l8 l7 l6 l0 l1 l2 l3 l4 s0 F B = some (r, F9, B9)) (hZ : zH D ca ad lnC K.2 L F B A H) (hS : va_S A s.heap H locs) (hl : lv_has ls 18 [(15, va_rf (zrf ad 1 l15)), (14, va_rf (zrf ad 1 l14)), (13, .int (iI l13)), (12, va_rf (zrf ad 1 l12)), (11, va_rf (zrf ad 1 l11)), (10, va_rf (zrf ad 1 l10)), (9, va_rf (zrf ad 1 l9)), (8, .int (iI l8)), (7, .int (iI l7)), (6, .int (iI l6)), (0, .ref (ad 4 l0 0)), (1, .int (iI l1)), (2, .ref (ad 4 l2 0)), (3, .int (iI l3)), (4, .int (iI l4))]) : W p l e ({ frames := 5, cells := 0, slots := 0, locals := 106 } : Room) s m args below meth c H locs 0 0 (MQ below (Q_Part_hasShape K D ca ad L r F9 B9 A) args s 0 0 A) (F0 m 165 ls [.int (iI s0)]) := by
  obtain ⟨hx, hb, hr, hml, hown, hts, hlk, hK, hA, hL, hX⟩ := id X
  replace hf : (if r32 s0 then (if s0 = 0 then f_Part_hasShape_185 K F B else if 0 ≤ l14 ∧ l14 < K.2 1 then zbind (f_Event_isRest K l14 F B) (fun r40 F40 B40 => if 0 ≤ l15 ∧ l15 < K.2 1 then zbind (f_Event_isRest K l15 F40 B40) (fun r42 F42 B42 => if r32 r40 then if r32 r42 then (if r40 = r42 then (if l12 < 0 then zbind (f_Event_isRest K l14 F42 B42) (fun r47 F47 B47 => if r32 r47 then (if r47 = 0 then f_Part_hasShape_208 rec81 K l15 l14 l13 l15 l14 l10 l9 l8 l7 l6 l0 l1 l2 l3 l4 F47 B47 else f_Part_hasShape_208 rec81 K l15 l14 l13 l12 l11 l10 l9 l8 l7 l6 l0 l1 l2 l3 l4 F47 B47) else none) else f_Part_hasShape_208 rec81 K l15 l14 l13 l12 l11 l10 l9 l8 l7 l6 l0 l1 l2 l3 l4 F42 B42) else f_Part_hasShape_185 K F42 B42) else none else none) else none) else none) else none) = some (r, F9, B9) := hf
  refine lv_istore (lv' := [(16, .int (iI s0)), (15, va_rf (zrf ad 1 l15)), (14, va_rf (zrf ad 1 l14)), (13, .int (iI l13)), (12, va_rf (zrf ad 1 l12)), (11, va_rf (zrf ad 1 l11)), (10, va_rf (zrf ad 1 l10)), (9, va_rf (zrf ad 1 l9)), (8, .int (iI l8)), (7, .int (iI l7)), (6, .int (iI l6)), (0, .ref (ad 4 l0 0)), (1, .int (iI l1)), (2, .ref (ad 4 l2 0)), (3, .int (iI l3)), (4, .int (iI l4))]) hx hb (D_54 W_prog_6_method_28_code_160 5 rfl rfl) hl (by decide) (by cases zrf ad 1 l15 <;> rfl) (fun ls hl => ?_)
  refine lv_iload hx hb (D_21 W_prog_6_method_28_code_160 7 rfl rfl) (lv_at hl 0 rfl) ?_
  obtain ⟨g37, hf⟩ := gif hf
  refine z0eq (tgt := 185) hx hb g37 (D_153 W_prog_6_method_28_code_160 9 rfl rfl rfl) (by decide) (fun h38 => ?_) (fun h38 => ?_)
  · replace hf := gpos hf h38
    exact b_Part_hasShape_185 X hf hZ hS (lv_sub hl [] rfl)
  · replace hf := gneg hf h38
    refine zaload hx hb (D_25 W_prog_6_method_28_code_160 12 rfl rfl) (lv_at hl 2 rfl) ?_
    obtain ⟨g39, hf⟩ := gif hf
    refine W.eq (g2 := F0 m 174 ls [.ref (ad 1 l14 0)]) (by rw [zrf_pos (ad := ad) (t := 1) g39.1]; try rfl) ?_
    obtain ⟨r40, F40, B40, hc40, hf⟩ := gbind hf
    refine va_calli (va_runV (As := []) (rest := []) ⟨hx, hb, hml, hown, hts⟩ (c_Event_isRest (l := l) hc40) (cwV 0 hts (gdV k_5_78 k_5_79 k_5_80 k_1_8 k_5_81) rfl rfl rfl (by decide +kernel) ⟨Nat.le_of_ble_eq_true rfl, Nat.le_of_ble_eq_true rfl⟩) (zPV X hZ hS (ci := 1) g39.1 g39.2 (r := (RX1, TX1, 14)) rfl []) rfl rfl hl.1 rfl (lv_room (Nat.le_of_ble_eq_true rfl)) (D_182 W_prog_6_method_28_code_160 14 rfl rfl rfl) ⟨Nat.le_of_ble_eq_true rfl, Nat.le_of_ble_eq_true rfl⟩) hS (fun q _ h => zAin X hS q h) (zAin X hS) (fun p40 u40 t40 H40 locs40 ht40 hv40 hw40 hB40 hz40 hk40 hS40 => ?_)
    have hZ40 := zBack X ht40 hB40
    subst hw40
    refine zaload hx hb (D_25 W_prog_6_method_28_code_160 17 rfl rfl) (lv_at hl 1 rfl) ?_
    obtain ⟨g41, hf⟩ := gif hf
    refine W.eq (g2 := F0 m 179 ls [.ref (ad 1 l15 0), .int (iI r40)]) (by rw [zrf_pos (ad := ad) (t := 1) g41.1]; try rfl) ?_
    obtain ⟨r42, F42, B42, hc42, hf⟩ := gbind hf
    refine va_calli (va_runV (As := []) (rest := [.int (iI r40)]) ⟨hx, hb, hml, hown, hts⟩ (c_Event_isRest (l := l) hc42) (cwV 0 hts (gdV k_5_78 k_5_79 k_5_80 k_1_8 k_5_81) rfl rfl rfl (by decide +kernel) ⟨Nat.le_of_ble_eq_true rfl, Nat.le_of_ble_eq_true rfl⟩) (zPV X hZ40 hS40 (ci := 1) g41.1 g41.2 (r := (RX1, TX1, 14)) rfl []) rfl rfl hl.1 rfl (lv_room (Nat.le_of_ble_eq_true rfl)) (D_182 W_prog_6_method_28_code_160 19 rfl rfl rfl) ⟨Nat.le_of_ble_eq_true rfl, Nat.le_of_ble_eq_true rfl⟩) hS40 (fun q _ h => zAin X hS40 q h) (zAin X hS40) (fun p42 u42 t42 H42 locs42 ht42 hv42 hw42 hB42 hz42 hk42 hS42 => ?_)
    have hZ42 := zBack X ht42 hB42
    subst hw42
    obtain ⟨g43, hf⟩ := gif hf
    obtain ⟨g44, hf⟩ := gif hf
    refine zeq (tgt := 187) hx hb g43 g44 (D_159 W_prog_6_method_28_code_160 22 rfl rfl rfl) (by decide) (fun h45 => ?_) (fun h45 => ?_)
    · replace hf := gpos hf h45
      refine zaload hx hb (D_25 W_prog_6_method_28_code_160 27 rfl rfl) (lv_at hl 4 rfl) ?_
      refine zifnonnull (tgt := 208) hx hb (D_199 W_prog_6_method_28_code_160 29 rfl rfl rfl) (by decide) (fun h46 => ?_) (fun h46 => ?_)
      · replace hf := gneg hf h46
        exact b_Part_hasShape_208 X hrec81 hf hZ42 hS42 (lv_sub hl [1, 2, 3, 4, 5, 6, 7, 8, 9, 10, 11, 12, 13, 14, 15] rfl)
      · replace hf := gpos hf h46
        refine zaload hx hb (D_25 W_prog_6_method_28_code_192 0 rfl rfl) (lv_at hl 2 rfl) ?_
        refine W.eq (g2 := F0 m 194 ls [.ref (ad 1 l14 0)]) (by rw [zrf_pos (ad := ad) (t := 1) g39.1]; try rfl) ?_
        obtain ⟨r47, F47, B47, hc47, hf⟩ := gbind hf
        refine va_calli (va_runV (As := []) (rest := []) ⟨hx, hb, hml, hown, hts⟩ (c_Event_isRest (l := l) hc47) (cwV 0 hts (gdV k_5_78 k_5_79 k_5_80 k_1_8 k_5_81) rfl rfl rfl (by decide +kernel) ⟨Nat.le_of_ble_eq_true rfl, Nat.le_of_ble_eq_true rfl⟩) (zPV X hZ42 hS42 (ci := 1) g39.1 g39.2 (r := (RX1, TX1, 14)) rfl []) rfl rfl hl.1 rfl (lv_room (Nat.le_of_ble_eq_true rfl)) (D_182 W_prog_6_method_28_code_192 2 rfl rfl rfl) ⟨Nat.le_of_ble_eq_true rfl, Nat.le_of_ble_eq_true rfl⟩) hS42 (fun q _ h => zAin X hS42 q h) (zAin X hS42) (fun p47 u47 t47 H47 locs47 ht47 hv47 hw47 hB47 hz47 hk47 hS47 => ?_)
        have hZ47 := zBack X ht47 hB47
        subst hw47
        obtain ⟨g48, hf⟩ := gif hf
        refine z0ne (tgt := 208) hx hb g48 (D_154 W_prog_6_method_28_code_192 5 rfl rfl rfl) (by decide) (fun h49 => ?_) (fun h49 => ?_)
        · replace hf := gneg hf h49
          exact b_Part_hasShape_208 X hrec81 hf hZ47 hS47 (lv_sub hl [1, 2, 3, 4, 5, 6, 7, 8, 9, 10, 11, 12, 13, 14, 15] rfl)
        · replace hf := gpos hf h49
          refine zaload hx hb (D_25 W_prog_6_method_28_code_192 8 rfl rfl) (lv_at hl 2 rfl) ?_
          refine zastore (lv' := [(16, .int (iI s0)), (15, va_rf (zrf ad 1 l15)), (14, va_rf (zrf ad 1 l14)), (13, .int (iI l13)), (12, va_rf (zrf ad 1 l12)), (10, va_rf (zrf ad 1 l10)), (9, va_rf (zrf ad 1 l9)), (8, .int (iI l8)), (7, .int (iI l7)), (6, .int (iI l6)), (0, .ref (ad 4 l0 0)), (1, .int (iI l1)), (2, .ref (ad 4 l2 0)), (3, .int (iI l3)), (4, .int (iI l4))]) hx hb (D_58 W_prog_6_method_28_code_192 10 rfl rfl) hl (by decide) (fun v hv => by cases zrf ad 1 l10 <;> rfl) (fun ls hl => ?_)
          refine zaload hx hb (D_25 W_prog_6_method_28_code_192 12 rfl rfl) (lv_at hl 2 rfl) ?_
          refine zastore (lv' := [(11, va_rf (zrf ad 1 l14)), (16, .int (iI s0)), (15, va_rf (zrf ad 1 l15)), (14, va_rf (zrf ad 1 l14)), (13, .int (iI l13)), (10, va_rf (zrf ad 1 l10)), (9, va_rf (zrf ad 1 l9)), (8, .int (iI l8)), (7, .int (iI l7)), (6, .int (iI l6)), (0, .ref (ad 4 l0 0)), (1, .int (iI l1)), (2, .ref (ad 4 l2 0)), (3, .int (iI l3)), (4, .int (iI l4))]) hx hb (D_58 W_prog_6_method_28_code_192 14 rfl rfl) hl (by decide) (fun v hv => by cases zrf ad 1 l14 <;> rfl) (fun ls hl => ?_)
          exact b_Part_hasShape_208 X hrec81 hf hZ47 hS47 (lv_sub hl [3, 4, 5, 0, 1, 6, 7, 8, 9, 10, 11, 12, 13, 14, 15] rfl)
    · replace hf := gneg hf h45
      exact b_Part_hasShape_185 X hf hZ42 hS42 (lv_sub hl [] rfl)

def f_Part_hasShape_124 (rec81 : Int → Int → Int → Int → Int → Int → Int → Int → Int → Int → Int → Int → Int → zF → zB → zO) (K : zK) (l14 : Int) (l13 : Int) (l12 : Int) (l11 : Int) (l10 : Int) (l9 : Int) (l8 : Int) (l7 : Int) (l6 : Int) (l0 : Int) (l1 : Int) (l2 : Int) (l3 : Int) (l4 : Int) (s0 : Int) (s1 : Int) (F : zF) (B : zB) : zO := if 0 ≤ s0 ∧ s0 < K.2 4 then if 0 ≤ s1 ∧ s1 < 200 then if r32 l8 then (if l8 = 0 then if 0 ≤ l14 ∧ l14 < K.2 1 then if 0 ≤ (B 4 s0 5 s1) ∧ (B 4 s0 5 s1) < K.2 1 then if r64 (F 1 l14 1) then if r64 (F 1 (B 4 s0 5 s1) 1) then (if (zcmp (F 1 l14 1) (F 1 (B 4 s0 5 s1) 1)) = 0 then f_Part_hasShape_165 rec81 K (B 4 s0 5 s1) l14 l13 l12 l11 l10 l9 l8 l7 l6 l0 l1 l2 l3 l4 1 F B else f_Part_hasShape_165 rec81 K (B 4 s0 5 s1) l14 l13 l12 l11 l10 l9 l8 l7 l6 l0 l1 l2 l3 l4 0 F B) else none else none else none else none else if 0 ≤ l9 ∧ l9 < K.2 1 then if 0 ≤ l10 ∧ l10 < K.2 1 then if 0 ≤ l14 ∧ l14 < K.2 1 then if 0 ≤ (B 4 s0 5 s1) ∧ (B 4 s0 5 s1) < K.2 1 then zbind (f_Part_sameFraction K l9 l10 l14 (B 4 s0 5 s1) F B) (fun r36 F36 B36 => f_Part_hasShape_165 rec81 K (B 4 s0 5 s1) l14 l13 l12 l11 l10 l9 l8 l7 l6 l0 l1 l2 l3 l4 r36 F36 B36) else none else none else none else none) else none else none else none
set_option maxHeartbeats 4000000 in
set_option maxRecDepth 100000 in
theorem b_Part_hasShape_124 {D : va_G} {ca : Nat → ClassId} {ad : Nat → Int → Nat → Nat} {L : List Nat} {aS vS : Nat → Nat} {A : Nat → Prop} {p : Program} {l : Launch} {e : Env} {s : State} {m : MethodId} {args : Array Value} {below : List Frame} {meth : Method} {c : Code} {K : zK} {r : Int} {F9 : zF} {B9 : zB} (X : zX D ca L aS vS A p s m args meth c prog_6_method_28_code 18 (Option.some Jvm.ClassFile.FieldType.boolean) "StaveHouse$Part") {rec81 : Int → Int → Int → Int → Int → Int → Int → Int → Int → Int → Int → Int → Int → zF → zB → zO} (hrec81 : ∀ {l13 : Int} {l12 : Int} {l11 : Int} {l10 : Int} {l9 : Int} {l8 : Int} {l7 : Int} {l6 : Int} {l0 : Int} {l1 : Int} {l2 : Int} {l3 : Int} {l4 : Int} {F : zF} {B : zB} {H : Heap} {locs : List Loc} {ls : Array Slot}, rec81 l13 l12 l11 l10 l9 l8 l7 l6 l0 l1 l2 l3 l4 F B = some (r, F9, B9) → zH D ca ad lnC K.2 L F B A H → va_S A s.heap H locs → lv_has ls 18 [(13, .int (iI l13)), (12, va_rf (zrf ad 1 l12)), (11, va_rf (zrf ad 1 l11)), (10, va_rf (zrf ad 1 l10)), (9, va_rf (zrf ad 1 l9)), (8, .int (iI l8)), (7, .int (iI l7)), (6, .int (iI l6)), (0, .ref (ad 4 l0 0)), (1, .int (iI l1)), (2, .ref (ad 4 l2 0)), (3, .int (iI l3)), (4, .int (iI l4))] → W p l e ({ frames := 5, cells := 0, slots := 0, locals := 106 } : Room) s m args below meth c H locs 0 0 (MQ below (Q_Part_hasShape K D ca ad L r F9 B9 A) args s 0 0 A) (F0 m 81 ls [])) {l14 : Int} {l13 : Int} {l12 : Int} {l11 : Int} {l10 : Int} {l9 : Int} {l8 : Int} {l7 : Int} {l6 : Int} {l0 : Int} {l1 : Int} {l2 : Int} {l3 : Int} {l4 : Int} {s0 : Int} {s1 : Int} {F : zF} {B : zB} {H : Heap} {locs : List Loc} {ls : Array Slot} (hf : f_Part_hasShape_124 rec81 K l14 l13 l12 l11 l10 l9 l8 l7 l6 l0 l1 l2 l3 l4 s0 s1 F B = some (r, F9, B9)) (hZ : zH D ca ad lnC K.2 L F B A H) (hS : va_S A s.heap H locs) (hl : lv_has ls 18 [(14, va_rf (zrf ad 1 l14)), (13, .int (iI l13)), (12, va_rf (zrf ad 1 l12)), (11, va_rf (zrf ad 1 l11)), (10, va_rf (zrf ad 1 l10)), (9, va_rf (zrf ad 1 l9)), (8, .int (iI l8)), (7, .int (iI l7)), (6, .int (iI l6)), (0, .ref (ad 4 l0 0)), (1, .int (iI l1)), (2, .ref (ad 4 l2 0)), (3, .int (iI l3)), (4, .int (iI l4))]) : W p l e ({ frames := 5, cells := 0, slots := 0, locals := 106 } : Room) s m args below meth c H locs 0 0 (MQ below (Q_Part_hasShape K D ca ad L r F9 B9 A) args s 0 0 A) (F0 m 124 ls [.int (iI s1), .ref (ad 4 s0 (5 + 1))]) := by
  obtain ⟨hx, hb, hr, hml, hown, hts, hlk, hK, hA, hL, hX⟩ := id X
  replace hf : (if 0 ≤ s0 ∧ s0 < K.2 4 then if 0 ≤ s1 ∧ s1 < 200 then if r32 l8 then (if l8 = 0 then if 0 ≤ l14 ∧ l14 < K.2 1 then if 0 ≤ (B 4 s0 5 s1) ∧ (B 4 s0 5 s1) < K.2 1 then if r64 (F 1 l14 1) then if r64 (F 1 (B 4 s0 5 s1) 1) then (if (zcmp (F 1 l14 1) (F 1 (B 4 s0 5 s1) 1)) = 0 then f_Part_hasShape_165 rec81 K (B 4 s0 5 s1) l14 l13 l12 l11 l10 l9 l8 l7 l6 l0 l1 l2 l3 l4 1 F B else f_Part_hasShape_165 rec81 K (B 4 s0 5 s1) l14 l13 l12 l11 l10 l9 l8 l7 l6 l0 l1 l2 l3 l4 0 F B) else none else none else none else none else if 0 ≤ l9 ∧ l9 < K.2 1 then if 0 ≤ l10 ∧ l10 < K.2 1 then if 0 ≤ l14 ∧ l14 < K.2 1 then if 0 ≤ (B 4 s0 5 s1) ∧ (B 4 s0 5 s1) < K.2 1 then zbind (f_Part_sameFraction K l9 l10 l14 (B 4 s0 5 s1) F B) (fun r36 F36 B36 => f_Part_hasShape_165 rec81 K (B 4 s0 5 s1) l14 l13 l12 l11 l10 l9 l8 l7 l6 l0 l1 l2 l3 l4 r36 F36 B36) else none else none else none else none) else none else none else none) = some (r, F9, B9) := hf
  obtain ⟨g22, hf⟩ := gif hf
  obtain ⟨g23, hf⟩ := gif hf
  refine zaldR (t := 1) (x := 7) (ci := 4) (k := 5) hx hb hK rfl rfl hZ g22.1 g22.2 rfl (Nat.le_of_ble_eq_true rfl) g23.1 g23.2 (D_50 W_prog_6_method_28_code_96 28 rfl rfl) ?_
  refine zastore (lv' := [(14, va_rf (zrf ad 1 l14)), (13, .int (iI l13)), (12, va_rf (zrf ad 1 l12)), (11, va_rf (zrf ad 1 l11)), (10, va_rf (zrf ad 1 l10)), (9, va_rf (zrf ad 1 l9)), (8, .int (iI l8)), (7, .int (iI l7)), (6, .int (iI l6)), (0, .ref (ad 4 l0 0)), (1, .int (iI l1)), (2, .ref (ad 4 l2 0)), (3, .int (iI l3)), (4, .int (iI l4))]) hx hb (D_58 W_prog_6_method_28_code_96 29 rfl rfl) hl (by decide) (fun v hv => by cases zrf ad 1 l14 <;> rfl) (fun ls hl => ?_)
  refine lv_iload hx hb (D_21 W_prog_6_method_28_code_96 31 rfl rfl) (lv_at hl 7 rfl) ?_
  obtain ⟨g24, hf⟩ := gif hf
  refine z0eq (tgt := 146) hx hb g24 (D_153 W_prog_6_method_28_code_128 1 rfl rfl rfl) (by decide) (fun h25 => ?_) (fun h25 => ?_)
  · replace hf := gpos hf h25
    refine zaload hx hb (D_25 W_prog_6_method_28_code_128 18 rfl rfl) (lv_at hl 1 rfl) ?_
    obtain ⟨g26, hf⟩ := gif hf
    refine zunrf g26.1 ?_
    refine zget (ci := 1) (C := RX1) (T := TX1) (v := .long (lI (F 1 l14 1))) (k := 1) hx hb hts inW_1 hown hK hZ g26.1 g26.2 rfl (by decide) k_2_24 rfl (D_180 W_prog_6_method_28_code_128 20 rfl rfl rfl) ?_
    refine zaload hx hb (D_25 W_prog_6_method_28_code_128 23 rfl rfl) (lv_at hl 0 rfl) ?_
    obtain ⟨g27, hf⟩ := gif hf
    refine zunrf g27.1 ?_
    refine zget (ci := 1) (C := RX1) (T := TX1) (v := .long (lI (F 1 (B 4 s0 5 s1) 1))) (k := 1) hx hb hts inW_1 hown hK hZ g27.1 g27.2 rfl (by decide) k_2_24 rfl (D_180 W_prog_6_method_28_code_128 25 rfl rfl rfl) ?_
    obtain ⟨g28, hf⟩ := gif hf
    obtain ⟨g29, hf⟩ := gif hf
    refine zcmp_r hx hb g28 g29 (D_148 W_prog_6_method_28_code_128 28 rfl rfl) ?_
    refine z0ne (tgt := 164) hx hb zcmp_32 (D_154 W_prog_6_method_28_code_128 29 rfl rfl rfl) (by decide) (fun h30 => ?_) (fun h30 => ?_)
    · replace hf := gneg hf h30
      refine lv_iconst (v := iI 0) hx hb (D_3 W_prog_6_method_28_code_160 4 rfl rfl) rfl ?_
      exact b_Part_hasShape_165 X hrec81 hf hZ hS (lv_sub hl [0, 1, 2, 3, 4, 5, 6, 7, 8, 9, 10, 11, 12, 13, 14] rfl)
    · replace hf := gpos hf h30
      refine lv_iconst (v := iI 1) hx hb (D_4 W_prog_6_method_28_code_160 0 rfl rfl) rfl ?_
      refine lv_goto (tgt := 165) hx hb (D_167 W_prog_6_method_28_code_160 1 rfl rfl rfl) (by decide) ?_
      exact b_Part_hasShape_165 X hrec81 hf hZ hS (lv_sub hl [0, 1, 2, 3, 4, 5, 6, 7, 8, 9, 10, 11, 12, 13, 14] rfl)
  · replace hf := gneg hf h25
    refine zaload hx hb (D_25 W_prog_6_method_28_code_128 4 rfl rfl) (lv_at hl 6 rfl) ?_
    refine zaload hx hb (D_25 W_prog_6_method_28_code_128 6 rfl rfl) (lv_at hl 5 rfl) ?_
    refine zaload hx hb (D_25 W_prog_6_method_28_code_128 8 rfl rfl) (lv_at hl 1 rfl) ?_
    refine zaload hx hb (D_25 W_prog_6_method_28_code_128 10 rfl rfl) (lv_at hl 0 rfl) ?_
    obtain ⟨g31, hf⟩ := gif hf
    refine W.eq (g2 := F0 m 140 ls [va_rf (zrf ad 1 (B 4 s0 5 s1)), va_rf (zrf ad 1 l14), va_rf (zrf ad 1 l10), .ref (ad 1 l9 0)]) (by rw [zrf_pos (ad := ad) (t := 1) g31.1]; try rfl) ?_
    obtain ⟨g33, hf⟩ := gif hf
    refine W.eq (g2 := F0 m 140 ls [va_rf (zrf ad 1 (B 4 s0 5 s1)), va_rf (zrf ad 1 l14), .ref (ad 1 l10 0), .ref (ad 1 l9 0)]) (by rw [zrf_pos (ad := ad) (t := 1) g33.1]; try rfl) ?_
    obtain ⟨g34, hf⟩ := gif hf
    refine W.eq (g2 := F0 m 140 ls [va_rf (zrf ad 1 (B 4 s0 5 s1)), .ref (ad 1 l14 0), .ref (ad 1 l10 0), .ref (ad 1 l9 0)]) (by rw [zrf_pos (ad := ad) (t := 1) g34.1]; try rfl) ?_
    obtain ⟨g35, hf⟩ := gif hf
    refine W.eq (g2 := F0 m 140 ls [.ref (ad 1 (B 4 s0 5 s1) 0), .ref (ad 1 l14 0), .ref (ad 1 l10 0), .ref (ad 1 l9 0)]) (by rw [zrf_pos (ad := ad) (t := 1) g35.1]; try rfl) ?_
    obtain ⟨r36, F36, B36, hc36, hf⟩ := gbind hf
    refine va_calli (va_runS (As := [.ref (ad 1 l9 0), .ref (ad 1 l10 0), .ref (ad 1 l14 0), .ref (ad 1 (B 4 s0 5 s1) 0)]) (rest := []) ⟨hx, hb, hml, hown, hts⟩ (c_Part_sameFraction (l := l) hc36) (va_cwS 4 hts (gdS k_9_107 k_9_108 k_1_18 k_9_109) rfl rfl rfl (by decide +kernel) ⟨Nat.le_of_ble_eq_true rfl, Nat.le_of_ble_eq_true rfl⟩) (zPS X hZ hS [.ref (ad 1 l9 0), .ref (ad 1 l10 0), .ref (ad 1 l14 0), .ref (ad 1 (B 4 s0 5 s1) 0)]) rfl rfl hl.1 rfl (lv_room (Nat.le_of_ble_eq_true rfl)) (D_184 W_prog_6_method_28_code_128 12 rfl rfl rfl) ⟨Nat.le_of_ble_eq_true rfl, Nat.le_of_ble_eq_true rfl⟩) hS (fun q _ h => zAin X hS q h) (zAin X hS) (fun p36 u36 t36 H36 locs36 ht36 hv36 hw36 hB36 hz36 hk36 hS36 => ?_)
    have hZ36 := zBack X ht36 hB36
    subst hw36
    refine lv_goto (tgt := 165) hx hb (D_167 W_prog_6_method_28_code_128 15 rfl rfl rfl) (by decide) ?_
    exact b_Part_hasShape_165 X hrec81 hf hZ36 hS36 (lv_sub hl [0, 1, 2, 3, 4, 5, 6, 7, 8, 9, 10, 11, 12, 13, 14] rfl)

def f_Part_hasShape_81 (K : zK) : Nat → Int → Int → Int → Int → Int → Int → Int → Int → Int → Int → Int → Int → Int → zF → zB → zO
  | 0, _, _, _, _, _, _, _, _, _, _, _, _, _, _, _ => none
  | n + 1, l13, l12, l11, l10, l9, l8, l7, l6, l0, l1, l2, l3, l4, F, B => if r32 l13 then if r32 l4 then (if l4 ≤ l13 then some (1, F, B) else if 0 ≤ l2 ∧ l2 < K.2 4 then if 0 ≤ (l3 + l13) ∧ (l3 + l13) < 200 then if 0 ≤ l0 ∧ l0 < K.2 4 then if r32 l7 then (if l7 = 0 then f_Part_hasShape_124 (f_Part_hasShape_81 K n) K (B 4 l2 5 (l3 + l13)) l13 l12 l11 l10 l9 l8 l7 l6 l0 l1 l2 l3 l4 l0 (l1 + l13) F B else f_Part_hasShape_124 (f_Part_hasShape_81 K n) K (B 4 l2 5 (l3 + l13)) l13 l12 l11 l10 l9 l8 l7 l6 l0 l1 l2 l3 l4 l0 (((l1 + l4) - 1) - l13) F B) else none else none else none else none) else none else none
set_option maxHeartbeats 4000000 in
set_option maxRecDepth 100000 in
theorem b_Part_hasShape_81 {D : va_G} {ca : Nat → ClassId} {ad : Nat → Int → Nat → Nat} {L : List Nat} {aS vS : Nat → Nat} {A : Nat → Prop} {p : Program} {l : Launch} {e : Env} {s : State} {m : MethodId} {args : Array Value} {below : List Frame} {meth : Method} {c : Code} {K : zK} {r : Int} {F9 : zF} {B9 : zB} (X : zX D ca L aS vS A p s m args meth c prog_6_method_28_code 18 (Option.some Jvm.ClassFile.FieldType.boolean) "StaveHouse$Part") : ∀ {n : Nat} {l13 : Int} {l12 : Int} {l11 : Int} {l10 : Int} {l9 : Int} {l8 : Int} {l7 : Int} {l6 : Int} {l0 : Int} {l1 : Int} {l2 : Int} {l3 : Int} {l4 : Int} {F : zF} {B : zB} {H : Heap} {locs : List Loc} {ls : Array Slot}, f_Part_hasShape_81 K n l13 l12 l11 l10 l9 l8 l7 l6 l0 l1 l2 l3 l4 F B = some (r, F9, B9) → zH D ca ad lnC K.2 L F B A H → va_S A s.heap H locs → lv_has ls 18 [(13, .int (iI l13)), (12, va_rf (zrf ad 1 l12)), (11, va_rf (zrf ad 1 l11)), (10, va_rf (zrf ad 1 l10)), (9, va_rf (zrf ad 1 l9)), (8, .int (iI l8)), (7, .int (iI l7)), (6, .int (iI l6)), (0, .ref (ad 4 l0 0)), (1, .int (iI l1)), (2, .ref (ad 4 l2 0)), (3, .int (iI l3)), (4, .int (iI l4))] → W p l e ({ frames := 5, cells := 0, slots := 0, locals := 106 } : Room) s m args below meth c H locs 0 0 (MQ below (Q_Part_hasShape K D ca ad L r F9 B9 A) args s 0 0 A) (F0 m 81 ls []) := by
  obtain ⟨hx, hb, hr, hml, hown, hts, hlk, hK, hA, hL, hX⟩ := id X
  intro n
  induction n with
  | zero =>
    intros
    rename_i hf _ _ _
    cases hf
  | succ n ih =>
    intro l13 l12 l11 l10 l9 l8 l7 l6 l0 l1 l2 l3 l4 F B H locs ls hf hZ hS hl
    replace hf : (if r32 l13 then if r32 l4 then (if l4 ≤ l13 then some (1, F, B) else if 0 ≤ l2 ∧ l2 < K.2 4 then if 0 ≤ (l3 + l13) ∧ (l3 + l13) < 200 then if 0 ≤ l0 ∧ l0 < K.2 4 then if r32 l7 then (if l7 = 0 then f_Part_hasShape_124 (f_Part_hasShape_81 K n) K (B 4 l2 5 (l3 + l13)) l13 l12 l11 l10 l9 l8 l7 l6 l0 l1 l2 l3 l4 l0 (l1 + l13) F B else f_Part_hasShape_124 (f_Part_hasShape_81 K n) K (B 4 l2 5 (l3 + l13)) l13 l12 l11 l10 l9 l8 l7 l6 l0 l1 l2 l3 l4 l0 (((l1 + l4) - 1) - l13) F B) else none else none else none else none) else none else none) = some (r, F9, B9) := hf
    refine lv_iload hx hb (D_21 W_prog_6_method_28_code_64 17 rfl rfl) (lv_at hl 0 rfl) ?_
    refine lv_iload hx hb (D_21 W_prog_6_method_28_code_64 19 rfl rfl) (lv_at hl 12 rfl) ?_
    obtain ⟨g14, hf⟩ := gif hf
    obtain ⟨g15, hf⟩ := gif hf
    refine zge (tgt := 274) hx hb g14 g15 (D_162 W_prog_6_method_28_code_64 21 rfl rfl rfl) (by decide) (fun h16 => ?_) (fun h16 => ?_)
    · replace hf := gpos hf h16
      refine lv_iconst (v := iI 1) hx hb (D_4 W_prog_6_method_28_code_256 18 rfl rfl) rfl ?_
      cases hf
      exact W.zret hx hb hr rfl (fun t ht hW => ⟨⟨_, (), rfl, rfl, by rw [ht]; exact hZ, va_K.moved hW.alike hK⟩, hS.F ht⟩) hS.2.2 (D_172 W_prog_6_method_28_code_256 19 rfl rfl) hlk
    · replace hf := gneg hf h16
      refine lv_aload_n hx hb (D_44 W_prog_6_method_28_code_64 24 rfl rfl) rfl (lv_at hl 10 rfl) ?_
      obtain ⟨g17, hf⟩ := gif hf
      refine zget (ci := 4) (C := RX4) (T := TX4) (v := .ref (ad 4 l2 (5 + 1))) (k := 5) hx hb hts inW_4 hown hK hZ g17.1 g17.2 rfl (by decide) k_4_130 rfl (D_180 W_prog_6_method_28_code_64 25 rfl rfl rfl) ?_
      refine lv_iload_n hx hb (D_29 W_prog_6_method_28_code_64 28 rfl rfl) rfl (lv_at hl 11 rfl) ?_
      refine lv_iload hx hb (D_21 W_prog_6_method_28_code_64 29 rfl rfl) (lv_at hl 0 rfl) ?_
      refine zadd hx hb (D_96 W_prog_6_method_28_code_64 31 rfl rfl) ?_
      obtain ⟨g18, hf⟩ := gif hf
      refine zaldR (t := 1) (x := 7) (ci := 4) (k := 5) hx hb hK rfl rfl hZ g17.1 g17.2 rfl (Nat.le_of_ble_eq_true rfl) g18.1 g18.2 (D_50 W_prog_6_method_28_code_96 0 rfl rfl) ?_
      refine zastore (lv' := [(13, .int (iI l13)), (12, va_rf (zrf ad 1 l12)), (11, va_rf (zrf ad 1 l11)), (10, va_rf (zrf ad 1 l10)), (9, va_rf (zrf ad 1 l9)), (8, .int (iI l8)), (7, .int (iI l7)), (6, .int (iI l6)), (0, .ref (ad 4 l0 0)), (1, .int (iI l1)), (2, .ref (ad 4 l2 0)), (3, .int (iI l3)), (4, .int (iI l4))]) hx hb (D_58 W_prog_6_method_28_code_96 1 rfl rfl) hl (by decide) (fun _ _ => rfl) (fun ls hl => ?_)
      refine lv_aload_n hx hb (D_42 W_prog_6_method_28_code_96 3 rfl rfl) rfl (lv_at hl 9 rfl) ?_
      obtain ⟨g19, hf⟩ := gif hf
      refine zget (ci := 4) (C := RX4) (T := TX4) (v := .ref (ad 4 l0 (5 + 1))) (k := 5) hx hb hts inW_4 hown hK hZ g19.1 g19.2 rfl (by decide) k_4_130 rfl (D_180 W_prog_6_method_28_code_96 4 rfl rfl rfl) ?_
      refine lv_iload hx hb (D_21 W_prog_6_method_28_code_96 7 rfl rfl) (lv_at hl 7 rfl) ?_
      obtain ⟨g20, hf⟩ := gif hf
      refine z0eq (tgt := 120) hx hb g20 (D_153 W_prog_6_method_28_code_96 9 rfl rfl rfl) (by decide) (fun h21 => ?_) (fun h21 => ?_)
      · replace hf := gpos hf h21
        refine lv_iload_n hx hb (D_27 W_prog_6_method_28_code_96 24 rfl rfl) rfl (lv_at hl 10 rfl) ?_
        refine lv_iload hx hb (D_21 W_prog_6_method_28_code_96 25 rfl rfl) (lv_at hl 1 rfl) ?_
        refine zadd hx hb (D_96 W_prog_6_method_28_code_96 27 rfl rfl) ?_
        exact b_Part_hasShape_124 X ih hf hZ hS (lv_sub hl [0, 1, 2, 3, 4, 5, 6, 7, 8, 9, 10, 11, 12, 13] rfl)
      · replace hf := gneg hf h21
        refine lv_iload_n hx hb (D_27 W_prog_6_method_28_code_96 12 rfl rfl) rfl (lv_at hl 10 rfl) ?_
        refine lv_iload hx hb (D_21 W_prog_6_method_28_code_96 13 rfl rfl) (lv_at hl 13 rfl) ?_
        refine zadd hx hb (D_96 W_prog_6_method_28_code_96 15 rfl rfl) ?_
        refine lv_iconst (v := iI 1) hx hb (D_4 W_prog_6_method_28_code_96 16 rfl rfl) rfl ?_
        refine zsub hx hb (D_100 W_prog_6_method_28_code_96 17 rfl rfl) ?_
        refine lv_iload hx hb (D_21 W_prog_6_method_28_code_96 18 rfl rfl) (lv_at hl 1 rfl) ?_
        refine zsub hx hb (D_100 W_prog_6_method_28_code_96 20 rfl rfl) ?_
        refine lv_goto (tgt := 124) hx hb (D_167 W_prog_6_method_28_code_96 21 rfl rfl rfl) (by decide) ?_
        exact b_Part_hasShape_124 X ih hf hZ hS (lv_sub hl [0, 1, 2, 3, 4, 5, 6, 7, 8, 9, 10, 11, 12, 13] rfl)

def f_Part_hasShape_69 (K : zK) (l9 : Int) (l8 : Int) (l7 : Int) (l6 : Int) (l0 : Int) (l1 : Int) (l2 : Int) (l3 : Int) (l4 : Int) (s0 : Int) (s1 : Int) (F : zF) (B : zB) : zO := if 0 ≤ s0 ∧ s0 < K.2 4 then if 0 ≤ s1 ∧ s1 < 200 then f_Part_hasShape_81 K K.1 0 (-1) (-1) (B 4 s0 5 s1) l9 l8 l7 l6 l0 l1 l2 l3 l4 F B else none else none
set_option maxHeartbeats 4000000 in
set_option maxRecDepth 100000 in
theorem b_Part_hasShape_69 {D : va_G} {ca : Nat → ClassId} {ad : Nat → Int → Nat → Nat} {L : List Nat} {aS vS : Nat → Nat} {A : Nat → Prop} {p : Program} {l : Launch} {e : Env} {s : State} {m : MethodId} {args : Array Value} {below : List Frame} {meth : Method} {c : Code} {K : zK} {r : Int} {F9 : zF} {B9 : zB} (X : zX D ca L aS vS A p s m args meth c prog_6_method_28_code 18 (Option.some Jvm.ClassFile.FieldType.boolean) "StaveHouse$Part") {l9 : Int} {l8 : Int} {l7 : Int} {l6 : Int} {l0 : Int} {l1 : Int} {l2 : Int} {l3 : Int} {l4 : Int} {s0 : Int} {s1 : Int} {F : zF} {B : zB} {H : Heap} {locs : List Loc} {ls : Array Slot} (hf : f_Part_hasShape_69 K l9 l8 l7 l6 l0 l1 l2 l3 l4 s0 s1 F B = some (r, F9, B9)) (hZ : zH D ca ad lnC K.2 L F B A H) (hS : va_S A s.heap H locs) (hl : lv_has ls 18 [(9, va_rf (zrf ad 1 l9)), (8, .int (iI l8)), (7, .int (iI l7)), (6, .int (iI l6)), (0, .ref (ad 4 l0 0)), (1, .int (iI l1)), (2, .ref (ad 4 l2 0)), (3, .int (iI l3)), (4, .int (iI l4))]) : W p l e ({ frames := 5, cells := 0, slots := 0, locals := 106 } : Room) s m args below meth c H locs 0 0 (MQ below (Q_Part_hasShape K D ca ad L r F9 B9 A) args s 0 0 A) (F0 m 69 ls [.int (iI s1), .ref (ad 4 s0 (5 + 1))]) := by
  obtain ⟨hx, hb, hr, hml, hown, hts, hlk, hK, hA, hL, hX⟩ := id X
  replace hf : (if 0 ≤ s0 ∧ s0 < K.2 4 then if 0 ≤ s1 ∧ s1 < 200 then f_Part_hasShape_81 K K.1 0 (-1) (-1) (B 4 s0 5 s1) l9 l8 l7 l6 l0 l1 l2 l3 l4 F B else none else none) = some (r, F9, B9) := hf
  obtain ⟨g12, hf⟩ := gif hf
  obtain ⟨g13, hf⟩ := gif hf
  refine zaldR (t := 1) (x := 7) (ci := 4) (k := 5) hx hb hK rfl rfl hZ g12.1 g12.2 rfl (Nat.le_of_ble_eq_true rfl) g13.1 g13.2 (D_50 W_prog_6_method_28_code_64 5 rfl rfl) ?_
  refine zastore (lv' := [(9, va_rf (zrf ad 1 l9)), (8, .int (iI l8)), (7, .int (iI l7)), (6, .int (iI l6)), (0, .ref (ad 4 l0 0)), (1, .int (iI l1)), (2, .ref (ad 4 l2 0)), (3, .int (iI l3)), (4, .int (iI l4))]) hx hb (D_58 W_prog_6_method_28_code_64 6 rfl rfl) hl (by decide) (fun v hv => by cases zrf ad 1 l9 <;> rfl) (fun ls hl => ?_)
  refine lv_null hx hb (D_1 W_prog_6_method_28_code_64 8 rfl rfl) ?_
  refine W.eq (g2 := F0 m 73 ls [va_rf (zrf ad 1 (-1))]) rfl ?_
  refine zastore (lv' := [(10, va_rf (zrf ad 1 (B 4 s0 5 s1))), (9, va_rf (zrf ad 1 l9)), (8, .int (iI l8)), (7, .int (iI l7)), (6, .int (iI l6)), (0, .ref (ad 4 l0 0)), (1, .int (iI l1)), (2, .ref (ad 4 l2 0)), (3, .int (iI l3)), (4, .int (iI l4))]) hx hb (D_58 W_prog_6_method_28_code_64 9 rfl rfl) hl (by decide) (fun v hv => by cases zrf ad 1 (B 4 s0 5 s1) <;> rfl) (fun ls hl => ?_)
  refine lv_null hx hb (D_1 W_prog_6_method_28_code_64 11 rfl rfl) ?_
  refine W.eq (g2 := F0 m 76 ls [va_rf (zrf ad 1 (-1))]) rfl ?_
  refine zastore (lv' := [(11, va_rf (zrf ad 1 (-1))), (10, va_rf (zrf ad 1 (B 4 s0 5 s1))), (9, va_rf (zrf ad 1 l9)), (8, .int (iI l8)), (7, .int (iI l7)), (6, .int (iI l6)), (0, .ref (ad 4 l0 0)), (1, .int (iI l1)), (2, .ref (ad 4 l2 0)), (3, .int (iI l3)), (4, .int (iI l4))]) hx hb (D_58 W_prog_6_method_28_code_64 12 rfl rfl) hl (by decide) (fun v hv => by cases zrf ad 1 (-1) <;> rfl) (fun ls hl => ?_)
  refine lv_iconst (v := iI 0) hx hb (D_3 W_prog_6_method_28_code_64 14 rfl rfl) rfl ?_
  refine lv_istore (lv' := [(13, .int (iI 0)), (12, va_rf (zrf ad 1 (-1))), (11, va_rf (zrf ad 1 (-1))), (10, va_rf (zrf ad 1 (B 4 s0 5 s1))), (9, va_rf (zrf ad 1 l9)), (8, .int (iI l8)), (7, .int (iI l7)), (6, .int (iI l6)), (0, .ref (ad 4 l0 0)), (1, .int (iI l1)), (2, .ref (ad 4 l2 0)), (3, .int (iI l3)), (4, .int (iI l4))]) hx hb (D_54 W_prog_6_method_28_code_64 15 rfl rfl) hl (by decide) (by cases zrf ad 1 (-1) <;> rfl) (fun ls hl => ?_)
  exact b_Part_hasShape_81 X hf hZ hS (lv_sub hl [0, 1, 2, 3, 4, 5, 6, 7, 8, 9, 10, 11, 12] rfl)

def f_Part_hasShape_40 (K : zK) (l7 : Int) (l6 : Int) (l0 : Int) (l1 : Int) (l2 : Int) (l3 : Int) (l4 : Int) (s0 : Int) (F : zF) (B : zB) : zO := if 0 ≤ l2 ∧ l2 < K.2 4 then if 0 ≤ l3 ∧ l3 < 200 then if 0 ≤ l0 ∧ l0 < K.2 4 then if r32 l7 then (if l7 = 0 then f_Part_hasShape_69 K (B 4 l2 5 l3) s0 l7 l6 l0 l1 l2 l3 l4 l0 l1 F B else f_Part_hasShape_69 K (B 4 l2 5 l3) s0 l7 l6 l0 l1 l2 l3 l4 l0 ((l1 + l4) - 1) F B) else none else none else none else none
set_option maxHeartbeats 4000000 in
set_option maxRecDepth 100000 in
theorem b_Part_hasShape_40 {D : va_G} {ca : Nat → ClassId} {ad : Nat → Int → Nat → Nat} {L : List Nat} {aS vS : Nat → Nat} {A : Nat → Prop} {p : Program} {l : Launch} {e : Env} {s : State} {m : MethodId} {args : Array Value} {below : List Frame} {meth : Method} {c : Code} {K : zK} {r : Int} {F9 : zF} {B9 : zB} (X : zX D ca L aS vS A p s m args meth c prog_6_method_28_code 18 (Option.some Jvm.ClassFile.FieldType.boolean) "StaveHouse$Part") {l7 : Int} {l6 : Int} {l0 : Int} {l1 : Int} {l2 : Int} {l3 : Int} {l4 : Int} {s0 : Int} {F : zF} {B : zB} {H : Heap} {locs : List Loc} {ls : Array Slot} (hf : f_Part_hasShape_40 K l7 l6 l0 l1 l2 l3 l4 s0 F B = some (r, F9, B9)) (hZ : zH D ca ad lnC K.2 L F B A H) (hS : va_S A s.heap H locs) (hl : lv_has ls 18 [(7, .int (iI l7)), (6, .int (iI l6)), (0, .ref (ad 4 l0 0)), (1, .int (iI l1)), (2, .ref (ad 4 l2 0)), (3, .int (iI l3)), (4, .int (iI l4))]) : W p l e ({ frames := 5, cells := 0, slots := 0, locals := 106 } : Room) s m args below meth c H locs 0 0 (MQ below (Q_Part_hasShape K D ca ad L r F9 B9 A) args s 0 0 A) (F0 m 40 ls [.int (iI s0)]) := by
  obtain ⟨hx, hb, hr, hml, hown, hts, hlk, hK, hA, hL, hX⟩ := id X
  replace hf : (if 0 ≤ l2 ∧ l2 < K.2 4 then if 0 ≤ l3 ∧ l3 < 200 then if 0 ≤ l0 ∧ l0 < K.2 4 then if r32 l7 then (if l7 = 0 then f_Part_hasShape_69 K (B 4 l2 5 l3) s0 l7 l6 l0 l1 l2 l3 l4 l0 l1 F B else f_Part_hasShape_69 K (B 4 l2 5 l3) s0 l7 l6 l0 l1 l2 l3 l4 l0 ((l1 + l4) - 1) F B) else none else none else none else none) = some (r, F9, B9) := hf
  refine lv_istore (lv' := [(8, .int (iI s0)), (7, .int (iI l7)), (6, .int (iI l6)), (0, .ref (ad 4 l0 0)), (1, .int (iI l1)), (2, .ref (ad 4 l2 0)), (3, .int (iI l3)), (4, .int (iI l4))]) hx hb (D_54 W_prog_6_method_28_code_32 8 rfl rfl) hl (by decide) rfl (fun ls hl => ?_)
  refine lv_aload_n hx hb (D_44 W_prog_6_method_28_code_32 10 rfl rfl) rfl (lv_at hl 5 rfl) ?_
  obtain ⟨g7, hf⟩ := gif hf
  refine zget (ci := 4) (C := RX4) (T := TX4) (v := .ref (ad 4 l2 (5 + 1))) (k := 5) hx hb hts inW_4 hown hK hZ g7.1 g7.2 rfl (by decide) k_4_130 rfl (D_180 W_prog_6_method_28_code_32 11 rfl rfl rfl) ?_
  refine lv_iload_n hx hb (D_29 W_prog_6_method_28_code_32 14 rfl rfl) rfl (lv_at hl 6 rfl) ?_
  obtain ⟨g8, hf⟩ := gif hf
  refine zaldR (t := 1) (x := 7) (ci := 4) (k := 5) hx hb hK rfl rfl hZ g7.1 g7.2 rfl (Nat.le_of_ble_eq_true rfl) g8.1 g8.2 (D_50 W_prog_6_method_28_code_32 15 rfl rfl) ?_
  refine zastore (lv' := [(8, .int (iI s0)), (7, .int (iI l7)), (6, .int (iI l6)), (0, .ref (ad 4 l0 0)), (1, .int (iI l1)), (2, .ref (ad 4 l2 0)), (3, .int (iI l3)), (4, .int (iI l4))]) hx hb (D_58 W_prog_6_method_28_code_32 16 rfl rfl) hl (by decide) (fun _ _ => rfl) (fun ls hl => ?_)
  refine lv_aload_n hx hb (D_42 W_prog_6_method_28_code_32 18 rfl rfl) rfl (lv_at hl 4 rfl) ?_
  obtain ⟨g9, hf⟩ := gif hf
  refine zget (ci := 4) (C := RX4) (T := TX4) (v := .ref (ad 4 l0 (5 + 1))) (k := 5) hx hb hts inW_4 hown hK hZ g9.1 g9.2 rfl (by decide) k_4_130 rfl (D_180 W_prog_6_method_28_code_32 19 rfl rfl rfl) ?_
  refine lv_iload hx hb (D_21 W_prog_6_method_28_code_32 22 rfl rfl) (lv_at hl 2 rfl) ?_
  obtain ⟨g10, hf⟩ := gif hf
  refine z0eq (tgt := 68) hx hb g10 (D_153 W_prog_6_method_28_code_32 24 rfl rfl rfl) (by decide) (fun h11 => ?_) (fun h11 => ?_)
  · replace hf := gpos hf h11
    refine lv_iload_n hx hb (D_27 W_prog_6_method_28_code_64 4 rfl rfl) rfl (lv_at hl 5 rfl) ?_
    exact b_Part_hasShape_69 X hf hZ hS (lv_sub hl [0, 1, 2, 3, 4, 5, 6, 7, 8] rfl)
  · replace hf := gneg hf h11
    refine lv_iload_n hx hb (D_27 W_prog_6_method_28_code_32 27 rfl rfl) rfl (lv_at hl 5 rfl) ?_
    refine lv_iload hx hb (D_21 W_prog_6_method_28_code_32 28 rfl rfl) (lv_at hl 8 rfl) ?_
    refine zadd hx hb (D_96 W_prog_6_method_28_code_32 30 rfl rfl) ?_
    refine lv_iconst (v := iI 1) hx hb (D_4 W_prog_6_method_28_code_32 31 rfl rfl) rfl ?_
    refine zsub hx hb (D_100 W_prog_6_method_28_code_64 0 rfl rfl) ?_
    refine lv_goto (tgt := 69) hx hb (D_167 W_prog_6_method_28_code_64 1 rfl rfl rfl) (by decide) ?_
    exact b_Part_hasShape_69 X hf hZ hS (lv_sub hl [0, 1, 2, 3, 4, 5, 6, 7, 8] rfl)

def f_Part_hasShape_26 (K : zK) (l6 : Int) (l0 : Int) (l1 : Int) (l2 : Int) (l3 : Int) (l4 : Int) (l5 : Int) (s0 : Int) (F : zF) (B : zB) : zO := if r32 (zand l5 4) then (if (zand l5 4) = 0 then f_Part_hasShape_40 K s0 l6 l0 l1 l2 l3 l4 0 F B else f_Part_hasShape_40 K s0 l6 l0 l1 l2 l3 l4 1 F B) else none
set_option maxHeartbeats 4000000 in
set_option maxRecDepth 100000 in
theorem b_Part_hasShape_26 {D : va_G} {ca : Nat → ClassId} {ad : Nat → Int → Nat → Nat} {L : List Nat} {aS vS : Nat → Nat} {A : Nat → Prop} {p : Program} {l : Launch} {e : Env} {s : State} {m : MethodId} {args : Array Value} {below : List Frame} {meth : Method} {c : Code} {K : zK} {r : Int} {F9 : zF} {B9 : zB} (X : zX D ca L aS vS A p s m args meth c prog_6_method_28_code 18 (Option.some Jvm.ClassFile.FieldType.boolean) "StaveHouse$Part") {l6 : Int} {l0 : Int} {l1 : Int} {l2 : Int} {l3 : Int} {l4 : Int} {l5 : Int} {s0 : Int} {F : zF} {B : zB} {H : Heap} {locs : List Loc} {ls : Array Slot} (hf : f_Part_hasShape_26 K l6 l0 l1 l2 l3 l4 l5 s0 F B = some (r, F9, B9)) (hZ : zH D ca ad lnC K.2 L F B A H) (hS : va_S A s.heap H locs) (hl : lv_has ls 18 [(6, .int (iI l6)), (0, .ref (ad 4 l0 0)), (1, .int (iI l1)), (2, .ref (ad 4 l2 0)), (3, .int (iI l3)), (4, .int (iI l4)), (5, .int (iI l5))]) : W p l e ({ frames := 5, cells := 0, slots := 0, locals := 106 } : Room) s m args below meth c H locs 0 0 (MQ below (Q_Part_hasShape K D ca ad L r F9 B9 A) args s 0 0 A) (F0 m 26 ls [.int (iI s0)]) := by
  obtain ⟨hx, hb, hr, hml, hown, hts, hlk, hK, hA, hL, hX⟩ := id X
  replace hf : (if r32 (zand l5 4) then (if (zand l5 4) = 0 then f_Part_hasShape_40 K s0 l6 l0 l1 l2 l3 l4 0 F B else f_Part_hasShape_40 K s0 l6 l0 l1 l2 l3 l4 1 F B) else none) = some (r, F9, B9) := hf
  refine lv_istore (lv' := [(7, .int (iI s0)), (6, .int (iI l6)), (0, .ref (ad 4 l0 0)), (1, .int (iI l1)), (2, .ref (ad 4 l2 0)), (3, .int (iI l3)), (4, .int (iI l4)), (5, .int (iI l5))]) hx hb (D_54 W_prog_6_method_28_code_0 26 rfl rfl) hl (by decide) rfl (fun ls hl => ?_)
  refine lv_iload hx hb (D_21 W_prog_6_method_28_code_0 28 rfl rfl) (lv_at hl 7 rfl) ?_
  refine lv_iconst (v := iI 4) hx hb (D_7 W_prog_6_method_28_code_0 30 rfl rfl) rfl ?_
  refine zand_r hx hb (D_126 W_prog_6_method_28_code_0 31 rfl rfl) ?_
  obtain ⟨g5, hf⟩ := gif hf
  refine z0eq (tgt := 39) hx hb g5 (D_153 W_prog_6_method_28_code_32 0 rfl rfl rfl) (by decide) (fun h6 => ?_) (fun h6 => ?_)
  · replace hf := gpos hf h6
    refine lv_iconst (v := iI 0) hx hb (D_3 W_prog_6_method_28_code_32 7 rfl rfl) rfl ?_
    exact b_Part_hasShape_40 X hf hZ hS (lv_sub hl [0, 1, 2, 3, 4, 5, 6] rfl)
  · replace hf := gneg hf h6
    refine lv_iconst (v := iI 1) hx hb (D_4 W_prog_6_method_28_code_32 3 rfl rfl) rfl ?_
    refine lv_goto (tgt := 40) hx hb (D_167 W_prog_6_method_28_code_32 4 rfl rfl rfl) (by decide) ?_
    exact b_Part_hasShape_40 X hf hZ hS (lv_sub hl [0, 1, 2, 3, 4, 5, 6] rfl)

def f_Part_hasShape_12 (K : zK) (l0 : Int) (l1 : Int) (l2 : Int) (l3 : Int) (l4 : Int) (l5 : Int) (s0 : Int) (F : zF) (B : zB) : zO := if r32 (zand l5 2) then (if (zand l5 2) = 0 then f_Part_hasShape_26 K s0 l0 l1 l2 l3 l4 l5 0 F B else f_Part_hasShape_26 K s0 l0 l1 l2 l3 l4 l5 1 F B) else none
set_option maxHeartbeats 4000000 in
set_option maxRecDepth 100000 in
theorem b_Part_hasShape_12 {D : va_G} {ca : Nat → ClassId} {ad : Nat → Int → Nat → Nat} {L : List Nat} {aS vS : Nat → Nat} {A : Nat → Prop} {p : Program} {l : Launch} {e : Env} {s : State} {m : MethodId} {args : Array Value} {below : List Frame} {meth : Method} {c : Code} {K : zK} {r : Int} {F9 : zF} {B9 : zB} (X : zX D ca L aS vS A p s m args meth c prog_6_method_28_code 18 (Option.some Jvm.ClassFile.FieldType.boolean) "StaveHouse$Part") {l0 : Int} {l1 : Int} {l2 : Int} {l3 : Int} {l4 : Int} {l5 : Int} {s0 : Int} {F : zF} {B : zB} {H : Heap} {locs : List Loc} {ls : Array Slot} (hf : f_Part_hasShape_12 K l0 l1 l2 l3 l4 l5 s0 F B = some (r, F9, B9)) (hZ : zH D ca ad lnC K.2 L F B A H) (hS : va_S A s.heap H locs) (hl : lv_has ls 18 [(0, .ref (ad 4 l0 0)), (1, .int (iI l1)), (2, .ref (ad 4 l2 0)), (3, .int (iI l3)), (4, .int (iI l4)), (5, .int (iI l5))]) : W p l e ({ frames := 5, cells := 0, slots := 0, locals := 106 } : Room) s m args below meth c H locs 0 0 (MQ below (Q_Part_hasShape K D ca ad L r F9 B9 A) args s 0 0 A) (F0 m 12 ls [.int (iI s0)]) := by
  obtain ⟨hx, hb, hr, hml, hown, hts, hlk, hK, hA, hL, hX⟩ := id X
  replace hf : (if r32 (zand l5 2) then (if (zand l5 2) = 0 then f_Part_hasShape_26 K s0 l0 l1 l2 l3 l4 l5 0 F B else f_Part_hasShape_26 K s0 l0 l1 l2 l3 l4 l5 1 F B) else none) = some (r, F9, B9) := hf
  refine lv_istore (lv' := [(6, .int (iI s0)), (0, .ref (ad 4 l0 0)), (1, .int (iI l1)), (2, .ref (ad 4 l2 0)), (3, .int (iI l3)), (4, .int (iI l4)), (5, .int (iI l5))]) hx hb (D_54 W_prog_6_method_28_code_0 12 rfl rfl) hl (by decide) rfl (fun ls hl => ?_)
  refine lv_iload hx hb (D_21 W_prog_6_method_28_code_0 14 rfl rfl) (lv_at hl 6 rfl) ?_
  refine lv_iconst (v := iI 2) hx hb (D_5 W_prog_6_method_28_code_0 16 rfl rfl) rfl ?_
  refine zand_r hx hb (D_126 W_prog_6_method_28_code_0 17 rfl rfl) ?_
  obtain ⟨g3, hf⟩ := gif hf
  refine z0eq (tgt := 25) hx hb g3 (D_153 W_prog_6_method_28_code_0 18 rfl rfl rfl) (by decide) (fun h4 => ?_) (fun h4 => ?_)
  · replace hf := gpos hf h4
    refine lv_iconst (v := iI 0) hx hb (D_3 W_prog_6_method_28_code_0 25 rfl rfl) rfl ?_
    exact b_Part_hasShape_26 X hf hZ hS (lv_sub hl [0, 1, 2, 3, 4, 5, 6] rfl)
  · replace hf := gneg hf h4
    refine lv_iconst (v := iI 1) hx hb (D_4 W_prog_6_method_28_code_0 21 rfl rfl) rfl ?_
    refine lv_goto (tgt := 26) hx hb (D_167 W_prog_6_method_28_code_0 22 rfl rfl rfl) (by decide) ?_
    exact b_Part_hasShape_26 X hf hZ hS (lv_sub hl [0, 1, 2, 3, 4, 5, 6] rfl)

def f_Part_hasShape (K : zK) (l0 : Int) (l1 : Int) (l2 : Int) (l3 : Int) (l4 : Int) (l5 : Int) (F : zF) (B : zB) : zO := if r32 (zand l5 1) then (if (zand l5 1) = 0 then f_Part_hasShape_12 K l0 l1 l2 l3 l4 l5 0 F B else f_Part_hasShape_12 K l0 l1 l2 l3 l4 l5 1 F B) else none
set_option maxHeartbeats 4000000 in
set_option maxRecDepth 100000 in
theorem c_Part_hasShape {l : Launch} {D : va_G} {ca : Nat → ClassId} {ad : Nat → Int → Nat → Nat} {L : List Nat} {aS vS : Nat → Nat} {sz : Nat} {K : zK}  {l0 : Int} {l1 : Int} {l2 : Int} {l3 : Int} {l4 : Int} {l5 : Int} {F F9 : zF} {B B9 : zB} {r : Int} (hf : f_Part_hasShape K l0 l1 l2 l3 l4 l5 F B = some (r, F9, B9)) : Met l ({ cls := "StaveHouse$Part", name := "hasShape", desc := "(ILStaveHouse$Part;III)Z" } : Jvm.MethodName) (Cond.code ({ cls := "StaveHouse$Part", name := "hasShape", desc := "(ILStaveHouse$Part;III)Z" } : Jvm.MethodName) prog_6_method_28_code 18 (Option.some Jvm.ClassFile.FieldType.boolean) :: wAll) ({ frames := 5, cells := 0, slots := 0, locals := 106 } : Room) (va_Pc [.ref (ad 4 l0 0), .int (iI l1), .ref (ad 4 l2 0), .int (iI l3), .int (iI l4), .int (iI l5)] (zPre D ca ad lnC K.2 L aS vS F B sz)) (Q_Part_hasShape K D ca ad L r F9 B9 (zA L sz)) 0 0 (zA L sz) := by
  refine zMet (Qc := Q_Part_hasShape K D ca ad L r F9 B9) (lv := [(0, .ref (ad 4 l0 0)), (1, .int (iI l1)), (2, .ref (ad 4 l2 0)), (3, .int (iI l3)), (4, .int (iI l4)), (5, .int (iI l5))]) (by decide) (Nat.le_of_ble_eq_true rfl) rfl (fun A p e s m below meth c ls X hZ hS hl => ?_)
  obtain ⟨hx, hb, hr, hml, hown, hts, hlk, hK, hA, hL, hX⟩ := id X
  replace hf : (if r32 (zand l5 1) then (if (zand l5 1) = 0 then f_Part_hasShape_12 K l0 l1 l2 l3 l4 l5 0 F B else f_Part_hasShape_12 K l0 l1 l2 l3 l4 l5 1 F B) else none) = some (r, F9, B9) := hf
  refine lv_iload hx hb (D_21 W_prog_6_method_28_code_0 0 rfl rfl) (lv_at hl 5 rfl) ?_
  refine lv_iconst (v := iI 1) hx hb (D_4 W_prog_6_method_28_code_0 2 rfl rfl) rfl ?_
  refine zand_r hx hb (D_126 W_prog_6_method_28_code_0 3 rfl rfl) ?_
  obtain ⟨g1, hf⟩ := gif hf
  refine z0eq (tgt := 11) hx hb g1 (D_153 W_prog_6_method_28_code_0 4 rfl rfl rfl) (by decide) (fun h2 => ?_) (fun h2 => ?_)
  · replace hf := gpos hf h2
    refine lv_iconst (v := iI 0) hx hb (D_3 W_prog_6_method_28_code_0 11 rfl rfl) rfl ?_
    exact b_Part_hasShape_12 X hf hZ hS (lv_sub hl [0, 1, 2, 3, 4, 5] rfl)
  · replace hf := gneg hf h2
    refine lv_iconst (v := iI 1) hx hb (D_4 W_prog_6_method_28_code_0 7 rfl rfl) rfl ?_
    refine lv_goto (tgt := 12) hx hb (D_167 W_prog_6_method_28_code_0 8 rfl rfl rfl) (by decide) ?_
    exact b_Part_hasShape_12 X hf hZ hS (lv_sub hl [0, 1, 2, 3, 4, 5] rfl)

abbrev Q_CString_indexOf_0 (K : zK) (D : va_G) (ca : Nat → ClassId) (ad : Nat → Int → Nat → Nat) (L : List Nat) (r : Int) (F : zF) (B : zB) (A : Nat → Prop) : Array Value → State → Outcome → State → Prop := va_Qi (S := Unit) (fun p _ => p = iI r) (fun _ => zPo D ca ad lnC K.2 L F B A) A
def f_CString_indexOf_0 (K : zK) (l0 : Nat) (l1 : Int) (F : zF) (B : zB) : zO := if l0 < strL.length then zbind (f_CString_indexOf_1 K l0 l1 0 F B) (fun r2 F2 B2 => some (r2, F2, B2)) else none
set_option maxHeartbeats 4000000 in
set_option maxRecDepth 100000 in
theorem c_CString_indexOf_0 {l : Launch} {D : va_G} {ca : Nat → ClassId} {ad : Nat → Int → Nat → Nat} {L : List Nat} {aS vS : Nat → Nat} {sz : Nat} {K : zK}  {l0 : Nat} {l1 : Int} {F F9 : zF} {B B9 : zB} {r : Int} (hf : f_CString_indexOf_0 K l0 l1 F B = some (r, F9, B9)) : Met l ({ cls := "java/lang/String", name := "indexOf", desc := "(I)I" } : Jvm.MethodName) (Cond.code ({ cls := "java/lang/String", name := "indexOf", desc := "(I)I" } : Jvm.MethodName) prog_21_method_79_code 2 (Option.some Jvm.ClassFile.FieldType.int) :: wAll) ({ frames := 3, cells := 0, slots := 0, locals := 70 } : Room) (va_Pc [.ref (aS l0), .int (iI l1)] (zPre D ca ad lnC K.2 L aS vS F B sz)) (Q_CString_indexOf_0 K D ca ad L r F9 B9 (zA L sz)) 0 0 (zA L sz) := by
  refine zMet (Qc := Q_CString_indexOf_0 K D ca ad L r F9 B9) (lv := [(0, .ref (aS l0)), (1, .int (iI l1))]) (by decide) (Nat.le_of_ble_eq_true rfl) rfl (fun A p e s m below meth c ls X hZ hS hl => ?_)
  obtain ⟨hx, hb, hr, hml, hown, hts, hlk, hK, hA, hL, hX⟩ := id X
  replace hf : (if l0 < strL.length then zbind (f_CString_indexOf_1 K l0 l1 0 F B) (fun r2 F2 B2 => some (r2, F2, B2)) else none) = some (r, F9, B9) := hf
  refine lv_aload_n hx hb (D_42 W_prog_21_method_79_code_0 0 rfl rfl) rfl (lv_at hl 0 rfl) ?_
  refine lv_iload_n hx hb (D_27 W_prog_21_method_79_code_0 1 rfl rfl) rfl (lv_at hl 1 rfl) ?_
  refine lv_iconst (v := iI 0) hx hb (D_3 W_prog_21_method_79_code_0 2 rfl rfl) rfl ?_
  obtain ⟨g1, hf⟩ := gif hf
  obtain ⟨r2, F2, B2, hc2, hf⟩ := gbind hf
  refine va_calli (va_runV (As := [.int (iI l1), .int (iI 0)]) (rest := []) ⟨hx, hb, hml, hown, hts⟩ (c_CString_indexOf_1 (l := l) hc2) (cwV 2 hts (gdV k_3_71 k_3_72 k_3_73 k_1_11 k_3_74) rfl rfl rfl (by decide +kernel) ⟨Nat.le_of_ble_eq_true rfl, Nat.le_of_ble_eq_true rfl⟩) ⟨zBlind, zsrecv hX g1 hS, zAt X hZ hS [.ref (aS l0), .int (iI l1), .int (iI 0)]⟩ rfl rfl hl.1 rfl (lv_room (Nat.le_of_ble_eq_true rfl)) (D_182 W_prog_21_method_79_code_0 3 rfl rfl rfl) ⟨Nat.le_of_ble_eq_true rfl, Nat.le_of_ble_eq_true rfl⟩) hS (fun q _ h => zAin X hS q h) (zAin X hS) (fun p2 u2 t2 H2 locs2 ht2 hv2 hw2 hB2 hz2 hk2 hS2 => ?_)
  have hZ2 := zBack X ht2 hB2
  subst hw2
  cases hf
  exact W.iret hx hb hr (fun t ht hW => ⟨⟨_, (), rfl, rfl, by rw [ht]; exact hZ2, va_K.moved hW.alike hK⟩, hS2.F ht⟩) hS2.2.2 (D_172 W_prog_21_method_79_code_0 6 rfl rfl) hlk

abbrev Q_Parser_takeMarks (K : zK) (D : va_G) (ca : Nat → ClassId) (ad : Nat → Int → Nat → Nat) (L : List Nat) (r : Int) (F : zF) (B : zB) (A : Nat → Prop) : Array Value → State → Outcome → State → Prop := va_Qv (S := Unit) (fun _ => True) (fun _ => zPo D ca ad lnC K.2 L F B A) A
def f_Parser_takeMarks_82 (K : zK)  (F : zF) (B : zB) : zO := some (0, F, B)
set_option maxHeartbeats 4000000 in
set_option maxRecDepth 100000 in
theorem b_Parser_takeMarks_82 {D : va_G} {ca : Nat → ClassId} {ad : Nat → Int → Nat → Nat} {L : List Nat} {aS vS : Nat → Nat} {A : Nat → Prop} {p : Program} {l : Launch} {e : Env} {s : State} {m : MethodId} {args : Array Value} {below : List Frame} {meth : Method} {c : Code} {K : zK} {r : Int} {F9 : zF} {B9 : zB} (X : zX D ca L aS vS A p s m args meth c prog_5_method_27_code 4 (Option.none : Option Jvm.ClassFile.FieldType) "StaveHouse$Parser")  {F : zF} {B : zB} {H : Heap} {locs : List Loc} {ls : Array Slot} (hf : f_Parser_takeMarks_82 K  F B = some (r, F9, B9)) (hZ : zH D ca ad lnC K.2 L F B A H) (hS : va_S A s.heap H locs) (hl : lv_has ls 4 []) : W p l e ({ frames := 4, cells := 0, slots := 0, locals := 91 } : Room) s m args below meth c H locs 0 0 (MQ below (Q_Parser_takeMarks K D ca ad L r F9 B9 A) args s 0 0 A) (F0 m 82 ls []) := by
  obtain ⟨hx, hb, hr, hml, hown, hts, hlk, hK, hA, hL, hX⟩ := id X
  replace hf : (some (0, F, B)) = some (r, F9, B9) := hf
  cases hf
  exact W.vret hx hb hr (fun t ht hW => ⟨⟨(), rfl, trivial, by rw [ht]; exact hZ, va_K.moved hW.alike hK⟩, hS.F ht⟩) hS.2.2 (D_177 W_prog_5_method_27_code_64 18 rfl rfl) hlk

def f_Parser_takeMarks_56 (K : zK)  (F : zF) (B : zB) : zO := some (0, F, B)
set_option maxHeartbeats 4000000 in
set_option maxRecDepth 100000 in
theorem b_Parser_takeMarks_56 {D : va_G} {ca : Nat → ClassId} {ad : Nat → Int → Nat → Nat} {L : List Nat} {aS vS : Nat → Nat} {A : Nat → Prop} {p : Program} {l : Launch} {e : Env} {s : State} {m : MethodId} {args : Array Value} {below : List Frame} {meth : Method} {c : Code} {K : zK} {r : Int} {F9 : zF} {B9 : zB} (X : zX D ca L aS vS A p s m args meth c prog_5_method_27_code 4 (Option.none : Option Jvm.ClassFile.FieldType) "StaveHouse$Parser")  {F : zF} {B : zB} {H : Heap} {locs : List Loc} {ls : Array Slot} (hf : f_Parser_takeMarks_56 K  F B = some (r, F9, B9)) (hZ : zH D ca ad lnC K.2 L F B A H) (hS : va_S A s.heap H locs) (hl : lv_has ls 4 []) : W p l e ({ frames := 4, cells := 0, slots := 0, locals := 91 } : Room) s m args below meth c H locs 0 0 (MQ below (Q_Parser_takeMarks K D ca ad L r F9 B9 A) args s 0 0 A) (F0 m 56 ls []) := by
  obtain ⟨hx, hb, hr, hml, hown, hts, hlk, hK, hA, hL, hX⟩ := id X
  replace hf : (some (0, F, B)) = some (r, F9, B9) := hf
  cases hf
  exact W.vret hx hb hr (fun t ht hW => ⟨⟨(), rfl, trivial, by rw [ht]; exact hZ, va_K.moved hW.alike hK⟩, hS.F ht⟩) hS.2.2 (D_177 W_prog_5_method_27_code_32 24 rfl rfl) hlk

def f_Parser_takeMarks_2 (K : zK) : Nat → Int → Int → Int → zF → zB → zO
  | 0, _, _, _, _, _ => none
  | n + 1, l2, l0, l1, F, B => zbind (f_CString_length K 0 F B) (fun r1 F1 B1 => if r32 l2 then if r32 r1 then (if r1 ≤ l2 then f_Parser_takeMarks_82 K F1 B1 else if 0 ≤ l0 ∧ l0 < K.2 3 then if 0 ≤ (F1 3 l0 11) ∧ (F1 3 l0 11) < K.2 10 then if r32 (F1 10 (F1 3 l0 11) 0) then (if (F1 10 (F1 3 l0 11) 0) = 5 then zbind (f_CString_indexOf_0 K 0 (zi2c (F1 10 (F1 3 l0 11) 2)) F1 B1) (fun r9 F9 B9 => if r32 r9 then (if r9 < 0 then f_Parser_takeMarks_56 K F9 B9 else if 0 ≤ l1 ∧ l1 < 3000 then if r32 (zand (zshr (B9 3 l0 7 l1) r9) 1) then (if (zand (zshr (B9 3 l0 7 l1) r9) 1) = 0 then if 0 ≤ (F9 3 l0 11) ∧ (F9 3 l0 11) < K.2 10 then zbind (f_Tokens_advance K (F9 3 l0 11) F9 (zup4 B9 3 l0 7 l1 (zor (B9 3 l0 7 l1) (zshl 1 r9)))) (fun r17 F17 B17 => f_Parser_takeMarks_2 K n (l2 + 1) l0 l1 F17 B17) else none else f_Parser_takeMarks_56 K F9 B9) else none else none) else none) else f_Parser_takeMarks_82 K F1 B1) else none else none else none) else none else none)
set_option maxHeartbeats 4000000 in
set_option maxRecDepth 100000 in
theorem b_Parser_takeMarks_2 {D : va_G} {ca : Nat → ClassId} {ad : Nat → Int → Nat → Nat} {L : List Nat} {aS vS : Nat → Nat} {A : Nat → Prop} {p : Program} {l : Launch} {e : Env} {s : State} {m : MethodId} {args : Array Value} {below : List Frame} {meth : Method} {c : Code} {K : zK} {r : Int} {F9 : zF} {B9 : zB} (X : zX D ca L aS vS A p s m args meth c prog_5_method_27_code 4 (Option.none : Option Jvm.ClassFile.FieldType) "StaveHouse$Parser") : ∀ {n : Nat} {l2 : Int} {l0 : Int} {l1 : Int} {F : zF} {B : zB} {H : Heap} {locs : List Loc} {ls : Array Slot}, f_Parser_takeMarks_2 K n l2 l0 l1 F B = some (r, F9, B9) → zH D ca ad lnC K.2 L F B A H → va_S A s.heap H locs → lv_has ls 4 [(2, .int (iI l2)), (0, .ref (ad 3 l0 0)), (1, .int (iI l1))] → W p l e ({ frames := 4, cells := 0, slots := 0, locals := 91 } : Room) s m args below meth c H locs 0 0 (MQ below (Q_Parser_takeMarks K D ca ad L r F9 B9 A) args s 0 0 A) (F0 m 2 ls []) := by
  obtain ⟨hx, hb, hr, hml, hown, hts, hlk, hK, hA, hL, hX⟩ := id X
  intro n
  induction n with
  | zero =>
    intros
    rename_i hf _ _ _
    cases hf
  | succ n ih =>
    intro l2 l0 l1 F B H locs ls hf hZ hS hl
    replace hf : (zbind (f_CString_length K 0 F B) (fun r1 F1 B1 => if r32 l2 then if r32 r1 then (if r1 ≤ l2 then f_Parser_takeMarks_82 K F1 B1 else if 0 ≤ l0 ∧ l0 < K.2 3 then if 0 ≤ (F1 3 l0 11) ∧ (F1 3 l0 11) < K.2 10 then if r32 (F1 10 (F1 3 l0 11) 0) then (if (F1 10 (F1 3 l0 11) 0) = 5 then zbind (f_CString_indexOf_0 K 0 (zi2c (F1 10 (F1 3 l0 11) 2)) F1 B1) (fun r9 F9 B9 => if r32 r9 then (if r9 < 0 then f_Parser_takeMarks_56 K F9 B9 else if 0 ≤ l1 ∧ l1 < 3000 then if r32 (zand (zshr (B9 3 l0 7 l1) r9) 1) then (if (zand (zshr (B9 3 l0 7 l1) r9) 1) = 0 then if 0 ≤ (F9 3 l0 11) ∧ (F9 3 l0 11) < K.2 10 then zbind (f_Tokens_advance K (F9 3 l0 11) F9 (zup4 B9 3 l0 7 l1 (zor (B9 3 l0 7 l1) (zshl 1 r9)))) (fun r17 F17 B17 => f_Parser_takeMarks_2 K n (l2 + 1) l0 l1 F17 B17) else none else f_Parser_takeMarks_56 K F9 B9) else none else none) else none) else f_Parser_takeMarks_82 K F1 B1) else none else none else none) else none else none)) = some (r, F9, B9) := hf
    refine lv_iload_n hx hb (D_28 W_prog_5_method_27_code_0 2 rfl rfl) rfl (lv_at hl 0 rfl) ?_
    refine gldcwS hx hb hown (hX.2.2.2.2.1 0 _ rfl).1 (D_19 W_prog_5_method_27_code_0 3 rfl rfl rfl) ?_
    obtain ⟨r1, F1, B1, hc1, hf⟩ := gbind hf
    refine va_calli (va_runV (As := []) (rest := [.int (iI l2)]) ⟨hx, hb, hml, hown, hts⟩ (c_CString_length (l := l) hc1) (cwV 0 hts (gdV k_4_27 k_3_82 k_3_83 k_1_11 k_3_84) rfl rfl rfl (by decide +kernel) ⟨Nat.le_of_ble_eq_true rfl, Nat.le_of_ble_eq_true rfl⟩) ⟨zBlind, zsrecv hX (by decide) hS, zAt X hZ hS [.ref (aS 0)]⟩ rfl rfl hl.1 rfl (lv_room (Nat.le_of_ble_eq_true rfl)) (D_182 W_prog_5_method_27_code_0 6 rfl rfl rfl) ⟨Nat.le_of_ble_eq_true rfl, Nat.le_of_ble_eq_true rfl⟩) hS (fun q _ h => zAin X hS q h) (zAin X hS) (fun p1 u1 t1 H1 locs1 ht1 hv1 hw1 hB1 hz1 hk1 hS1 => ?_)
    have hZ1 := zBack X ht1 hB1
    subst hw1
    obtain ⟨g2, hf⟩ := gif hf
    obtain ⟨g3, hf⟩ := gif hf
    refine zge (tgt := 82) hx hb g2 g3 (D_162 W_prog_5_method_27_code_0 9 rfl rfl rfl) (by decide) (fun h4 => ?_) (fun h4 => ?_)
    · replace hf := gpos hf h4
      exact b_Parser_takeMarks_82 X hf hZ1 hS1 (lv_sub hl [] rfl)
    · replace hf := gneg hf h4
      refine lv_aload_n hx hb (D_42 W_prog_5_method_27_code_0 12 rfl rfl) rfl (lv_at hl 1 rfl) ?_
      obtain ⟨g5, hf⟩ := gif hf
      refine zget (ci := 3) (C := RX3) (T := TX3) (v := va_rf (zrf ad 10 (F1 3 l0 11))) (k := 11) hx hb hts inW_3 hown hK hZ1 g5.1 g5.2 rfl (by decide) k_1_128 rfl (D_180 W_prog_5_method_27_code_0 13 rfl rfl rfl) ?_
      obtain ⟨g6, hf⟩ := gif hf
      refine zunrf g6.1 ?_
      refine zget (ci := 10) (C := RX10) (T := TX10) (v := .int (iI (F1 10 (F1 3 l0 11) 0))) (k := 0) hx hb hts inW_10 hown hK hZ1 g6.1 g6.2 rfl (by decide) k_1_72 rfl (D_180 W_prog_5_method_27_code_0 16 rfl rfl rfl) ?_
      refine lv_iconst (v := iI 5) hx hb (D_8 W_prog_5_method_27_code_0 19 rfl rfl) rfl ?_
      obtain ⟨g7, hf⟩ := gif hf
      refine zne (tgt := 82) hx hb g7 (by decide) (D_160 W_prog_5_method_27_code_0 20 rfl rfl rfl) (by decide) (fun h8 => ?_) (fun h8 => ?_)
      · replace hf := gneg hf h8
        exact b_Parser_takeMarks_82 X hf hZ1 hS1 (lv_sub hl [] rfl)
      · replace hf := gpos hf h8
        refine gldcwS hx hb hown (hX.2.2.2.2.1 0 _ rfl).1 (D_19 W_prog_5_method_27_code_0 23 rfl rfl rfl) ?_
        refine lv_aload_n hx hb (D_42 W_prog_5_method_27_code_0 26 rfl rfl) rfl (lv_at hl 1 rfl) ?_
        refine zget (ci := 3) (C := RX3) (T := TX3) (v := va_rf (zrf ad 10 (F1 3 l0 11))) (k := 11) hx hb hts inW_3 hown hK hZ1 g5.1 g5.2 rfl (by decide) k_1_128 rfl (D_180 W_prog_5_method_27_code_0 27 rfl rfl rfl) ?_
        refine zunrf g6.1 ?_
        refine zget (ci := 10) (C := RX10) (T := TX10) (v := .long (lI (F1 10 (F1 3 l0 11) 2))) (k := 2) hx hb hts inW_10 hown hK hZ1 g6.1 g6.2 rfl (by decide) k_1_77 rfl (D_180 W_prog_5_method_27_code_0 30 rfl rfl rfl) ?_
        refine zl2iw hx hb (D_136 W_prog_5_method_27_code_32 1 rfl rfl) ?_
        refine zi2c_r hx hb (D_146 W_prog_5_method_27_code_32 2 rfl rfl) ?_
        obtain ⟨r9, F9, B9, hc9, hf⟩ := gbind hf
        refine va_calli (va_runV (As := [.int (iI (zi2c (F1 10 (F1 3 l0 11) 2)))]) (rest := []) ⟨hx, hb, hml, hown, hts⟩ (c_CString_indexOf_0 (l := l) hc9) (cwV 1 hts (gdV k_4_28 k_3_68 k_3_69 k_1_11 k_3_70) rfl rfl rfl (by decide +kernel) ⟨Nat.le_of_ble_eq_true rfl, Nat.le_of_ble_eq_true rfl⟩) ⟨zBlind, zsrecv hX (by decide) hS1, zAt X hZ1 hS1 [.ref (aS 0), .int (iI (zi2c (F1 10 (F1 3 l0 11) 2)))]⟩ rfl rfl hl.1 rfl (lv_room (Nat.le_of_ble_eq_true rfl)) (D_182 W_prog_5_method_27_code_32 3 rfl rfl rfl) ⟨Nat.le_of_ble_eq_true rfl, Nat.le_of_ble_eq_true rfl⟩) hS1 (fun q _ h => zAin X hS1 q h) (zAin X hS1) (fun p9 u9 t9 H9 locs9 ht9 hv9 hw9 hB9 hz9 hk9 hS9 => ?_)
        have hZ9 := zBack X ht9 hB9
        subst hw9
        refine lv_istore_n (lv' := [(3, .int (iI r9)), (2, .int (iI l2)), (0, .ref (ad 3 l0 0)), (1, .int (iI l1))]) hx hb (D_62 W_prog_5_method_27_code_32 6 rfl rfl) rfl hl (by decide) rfl (fun ls hl => ?_)
        refine lv_iload_n hx hb (D_29 W_prog_5_method_27_code_32 7 rfl rfl) rfl (lv_at hl 0 rfl) ?_
        obtain ⟨g10, hf⟩ := gif hf
        refine z0lt (tgt := 56) hx hb g10 (D_155 W_prog_5_method_27_code_32 8 rfl rfl rfl) (by decide) (fun h11 => ?_) (fun h11 => ?_)
        · replace hf := gpos hf h11
          exact b_Parser_takeMarks_56 X hf hZ9 hS9 (lv_sub hl [] rfl)
        · replace hf := gneg hf h11
          refine lv_aload_n hx hb (D_42 W_prog_5_method_27_code_32 11 rfl rfl) rfl (lv_at hl 2 rfl) ?_
          refine zget (ci := 3) (C := RX3) (T := TX3) (v := .ref (ad 3 l0 (7 + 1))) (k := 7) hx hb hts inW_3 hown hK hZ9 g5.1 g5.2 rfl (by decide) k_1_120 rfl (D_180 W_prog_5_method_27_code_32 12 rfl rfl rfl) ?_
          refine lv_iload_n hx hb (D_27 W_prog_5_method_27_code_32 15 rfl rfl) rfl (lv_at hl 3 rfl) ?_
          obtain ⟨g12, hf⟩ := gif hf
          refine zald (ci := 3) (k := 7) hx hb hK rfl hZ9 g5.1 g5.2 rfl (Nat.le_of_ble_eq_true rfl) g12.1 g12.2 (D_46 W_prog_5_method_27_code_32 16 rfl rfl) ?_
          refine lv_iload_n hx hb (D_29 W_prog_5_method_27_code_32 17 rfl rfl) rfl (lv_at hl 0 rfl) ?_
          refine zshr_r hx hb (D_122 W_prog_5_method_27_code_32 18 rfl rfl) ?_
          refine lv_iconst (v := iI 1) hx hb (D_4 W_prog_5_method_27_code_32 19 rfl rfl) rfl ?_
          refine zand_r hx hb (D_126 W_prog_5_method_27_code_32 20 rfl rfl) ?_
          obtain ⟨g13, hf⟩ := gif hf
          refine z0eq (tgt := 57) hx hb g13 (D_153 W_prog_5_method_27_code_32 21 rfl rfl rfl) (by decide) (fun h14 => ?_) (fun h14 => ?_)
          · replace hf := gpos hf h14
            refine lv_aload_n hx hb (D_42 W_prog_5_method_27_code_32 25 rfl rfl) rfl (lv_at hl 2 rfl) ?_
            refine zget (ci := 3) (C := RX3) (T := TX3) (v := .ref (ad 3 l0 (7 + 1))) (k := 7) hx hb hts inW_3 hown hK hZ9 g5.1 g5.2 rfl (by decide) k_1_120 rfl (D_180 W_prog_5_method_27_code_32 26 rfl rfl rfl) ?_
            refine lv_iload_n hx hb (D_27 W_prog_5_method_27_code_32 29 rfl rfl) rfl (lv_at hl 3 rfl) ?_
            refine lv_dup2_11 hx hb (D_92 W_prog_5_method_27_code_32 30 rfl rfl) rfl rfl ?_
            refine zald (ci := 3) (k := 7) hx hb hK rfl hZ9 g5.1 g5.2 rfl (Nat.le_of_ble_eq_true rfl) g12.1 g12.2 (D_46 W_prog_5_method_27_code_32 31 rfl rfl) ?_
            refine lv_iconst (v := iI 1) hx hb (D_4 W_prog_5_method_27_code_64 0 rfl rfl) rfl ?_
            refine lv_iload_n hx hb (D_29 W_prog_5_method_27_code_64 1 rfl rfl) rfl (lv_at hl 0 rfl) ?_
            refine zshl_r hx hb (D_120 W_prog_5_method_27_code_64 2 rfl rfl) ?_
            refine zor_r hx hb (D_128 W_prog_5_method_27_code_64 3 rfl rfl) ?_
            refine zast (ci := 3) (k := 7) hx hb hK rfl hZ9 hS9 g5.1 g5.2 rfl (Nat.le_of_ble_eq_true rfl) g12.1 g12.2 (D_79 W_prog_5_method_27_code_64 4 rfl rfl) (fun H15 locs15 hZ15 hS15 => ?_)
            refine lv_aload_n hx hb (D_42 W_prog_5_method_27_code_64 5 rfl rfl) rfl (lv_at hl 2 rfl) ?_
            refine zget (ci := 3) (C := RX3) (T := TX3) (v := va_rf (zrf ad 10 (F9 3 l0 11))) (k := 11) hx hb hts inW_3 hown hK hZ15 g5.1 g5.2 rfl (by decide) k_1_128 rfl (D_180 W_prog_5_method_27_code_64 6 rfl rfl rfl) ?_
            obtain ⟨g16, hf⟩ := gif hf
            refine W.eq (g2 := F0 m 73 ls [.ref (ad 10 (F9 3 l0 11) 0)]) (by rw [zrf_pos (ad := ad) (t := 10) g16.1]; try rfl) ?_
            obtain ⟨r17, F17, B17, hc17, hf⟩ := gbind hf
            refine va_callv (va_runV (As := []) (rest := []) ⟨hx, hb, hml, hown, hts⟩ (c_Tokens_advance (l := l) hc17) (cwV 0 hts (gdV k_3_180 k_3_152 k_3_153 k_1_5 k_3_154) rfl rfl rfl (by decide +kernel) ⟨Nat.le_of_ble_eq_true rfl, Nat.le_of_ble_eq_true rfl⟩) (zPV X hZ15 hS15 (ci := 10) g16.1 g16.2 (r := (RX10, TX10, 9)) rfl []) rfl rfl hl.1 rfl (lv_room (Nat.le_of_ble_eq_true rfl)) (D_182 W_prog_5_method_27_code_64 9 rfl rfl rfl) ⟨Nat.le_of_ble_eq_true rfl, Nat.le_of_ble_eq_true rfl⟩) hS15 (fun q _ h => zAin X hS15 q h) (zAin X hS15) (fun u17 t17 H17 locs17 ht17 hv17 hw17 hB17 hz17 hk17 hS17 => ?_)
            have hZ17 := zBack X ht17 hB17
            refine lv_iinc (v := iI (l2 + 1)) (lv' := [(2, .int (iI (l2 + 1))), (3, .int (iI r9)), (0, .ref (ad 3 l0 0)), (1, .int (iI l1))]) hx hb d_5_27_76 hl (k := 1) rfl (iI_add _ 1) (by decide) rfl (fun ls hl => ?_)
            refine lv_goto (tgt := 2) hx hb (D_167 W_prog_5_method_27_code_64 15 rfl rfl rfl) (by decide) ?_
            exact ih hf hZ17 hS17 (lv_sub hl [0, 2, 3] rfl)
          · replace hf := gneg hf h14
            exact b_Parser_takeMarks_56 X hf hZ9 hS9 (lv_sub hl [] rfl)

def f_Parser_takeMarks (K : zK) (l0 : Int) (l1 : Int) (F : zF) (B : zB) : zO := f_Parser_takeMarks_2 K K.1 0 l0 l1 F B
set_option maxHeartbeats 4000000 in
set_option maxRecDepth 100000 in
theorem c_Parser_takeMarks {l : Launch} {D : va_G} {ca : Nat → ClassId} {ad : Nat → Int → Nat → Nat} {L : List Nat} {aS vS : Nat → Nat} {sz : Nat} {K : zK}  {l0 : Int} {l1 : Int} {F F9 : zF} {B B9 : zB} {r : Int} (hf : f_Parser_takeMarks K l0 l1 F B = some (r, F9, B9)) : Met l ({ cls := "StaveHouse$Parser", name := "takeMarks", desc := "(I)V" } : Jvm.MethodName) (Cond.code ({ cls := "StaveHouse$Parser", name := "takeMarks", desc := "(I)V" } : Jvm.MethodName) prog_5_method_27_code 4 (Option.none : Option Jvm.ClassFile.FieldType) :: wAll) ({ frames := 4, cells := 0, slots := 0, locals := 91 } : Room) (va_Pc [.ref (ad 3 l0 0), .int (iI l1)] (zPre D ca ad lnC K.2 L aS vS F B sz)) (Q_Parser_takeMarks K D ca ad L r F9 B9 (zA L sz)) 0 0 (zA L sz) := by
  refine zMet (Qc := Q_Parser_takeMarks K D ca ad L r F9 B9) (lv := [(0, .ref (ad 3 l0 0)), (1, .int (iI l1))]) (by decide) (Nat.le_of_ble_eq_true rfl) rfl (fun A p e s m below meth c ls X hZ hS hl => ?_)
  obtain ⟨hx, hb, hr, hml, hown, hts, hlk, hK, hA, hL, hX⟩ := id X
  replace hf : (f_Parser_takeMarks_2 K K.1 0 l0 l1 F B) = some (r, F9, B9) := hf
  refine lv_iconst (v := iI 0) hx hb (D_3 W_prog_5_method_27_code_0 0 rfl rfl) rfl ?_
  refine lv_istore_n (lv' := [(2, .int (iI 0)), (0, .ref (ad 3 l0 0)), (1, .int (iI l1))]) hx hb (D_61 W_prog_5_method_27_code_0 1 rfl rfl) rfl hl (by decide) rfl (fun ls hl => ?_)
  exact b_Parser_takeMarks_2 X hf hZ hS (lv_sub hl [0, 1, 2] rfl)

abbrev Q_Part_cut (K : zK) (D : va_G) (ca : Nat → ClassId) (ad : Nat → Int → Nat → Nat) (L : List Nat) (r : Int) (F : zF) (B : zB) (A : Nat → Prop) : Array Value → State → Outcome → State → Prop := va_Qv (S := Unit) (fun _ => True) (fun _ => zPo D ca ad lnC K.2 L F B A) A
def f_Part_cut_175 (K : zK)  (F : zF) (B : zB) : zO := some (0, F, B)
set_option maxHeartbeats 4000000 in
set_option maxRecDepth 100000 in
theorem b_Part_cut_175 {D : va_G} {ca : Nat → ClassId} {ad : Nat → Int → Nat → Nat} {L : List Nat} {aS vS : Nat → Nat} {A : Nat → Prop} {p : Program} {l : Launch} {e : Env} {s : State} {m : MethodId} {args : Array Value} {below : List Frame} {meth : Method} {c : Code} {K : zK} {r : Int} {F9 : zF} {B9 : zB} (X : zX D ca L aS vS A p s m args meth c prog_6_method_10_code 18 (Option.none : Option Jvm.ClassFile.FieldType) "StaveHouse$Part")  {F : zF} {B : zB} {H : Heap} {locs : List Loc} {ls : Array Slot} (hf : f_Part_cut_175 K  F B = some (r, F9, B9)) (hZ : zH D ca ad lnC K.2 L F B A H) (hS : va_S A s.heap H locs) (hl : lv_has ls 18 []) : W p l e ({ frames := 4, cells := 0, slots := 0, locals := 106 } : Room) s m args below meth c H locs 0 0 (MQ below (Q_Part_cut K D ca ad L r F9 B9 A) args s 0 0 A) (F0 m 175 ls []) := by
  obtain ⟨hx, hb, hr, hml, hown, hts, hlk, hK, hA, hL, hX⟩ := id X
  replace hf : (some (0, F, B)) = some (r, F9, B9) := hf
  cases hf
  exact W.vret hx hb hr (fun t ht hW => ⟨⟨(), rfl, trivial, by rw [ht]; exact hZ, va_K.moved hW.alike hK⟩, hS.F ht⟩) hS.2.2 (D_177 W_prog_6_method_10_code_160 15 rfl rfl) hlk

def f_Part_cut_165 (rec18 : Int → Int → Int → Int → Int → Int → Int → zF → zB → zO) (K : zK) (l15 : Int) (l13 : Int) (l11 : Int) (l7 : Int) (l0 : Int) (l1 : Int) (l2 : Int) (F : zF) (B : zB) : zO := rec18 (l13 + 1) l11 l15 l7 l0 l1 l2 F B
set_option maxHeartbeats 4000000 in
set_option maxRecDepth 100000 in
theorem b_Part_cut_165 {D : va_G} {ca : Nat → ClassId} {ad : Nat → Int → Nat → Nat} {L : List Nat} {aS vS : Nat → Nat} {A : Nat → Prop} {p : Program} {l : Launch} {e : Env} {s : State} {m : MethodId} {args : Array Value} {below : List Frame} {meth : Method} {c : Code} {K : zK} {r : Int} {F9 : zF} {B9 : zB} (X : zX D ca L aS vS A p s m args meth c prog_6_method_10_code 18 (Option.none : Option Jvm.ClassFile.FieldType) "StaveHouse$Part") {rec18 : Int → Int → Int → Int → Int → Int → Int → zF → zB → zO} (hrec18 : ∀ {l13 : Int} {l11 : Int} {l9 : Int} {l7 : Int} {l0 : Int} {l1 : Int} {l2 : Int} {F : zF} {B : zB} {H : Heap} {locs : List Loc} {ls : Array Slot}, rec18 l13 l11 l9 l7 l0 l1 l2 F B = some (r, F9, B9) → zH D ca ad lnC K.2 L F B A H → va_S A s.heap H locs → lv_has ls 18 [(13, .int (iI l13)), (11, .long (lI l11)), (9, .long (lI l9)), (7, .long (lI l7)), (0, .ref (ad 4 l0 0)), (1, .ref (ad 6 l1 0)), (2, .int (iI l2))] → W p l e ({ frames := 4, cells := 0, slots := 0, locals := 106 } : Room) s m args below meth c H locs 0 0 (MQ below (Q_Part_cut K D ca ad L r F9 B9 A) args s 0 0 A) (F0 m 18 ls [])) {l15 : Int} {l13 : Int} {l11 : Int} {l7 : Int} {l0 : Int} {l1 : Int} {l2 : Int} {F : zF} {B : zB} {H : Heap} {locs : List Loc} {ls : Array Slot} (hf : f_Part_cut_165 rec18 K l15 l13 l11 l7 l0 l1 l2 F B = some (r, F9, B9)) (hZ : zH D ca ad lnC K.2 L F B A H) (hS : va_S A s.heap H locs) (hl : lv_has ls 18 [(15, .long (lI l15)), (13, .int (iI l13)), (11, .long (lI l11)), (7, .long (lI l7)), (0, .ref (ad 4 l0 0)), (1, .ref (ad 6 l1 0)), (2, .int (iI l2))]) : W p l e ({ frames := 4, cells := 0, slots := 0, locals := 106 } : Room) s m args below meth c H locs 0 0 (MQ below (Q_Part_cut K D ca ad L r F9 B9 A) args s 0 0 A) (F0 m 165 ls []) := by
  obtain ⟨hx, hb, hr, hml, hown, hts, hlk, hK, hA, hL, hX⟩ := id X
  replace hf : (rec18 (l13 + 1) l11 l15 l7 l0 l1 l2 F B) = some (r, F9, B9) := hf
  refine lv_lload hx hb (D_22 W_prog_6_method_10_code_160 5 rfl rfl) (lv_at hl 0 rfl) ?_
  refine lv_lstore (lv' := [(9, .long (lI l15)), (15, .long (lI l15)), (13, .int (iI l13)), (11, .long (lI l11)), (7, .long (lI l7)), (0, .ref (ad 4 l0 0)), (1, .ref (ad 6 l1 0)), (2, .int (iI l2))]) hx hb (D_55 W_prog_6_method_10_code_160 7 rfl rfl) hl (by decide) rfl (fun ls hl => ?_)
  refine lv_iinc (v := iI (l13 + 1)) (lv' := [(13, .int (iI (l13 + 1))), (9, .long (lI l15)), (15, .long (lI l15)), (11, .long (lI l11)), (7, .long (lI l7)), (0, .ref (ad 4 l0 0)), (1, .ref (ad 6 l1 0)), (2, .int (iI l2))]) hx hb d_6_10_169 hl (k := 2) rfl (iI_add _ 1) (by decide) rfl (fun ls hl => ?_)
  refine lv_goto (tgt := 18) hx hb (D_167 W_prog_6_method_10_code_160 12 rfl rfl rfl) (by decide) ?_
  exact hrec18 hf hZ hS (lv_sub hl [0, 3, 1, 4, 5, 6, 7] rfl)

def f_Part_cut_152 (rec18 : Int → Int → Int → Int → Int → Int → Int → zF → zB → zO) (K : zK) (l15 : Int) (l13 : Int) (l11 : Int) (l9 : Int) (l7 : Int) (l0 : Int) (l1 : Int) (l2 : Int) (F : zF) (B : zB) : zO := if 0 ≤ l0 ∧ l0 < K.2 4 then zbind (f_Part_writeCut K l0 l1 l2 l9 (l15 - l9) F B) (fun r40 F40 B40 => f_Part_cut_165 rec18 K l15 l13 l11 l7 l0 l1 l2 F40 B40) else none
set_option maxHeartbeats 4000000 in
set_option maxRecDepth 100000 in
theorem b_Part_cut_152 {D : va_G} {ca : Nat → ClassId} {ad : Nat → Int → Nat → Nat} {L : List Nat} {aS vS : Nat → Nat} {A : Nat → Prop} {p : Program} {l : Launch} {e : Env} {s : State} {m : MethodId} {args : Array Value} {below : List Frame} {meth : Method} {c : Code} {K : zK} {r : Int} {F9 : zF} {B9 : zB} (X : zX D ca L aS vS A p s m args meth c prog_6_method_10_code 18 (Option.none : Option Jvm.ClassFile.FieldType) "StaveHouse$Part") {rec18 : Int → Int → Int → Int → Int → Int → Int → zF → zB → zO} (hrec18 : ∀ {l13 : Int} {l11 : Int} {l9 : Int} {l7 : Int} {l0 : Int} {l1 : Int} {l2 : Int} {F : zF} {B : zB} {H : Heap} {locs : List Loc} {ls : Array Slot}, rec18 l13 l11 l9 l7 l0 l1 l2 F B = some (r, F9, B9) → zH D ca ad lnC K.2 L F B A H → va_S A s.heap H locs → lv_has ls 18 [(13, .int (iI l13)), (11, .long (lI l11)), (9, .long (lI l9)), (7, .long (lI l7)), (0, .ref (ad 4 l0 0)), (1, .ref (ad 6 l1 0)), (2, .int (iI l2))] → W p l e ({ frames := 4, cells := 0, slots := 0, locals := 106 } : Room) s m args below meth c H locs 0 0 (MQ below (Q_Part_cut K D ca ad L r F9 B9 A) args s 0 0 A) (F0 m 18 ls [])) {l15 : Int} {l13 : Int} {l11 : Int} {l9 : Int} {l7 : Int} {l0 : Int} {l1 : Int} {l2 : Int} {F : zF} {B : zB} {H : Heap} {locs : List Loc} {ls : Array Slot} (hf : f_Part_cut_152 rec18 K l15 l13 l11 l9 l7 l0 l1 l2 F B = some (r, F9, B9)) (hZ : zH D ca ad lnC K.2 L F B A H) (hS : va_S A s.heap H locs) (hl : lv_has ls 18 [(15, .long (lI l15)), (13, .int (iI l13)), (11, .long (lI l11)), (9, .long (lI l9)), (7, .long (lI l7)), (0, .ref (ad 4 l0 0)), (1, .ref (ad 6 l1 0)), (2, .int (iI l2))]) : W p l e ({ frames := 4, cells := 0, slots := 0, locals := 106 } : Room) s m args below meth c H locs 0 0 (MQ below (Q_Part_cut K D ca ad L r F9 B9 A) args s 0 0 A) (F0 m 152 ls []) := by
  obtain ⟨hx, hb, hr, hml, hown, hts, hlk, hK, hA, hL, hX⟩ := id X
  replace hf : (if 0 ≤ l0 ∧ l0 < K.2 4 then zbind (f_Part_writeCut K l0 l1 l2 l9 (l15 - l9) F B) (fun r40 F40 B40 => f_Part_cut_165 rec18 K l15 l13 l11 l7 l0 l1 l2 F40 B40) else none) = some (r, F9, B9) := hf
  refine lv_aload_n hx hb (D_42 W_prog_6_method_10_code_128 24 rfl rfl) rfl (lv_at hl 5 rfl) ?_
  refine lv_aload_n hx hb (D_43 W_prog_6_method_10_code_128 25 rfl rfl) rfl (lv_at hl 6 rfl) ?_
  refine lv_iload_n hx hb (D_28 W_prog_6_method_10_code_128 26 rfl rfl) rfl (lv_at hl 7 rfl) ?_
  refine lv_lload hx hb (D_22 W_prog_6_method_10_code_128 27 rfl rfl) (lv_at hl 3 rfl) ?_
  refine lv_lload hx hb (D_22 W_prog_6_method_10_code_128 29 rfl rfl) (lv_at hl 0 rfl) ?_
  refine lv_lload hx hb (D_22 W_prog_6_method_10_code_128 31 rfl rfl) (lv_at hl 3 rfl) ?_
  refine zlsub hx hb (D_101 W_prog_6_method_10_code_160 1 rfl rfl) ?_
  obtain ⟨g39, hf⟩ := gif hf
  obtain ⟨r40, F40, B40, hc40, hf⟩ := gbind hf
  refine va_callv (va_runV (As := [.ref (ad 6 l1 0), .int (iI l2), .long (lI l9), .long (lI (l15 - l9))]) (rest := []) ⟨hx, hb, hml, hown, hts⟩ (c_Part_writeCut (l := l) hc40) (cwV 4 hts (gdV k_5_82 k_5_84 ks_52 k_1_18 k_5_85) rfl rfl rfl (by decide +kernel) ⟨Nat.le_of_ble_eq_true rfl, Nat.le_of_ble_eq_true rfl⟩) (zPV X hZ hS (ci := 4) g39.1 g39.2 (r := (RX4, TX4, 13)) rfl [.ref (ad 6 l1 0), .int (iI l2), .long (lI l9), .long (lI (l15 - l9))]) rfl rfl hl.1 rfl (lv_room (Nat.le_of_ble_eq_true rfl)) (D_182 W_prog_6_method_10_code_160 2 rfl rfl rfl) ⟨Nat.le_of_ble_eq_true rfl, Nat.le_of_ble_eq_true rfl⟩) hS (fun q _ h => zAin X hS q h) (zAin X hS) (fun u40 t40 H40 locs40 ht40 hv40 hw40 hB40 hz40 hk40 hS40 => ?_)
  have hZ40 := zBack X ht40 hB40
  exact b_Part_cut_165 X hrec18 hf hZ40 hS40 (lv_sub hl [0, 1, 2, 4, 5, 6, 7] rfl)

def f_Part_cut_128 (rec18 : Int → Int → Int → Int → Int → Int → Int → zF → zB → zO) (K : zK) (l15 : Int) (l14 : Int) (l13 : Int) (l11 : Int) (l9 : Int) (l7 : Int) (l0 : Int) (l1 : Int) (l2 : Int) (F : zF) (B : zB) : zO := if r64 (l15 - l9) then if r64 l7 then (if (zcmp (l15 - l9) l7) = 0 then if 0 ≤ l0 ∧ l0 < K.2 4 then zbind (f_Part_addNote K l0 l2 l14 0 29 F B) (fun r38 F38 B38 => f_Part_cut_165 rec18 K l15 l13 l11 l7 l0 l1 l2 F38 B38) else none else f_Part_cut_152 rec18 K l15 l13 l11 l9 l7 l0 l1 l2 F B) else none else none
set_option maxHeartbeats 4000000 in
set_option maxRecDepth 100000 in
theorem b_Part_cut_128 {D : va_G} {ca : Nat → ClassId} {ad : Nat → Int → Nat → Nat} {L : List Nat} {aS vS : Nat → Nat} {A : Nat → Prop} {p : Program} {l : Launch} {e : Env} {s : State} {m : MethodId} {args : Array Value} {below : List Frame} {meth : Method} {c : Code} {K : zK} {r : Int} {F9 : zF} {B9 : zB} (X : zX D ca L aS vS A p s m args meth c prog_6_method_10_code 18 (Option.none : Option Jvm.ClassFile.FieldType) "StaveHouse$Part") {rec18 : Int → Int → Int → Int → Int → Int → Int → zF → zB → zO} (hrec18 : ∀ {l13 : Int} {l11 : Int} {l9 : Int} {l7 : Int} {l0 : Int} {l1 : Int} {l2 : Int} {F : zF} {B : zB} {H : Heap} {locs : List Loc} {ls : Array Slot}, rec18 l13 l11 l9 l7 l0 l1 l2 F B = some (r, F9, B9) → zH D ca ad lnC K.2 L F B A H → va_S A s.heap H locs → lv_has ls 18 [(13, .int (iI l13)), (11, .long (lI l11)), (9, .long (lI l9)), (7, .long (lI l7)), (0, .ref (ad 4 l0 0)), (1, .ref (ad 6 l1 0)), (2, .int (iI l2))] → W p l e ({ frames := 4, cells := 0, slots := 0, locals := 106 } : Room) s m args below meth c H locs 0 0 (MQ below (Q_Part_cut K D ca ad L r F9 B9 A) args s 0 0 A) (F0 m 18 ls [])) {l15 : Int} {l14 : Int} {l13 : Int} {l11 : Int} {l9 : Int} {l7 : Int} {l0 : Int} {l1 : Int} {l2 : Int} {F : zF} {B : zB} {H : Heap} {locs : List Loc} {ls : Array Slot} (hf : f_Part_cut_128 rec18 K l15 l14 l13 l11 l9 l7 l0 l1 l2 F B = some (r, F9, B9)) (hZ : zH D ca ad lnC K.2 L F B A H) (hS : va_S A s.heap H locs) (hl : lv_has ls 18 [(15, .long (lI l15)), (14, .int (iI l14)), (13, .int (iI l13)), (11, .long (lI l11)), (9, .long (lI l9)), (7, .long (lI l7)), (0, .ref (ad 4 l0 0)), (1, .ref (ad 6 l1 0)), (2, .int (iI l2))]) : W p l e ({ frames := 4, cells := 0, slots := 0, locals := 106 } : Room) s m args below meth c H locs 0 0 (MQ below (Q_Part_cut K D ca ad L r F9 B9 A) args s 0 0 A) (F0 m 128 ls []) := by
  obtain ⟨hx, hb, hr, hml, hown, hts, hlk, hK, hA, hL, hX⟩ := id X
  replace hf : (if r64 (l15 - l9) then if r64 l7 then (if (zcmp (l15 - l9) l7) = 0 then if 0 ≤ l0 ∧ l0 < K.2 4 then zbind (f_Part_addNote K l0 l2 l14 0 29 F B) (fun r38 F38 B38 => f_Part_cut_165 rec18 K l15 l13 l11 l7 l0 l1 l2 F38 B38) else none else f_Part_cut_152 rec18 K l15 l13 l11 l9 l7 l0 l1 l2 F B) else none else none) = some (r, F9, B9) := hf
  refine lv_lload hx hb (D_22 W_prog_6_method_10_code_128 0 rfl rfl) (lv_at hl 0 rfl) ?_
  refine lv_lload hx hb (D_22 W_prog_6_method_10_code_128 2 rfl rfl) (lv_at hl 4 rfl) ?_
  refine zlsub hx hb (D_101 W_prog_6_method_10_code_128 4 rfl rfl) ?_
  refine lv_lload hx hb (D_22 W_prog_6_method_10_code_128 5 rfl rfl) (lv_at hl 5 rfl) ?_
  obtain ⟨g34, hf⟩ := gif hf
  obtain ⟨g35, hf⟩ := gif hf
  refine zcmp_r hx hb g34 g35 (D_148 W_prog_6_method_10_code_128 7 rfl rfl) ?_
  refine z0ne (tgt := 152) hx hb zcmp_32 (D_154 W_prog_6_method_10_code_128 8 rfl rfl rfl) (by decide) (fun h36 => ?_) (fun h36 => ?_)
  · replace hf := gneg hf h36
    exact b_Part_cut_152 X hrec18 hf hZ hS (lv_sub hl [0, 2, 3, 4, 5, 6, 7, 8] rfl)
  · replace hf := gpos hf h36
    refine lv_aload_n hx hb (D_42 W_prog_6_method_10_code_128 11 rfl rfl) rfl (lv_at hl 6 rfl) ?_
    refine lv_iload_n hx hb (D_28 W_prog_6_method_10_code_128 12 rfl rfl) rfl (lv_at hl 8 rfl) ?_
    refine lv_iload hx hb (D_21 W_prog_6_method_10_code_128 13 rfl rfl) (lv_at hl 1 rfl) ?_
    refine lv_lconst (v := lI 0) hx hb (D_9 W_prog_6_method_10_code_128 15 rfl rfl) (by decide) ?_
    refine lv_bipush (v := iI 29) hx hb (D_16 W_prog_6_method_10_code_128 16 rfl rfl rfl) (by decide) ?_
    obtain ⟨g37, hf⟩ := gif hf
    obtain ⟨r38, F38, B38, hc38, hf⟩ := gbind hf
    refine va_callv (va_runV (As := [.int (iI l2), .int (iI l14), .long (lI 0), .int (iI 29)]) (rest := []) ⟨hx, hb, hml, hown, hts⟩ (c_Part_addNote (l := l) hc38) (cwV 4 hts (gdV k_5_71 k_5_73 ks_51 k_1_18 k_5_74) rfl rfl rfl (by decide +kernel) ⟨Nat.le_of_ble_eq_true rfl, Nat.le_of_ble_eq_true rfl⟩) (zPV X hZ hS (ci := 4) g37.1 g37.2 (r := (RX4, TX4, 13)) rfl [.int (iI l2), .int (iI l14), .long (lI 0), .int (iI 29)]) rfl rfl hl.1 rfl (lv_room (Nat.le_of_ble_eq_true rfl)) (D_182 W_prog_6_method_10_code_128 18 rfl rfl rfl) ⟨Nat.le_of_ble_eq_true rfl, Nat.le_of_ble_eq_true rfl⟩) hS (fun q _ h => zAin X hS q h) (zAin X hS) (fun u38 t38 H38 locs38 ht38 hv38 hw38 hB38 hz38 hk38 hS38 => ?_)
    have hZ38 := zBack X ht38 hB38
    refine lv_goto (tgt := 165) hx hb (D_167 W_prog_6_method_10_code_128 21 rfl rfl rfl) (by decide) ?_
    exact b_Part_cut_165 X hrec18 hf hZ38 hS38 (lv_sub hl [0, 2, 3, 5, 6, 7, 8] rfl)

def f_Part_cut_85 (rec18 : Int → Int → Int → Int → Int → Int → Int → zF → zB → zO) (K : zK) (l15 : Int) (l14 : Int) (l13 : Int) (l11 : Int) (l9 : Int) (l7 : Int) (l0 : Int) (l1 : Int) (l2 : Int) (s0 : Int) (F : zF) (B : zB) : zO := if r32 s0 then (if s0 = 0 then if r32 l2 then (if l2 = (-1) then f_Part_cut_128 rec18 K l15 l14 l13 l11 l9 l7 l0 l1 l2 F B else if 0 ≤ l0 ∧ l0 < K.2 4 then if 0 ≤ l2 ∧ l2 < 200 then if 0 ≤ (B 4 l0 5 l2) ∧ (B 4 l0 5 l2) < K.2 1 then zbind (f_Event_isRest K (B 4 l0 5 l2) F B) (fun r27 F27 B27 => if r32 r27 then (if r27 = 0 then f_Part_cut_152 rec18 K l15 l13 l11 l9 l7 l0 l1 l2 F27 B27 else f_Part_cut_128 rec18 K l15 l14 l13 l11 l9 l7 l0 l1 l2 F27 B27) else none) else none else none else none) else none else if r32 l14 then if 0 ≤ l0 ∧ l0 < K.2 4 then zbind (f_Part_writeTuplet K l0 l2 l14 (l9 - (l14 * l7)) F B) (fun r33 F33 B33 => f_Part_cut_165 rec18 K l15 l13 l11 l7 l0 l1 l2 F33 B33) else none else none) else none
set_option maxHeartbeats 4000000 in
set_option maxRecDepth 100000 in
theorem b_Part_cut_85 {D : va_G} {ca : Nat → ClassId} {ad : Nat → Int → Nat → Nat} {L : List Nat} {aS vS : Nat → Nat} {A : Nat → Prop} {p : Program} {l : Launch} {e : Env} {s : State} {m : MethodId} {args : Array Value} {below : List Frame} {meth : Method} {c : Code} {K : zK} {r : Int} {F9 : zF} {B9 : zB} (X : zX D ca L aS vS A p s m args meth c prog_6_method_10_code 18 (Option.none : Option Jvm.ClassFile.FieldType) "StaveHouse$Part") {rec18 : Int → Int → Int → Int → Int → Int → Int → zF → zB → zO} (hrec18 : ∀ {l13 : Int} {l11 : Int} {l9 : Int} {l7 : Int} {l0 : Int} {l1 : Int} {l2 : Int} {F : zF} {B : zB} {H : Heap} {locs : List Loc} {ls : Array Slot}, rec18 l13 l11 l9 l7 l0 l1 l2 F B = some (r, F9, B9) → zH D ca ad lnC K.2 L F B A H → va_S A s.heap H locs → lv_has ls 18 [(13, .int (iI l13)), (11, .long (lI l11)), (9, .long (lI l9)), (7, .long (lI l7)), (0, .ref (ad 4 l0 0)), (1, .ref (ad 6 l1 0)), (2, .int (iI l2))] → W p l e ({ frames := 4, cells := 0, slots := 0, locals := 106 } : Room) s m args below meth c H locs 0 0 (MQ below (Q_Part_cut K D ca ad L r F9 B9 A) args s 0 0 A) (F0 m 18 ls [])) {l15 : Int} {l14 : Int} {l13 : Int} {l11 : Int} {l9 : Int} {l7 : Int} {l0 : Int} {l1 : Int} {l2 : Int} {s0 : Int} {F : zF} {B : zB} {H : Heap} {locs : List Loc} {ls : Array Slot} (hf : f_Part_cut_85 rec18 K l15 l14 l13 l11 l9 l7 l0 l1 l2 s0 F B = some (r, F9, B9)) (hZ : zH D ca ad lnC K.2 L F B A H) (hS : va_S A s.heap H locs) (hl : lv_has ls 18 [(15, .long (lI l15)), (14, .int (iI l14)), (13, .int (iI l13)), (11, .long (lI l11)), (9, .long (lI l9)), (7, .long (lI l7)), (0, .ref (ad 4 l0 0)), (1, .ref (ad 6 l1 0)), (2, .int (iI l2))]) : W p l e ({ frames := 4, cells := 0, slots := 0, locals := 106 } : Room) s m args below meth c H locs 0 0 (MQ below (Q_Part_cut K D ca ad L r F9 B9 A) args s 0 0 A) (F0 m 85 ls [.int (iI s0)]) := by
  obtain ⟨hx, hb, hr, hml, hown, hts, hlk, hK, hA, hL, hX⟩ := id X
  replace hf : (if r32 s0 then (if s0 = 0 then if r32 l2 then (if l2 = (-1) then f_Part_cut_128 rec18 K l15 l14 l13 l11 l9 l7 l0 l1 l2 F B else if 0 ≤ l0 ∧ l0 < K.2 4 then if 0 ≤ l2 ∧ l2 < 200 then if 0 ≤ (B 4 l0 5 l2) ∧ (B 4 l0 5 l2) < K.2 1 then zbind (f_Event_isRest K (B 4 l0 5 l2) F B) (fun r27 F27 B27 => if r32 r27 then (if r27 = 0 then f_Part_cut_152 rec18 K l15 l13 l11 l9 l7 l0 l1 l2 F27 B27 else f_Part_cut_128 rec18 K l15 l14 l13 l11 l9 l7 l0 l1 l2 F27 B27) else none) else none else none else none) else none else if r32 l14 then if 0 ≤ l0 ∧ l0 < K.2 4 then zbind (f_Part_writeTuplet K l0 l2 l14 (l9 - (l14 * l7)) F B) (fun r33 F33 B33 => f_Part_cut_165 rec18 K l15 l13 l11 l7 l0 l1 l2 F33 B33) else none else none) else none) = some (r, F9, B9) := hf
  refine lv_istore (lv' := [(17, .int (iI s0)), (15, .long (lI l15)), (14, .int (iI l14)), (13, .int (iI l13)), (11, .long (lI l11)), (9, .long (lI l9)), (7, .long (lI l7)), (0, .ref (ad 4 l0 0)), (1, .ref (ad 6 l1 0)), (2, .int (iI l2))]) hx hb (D_54 W_prog_6_method_10_code_64 21 rfl rfl) hl (by decide) rfl (fun ls hl => ?_)
  refine lv_iload hx hb (D_21 W_prog_6_method_10_code_64 23 rfl rfl) (lv_at hl 0 rfl) ?_
  obtain ⟨g20, hf⟩ := gif hf
  refine z0eq (tgt := 111) hx hb g20 (D_153 W_prog_6_method_10_code_64 25 rfl rfl rfl) (by decide) (fun h21 => ?_) (fun h21 => ?_)
  · replace hf := gpos hf h21
    refine lv_iload_n hx hb (D_28 W_prog_6_method_10_code_96 15 rfl rfl) rfl (lv_at hl 9 rfl) ?_
    refine lv_iconst (v := iI (-1)) hx hb (D_2 W_prog_6_method_10_code_96 16 rfl rfl) rfl ?_
    obtain ⟨g22, hf⟩ := gif hf
    refine zeq (tgt := 128) hx hb g22 (by decide) (D_159 W_prog_6_method_10_code_96 17 rfl rfl rfl) (by decide) (fun h23 => ?_) (fun h23 => ?_)
    · replace hf := gpos hf h23
      exact b_Part_cut_128 X hrec18 hf hZ hS (lv_sub hl [1, 2, 3, 4, 5, 6, 7, 8, 9] rfl)
    · replace hf := gneg hf h23
      refine lv_aload_n hx hb (D_42 W_prog_6_method_10_code_96 20 rfl rfl) rfl (lv_at hl 7 rfl) ?_
      obtain ⟨g24, hf⟩ := gif hf
      refine zget (ci := 4) (C := RX4) (T := TX4) (v := .ref (ad 4 l0 (5 + 1))) (k := 5) hx hb hts inW_4 hown hK hZ g24.1 g24.2 rfl (by decide) k_4_130 rfl (D_180 W_prog_6_method_10_code_96 21 rfl rfl rfl) ?_
      refine lv_iload_n hx hb (D_28 W_prog_6_method_10_code_96 24 rfl rfl) rfl (lv_at hl 9 rfl) ?_
      obtain ⟨g25, hf⟩ := gif hf
      refine zaldR (t := 1) (x := 7) (ci := 4) (k := 5) hx hb hK rfl rfl hZ g24.1 g24.2 rfl (Nat.le_of_ble_eq_true rfl) g25.1 g25.2 (D_50 W_prog_6_method_10_code_96 25 rfl rfl) ?_
      obtain ⟨g26, hf⟩ := gif hf
      refine W.eq (g2 := F0 m 122 ls [.ref (ad 1 (B 4 l0 5 l2) 0)]) (by rw [zrf_pos (ad := ad) (t := 1) g26.1]; try rfl) ?_
      obtain ⟨r27, F27, B27, hc27, hf⟩ := gbind hf
      refine va_calli (va_runV (As := []) (rest := []) ⟨hx, hb, hml, hown, hts⟩ (c_Event_isRest (l := l) hc27) (cwV 0 hts (gdV k_5_78 k_5_79 k_5_80 k_1_8 k_5_81) rfl rfl rfl (by decide +kernel) ⟨Nat.le_of_ble_eq_true rfl, Nat.le_of_ble_eq_true rfl⟩) (zPV X hZ hS (ci := 1) g26.1 g26.2 (r := (RX1, TX1, 14)) rfl []) rfl rfl hl.1 rfl (lv_room (Nat.le_of_ble_eq_true rfl)) (D_182 W_prog_6_method_10_code_96 26 rfl rfl rfl) ⟨Nat.le_of_ble_eq_true rfl, Nat.le_of_ble_eq_true rfl⟩) hS (fun q _ h => zAin X hS q h) (zAin X hS) (fun p27 u27 t27 H27 locs27 ht27 hv27 hw27 hB27 hz27 hk27 hS27 => ?_)
      have hZ27 := zBack X ht27 hB27
      subst hw27
      obtain ⟨g28, hf⟩ := gif hf
      refine z0eq (tgt := 152) hx hb g28 (D_153 W_prog_6_method_10_code_96 29 rfl rfl rfl) (by decide) (fun h29 => ?_) (fun h29 => ?_)
      · replace hf := gpos hf h29
        exact b_Part_cut_152 X hrec18 hf hZ27 hS27 (lv_sub hl [1, 3, 4, 5, 6, 7, 8, 9] rfl)
      · replace hf := gneg hf h29
        exact b_Part_cut_128 X hrec18 hf hZ27 hS27 (lv_sub hl [1, 2, 3, 4, 5, 6, 7, 8, 9] rfl)
  · replace hf := gneg hf h21
    refine lv_aload_n hx hb (D_42 W_prog_6_method_10_code_64 28 rfl rfl) rfl (lv_at hl 7 rfl) ?_
    refine lv_iload_n hx hb (D_28 W_prog_6_method_10_code_64 29 rfl rfl) rfl (lv_at hl 9 rfl) ?_
    refine lv_iload hx hb (D_21 W_prog_6_method_10_code_64 30 rfl rfl) (lv_at hl 2 rfl) ?_
    refine lv_lload hx hb (D_22 W_prog_6_method_10_code_96 0 rfl rfl) (lv_at hl 5 rfl) ?_
    refine lv_iload hx hb (D_21 W_prog_6_method_10_code_96 2 rfl rfl) (lv_at hl 2 rfl) ?_
    obtain ⟨g30, hf⟩ := gif hf
    refine zi2l hx hb g30 (D_133 W_prog_6_method_10_code_96 4 rfl rfl) ?_
    refine lv_lload hx hb (D_22 W_prog_6_method_10_code_96 5 rfl rfl) (lv_at hl 6 rfl) ?_
    refine zlmul hx hb (D_105 W_prog_6_method_10_code_96 7 rfl rfl) ?_
    refine zlsub hx hb (D_101 W_prog_6_method_10_code_96 8 rfl rfl) ?_
    obtain ⟨g31, hf⟩ := gif hf
    obtain ⟨r33, F33, B33, hc33, hf⟩ := gbind hf
    refine va_callv (va_runV (As := [.int (iI l2), .int (iI l14), .long (lI (l9 - (l14 * l7)))]) (rest := []) ⟨hx, hb, hml, hown, hts⟩ (c_Part_writeTuplet (l := l) hc33) (cwV 3 hts (gdV k_5_60 k_5_62 ks_50 k_1_18 k_5_63) rfl rfl rfl (by decide +kernel) ⟨Nat.le_of_ble_eq_true rfl, Nat.le_of_ble_eq_true rfl⟩) (zPV X hZ hS (ci := 4) g31.1 g31.2 (r := (RX4, TX4, 13)) rfl [.int (iI l2), .int (iI l14), .long (lI (l9 - (l14 * l7)))]) rfl rfl hl.1 rfl (lv_room (Nat.le_of_ble_eq_true rfl)) (D_182 W_prog_6_method_10_code_96 9 rfl rfl rfl) ⟨Nat.le_of_ble_eq_true rfl, Nat.le_of_ble_eq_true rfl⟩) hS (fun q _ h => zAin X hS q h) (zAin X hS) (fun u33 t33 H33 locs33 ht33 hv33 hw33 hB33 hz33 hk33 hS33 => ?_)
    have hZ33 := zBack X ht33 hB33
    refine lv_goto (tgt := 165) hx hb (D_167 W_prog_6_method_10_code_96 12 rfl rfl rfl) (by decide) ?_
    exact b_Part_cut_165 X hrec18 hf hZ33 hS33 (lv_sub hl [1, 3, 4, 6, 7, 8, 9] rfl)

def f_Part_cut_84 (rec18 : Int → Int → Int → Int → Int → Int → Int → zF → zB → zO) (K : zK) (l15 : Int) (l14 : Int) (l13 : Int) (l11 : Int) (l9 : Int) (l7 : Int) (l0 : Int) (l1 : Int) (l2 : Int) (F : zF) (B : zB) : zO := f_Part_cut_85 rec18 K l15 l14 l13 l11 l9 l7 l0 l1 l2 0 F B
set_option maxHeartbeats 4000000 in
set_option maxRecDepth 100000 in
theorem b_Part_cut_84 {D : va_G} {ca : Nat → ClassId} {ad : Nat → Int → Nat → Nat} {L : List Nat} {aS vS : Nat → Nat} {A : Nat → Prop} {p : Program} {l : Launch} {e : Env} {s : State} {m : MethodId} {args : Array Value} {below : List Frame} {meth : Method} {c : Code} {K : zK} {r : Int} {F9 : zF} {B9 : zB} (X : zX D ca L aS vS A p s m args meth c prog_6_method_10_code 18 (Option.none : Option Jvm.ClassFile.FieldType) "StaveHouse$Part") {rec18 : Int → Int → Int → Int → Int → Int → Int → zF → zB → zO} (hrec18 : ∀ {l13 : Int} {l11 : Int} {l9 : Int} {l7 : Int} {l0 : Int} {l1 : Int} {l2 : Int} {F : zF} {B : zB} {H : Heap} {locs : List Loc} {ls : Array Slot}, rec18 l13 l11 l9 l7 l0 l1 l2 F B = some (r, F9, B9) → zH D ca ad lnC K.2 L F B A H → va_S A s.heap H locs → lv_has ls 18 [(13, .int (iI l13)), (11, .long (lI l11)), (9, .long (lI l9)), (7, .long (lI l7)), (0, .ref (ad 4 l0 0)), (1, .ref (ad 6 l1 0)), (2, .int (iI l2))] → W p l e ({ frames := 4, cells := 0, slots := 0, locals := 106 } : Room) s m args below meth c H locs 0 0 (MQ below (Q_Part_cut K D ca ad L r F9 B9 A) args s 0 0 A) (F0 m 18 ls [])) {l15 : Int} {l14 : Int} {l13 : Int} {l11 : Int} {l9 : Int} {l7 : Int} {l0 : Int} {l1 : Int} {l2 : Int} {F : zF} {B : zB} {H : Heap} {locs : List Loc} {ls : Array Slot} (hf : f_Part_cut_84 rec18 K l15 l14 l13 l11 l9 l7 l0 l1 l2 F B = some (r, F9, B9)) (hZ : zH D ca ad lnC K.2 L F B A H) (hS : va_S A s.heap H locs) (hl : lv_has ls 18 [(15, .long (lI l15)), (14, .int (iI l14)), (13, .int (iI l13)), (11, .long (lI l11)), (9, .long (lI l9)), (7, .long (lI l7)), (0, .ref (ad 4 l0 0)), (1, .ref (ad 6 l1 0)), (2, .int (iI l2))]) : W p l e ({ frames := 4, cells := 0, slots := 0, locals := 106 } : Room) s m args below meth c H locs 0 0 (MQ below (Q_Part_cut K D ca ad L r F9 B9 A) args s 0 0 A) (F0 m 84 ls []) := by
  obtain ⟨hx, hb, hr, hml, hown, hts, hlk, hK, hA, hL, hX⟩ := id X
  replace hf : (f_Part_cut_85 rec18 K l15 l14 l13 l11 l9 l7 l0 l1 l2 0 F B) = some (r, F9, B9) := hf
  refine lv_iconst (v := iI 0) hx hb (D_3 W_prog_6_method_10_code_64 20 rfl rfl) rfl ?_
  exact b_Part_cut_85 X hrec18 hf hZ hS (lv_sub hl [0, 1, 2, 3, 4, 5, 6, 7, 8] rfl)

def f_Part_cut_18 (K : zK) : Nat → Int → Int → Int → Int → Int → Int → Int → zF → zB → zO
  | 0, _, _, _, _, _, _, _, _, _ => none
  | n + 1, l13, l11, l9, l7, l0, l1, l2, F, B => if r32 l13 then (if 100 < l13 then f_Part_cut_175 K F B else if r64 l9 then if r64 l11 then (if 0 ≤ (zcmp l9 l11) then f_Part_cut_175 K F B else if r64 l7 then (if (zcmp l7 0) ≤ 0 then f_Part_cut_175 K F B else if ¬ lI l7 = 0 then if r32 ((zldv l9 l7) + 1) then if r64 (((zldv l9 l7) + 1) * l7) then if r32 l2 then (if l2 = (-1) then f_Part_cut_84 (f_Part_cut_18 K n) K (zmin l11 (((zldv l9 l7) + 1) * l7)) (zldv l9 l7) l13 l11 l9 l7 l0 l1 l2 F B else if 0 ≤ l0 ∧ l0 < K.2 4 then if 0 ≤ l2 ∧ l2 < 200 then if 0 ≤ (B 4 l0 5 l2) ∧ (B 4 l0 5 l2) < K.2 1 then if r32 (F 1 (B 4 l0 5 l2) 5) then (if (F 1 (B 4 l0 5 l2) 5) = 0 then f_Part_cut_84 (f_Part_cut_18 K n) K (zmin l11 (((zldv l9 l7) + 1) * l7)) (zldv l9 l7) l13 l11 l9 l7 l0 l1 l2 F B else f_Part_cut_85 (f_Part_cut_18 K n) K (zmin l11 (((zldv l9 l7) + 1) * l7)) (zldv l9 l7) l13 l11 l9 l7 l0 l1 l2 1 F B) else none else none else none else none) else none else none else none else none) else none) else none else none) else none
set_option maxHeartbeats 4000000 in
set_option maxRecDepth 100000 in
theorem b_Part_cut_18 {D : va_G} {ca : Nat → ClassId} {ad : Nat → Int → Nat → Nat} {L : List Nat} {aS vS : Nat → Nat} {A : Nat → Prop} {p : Program} {l : Launch} {e : Env} {s : State} {m : MethodId} {args : Array Value} {below : List Frame} {meth : Method} {c : Code} {K : zK} {r : Int} {F9 : zF} {B9 : zB} (X : zX D ca L aS vS A p s m args meth c prog_6_method_10_code 18 (Option.none : Option Jvm.ClassFile.FieldType) "StaveHouse$Part") : ∀ {n : Nat} {l13 : Int} {l11 : Int} {l9 : Int} {l7 : Int} {l0 : Int} {l1 : Int} {l2 : Int} {F : zF} {B : zB} {H : Heap} {locs : List Loc} {ls : Array Slot}, f_Part_cut_18 K n l13 l11 l9 l7 l0 l1 l2 F B = some (r, F9, B9) → zH D ca ad lnC K.2 L F B A H → va_S A s.heap H locs → lv_has ls 18 [(13, .int (iI l13)), (11, .long (lI l11)), (9, .long (lI l9)), (7, .long (lI l7)), (0, .ref (ad 4 l0 0)), (1, .ref (ad 6 l1 0)), (2, .int (iI l2))] → W p l e ({ frames := 4, cells := 0, slots := 0, locals := 106 } : Room) s m args below meth c H locs 0 0 (MQ below (Q_Part_cut K D ca ad L r F9 B9 A) args s 0 0 A) (F0 m 18 ls []) := by
  obtain ⟨hx, hb, hr, hml, hown, hts, hlk, hK, hA, hL, hX⟩ := id X
  intro n
  induction n with
  | zero =>
    intros
    rename_i hf _ _ _
    cases hf
  | succ n ih =>
    intro l13 l11 l9 l7 l0 l1 l2 F B H locs ls hf hZ hS hl
    replace hf : (if r32 l13 then (if 100 < l13 then f_Part_cut_175 K F B else if r64 l9 then if r64 l11 then (if 0 ≤ (zcmp l9 l11) then f_Part_cut_175 K F B else if r64 l7 then (if (zcmp l7 0) ≤ 0 then f_Part_cut_175 K F B else if ¬ lI l7 = 0 then if r32 ((zldv l9 l7) + 1) then if r64 (((zldv l9 l7) + 1) * l7) then if r32 l2 then (if l2 = (-1) then f_Part_cut_84 (f_Part_cut_18 K n) K (zmin l11 (((zldv l9 l7) + 1) * l7)) (zldv l9 l7) l13 l11 l9 l7 l0 l1 l2 F B else if 0 ≤ l0 ∧ l0 < K.2 4 then if 0 ≤ l2 ∧ l2 < 200 then if 0 ≤ (B 4 l0 5 l2) ∧ (B 4 l0 5 l2) < K.2 1 then if r32 (F 1 (B 4 l0 5 l2) 5) then (if (F 1 (B 4 l0 5 l2) 5) = 0 then f_Part_cut_84 (f_Part_cut_18 K n) K (zmin l11 (((zldv l9 l7) + 1) * l7)) (zldv l9 l7) l13 l11 l9 l7 l0 l1 l2 F B else f_Part_cut_85 (f_Part_cut_18 K n) K (zmin l11 (((zldv l9 l7) + 1) * l7)) (zldv l9 l7) l13 l11 l9 l7 l0 l1 l2 1 F B) else none else none else none else none) else none else none else none else none) else none) else none else none) else none) = some (r, F9, B9) := hf
    refine lv_iload hx hb (D_21 W_prog_6_method_10_code_0 18 rfl rfl) (lv_at hl 0 rfl) ?_
    refine lv_bipush (v := iI 100) hx hb (D_16 W_prog_6_method_10_code_0 20 rfl rfl rfl) (by decide) ?_
    obtain ⟨g3, hf⟩ := gif hf
    refine zgt (tgt := 175) hx hb g3 (by decide) (D_163 W_prog_6_method_10_code_0 22 rfl rfl rfl) (by decide) (fun h4 => ?_) (fun h4 => ?_)
    · replace hf := gpos hf h4
      exact b_Part_cut_175 X hf hZ hS (lv_sub hl [] rfl)
    · replace hf := gneg hf h4
      refine lv_lload hx hb (D_22 W_prog_6_method_10_code_0 25 rfl rfl) (lv_at hl 2 rfl) ?_
      refine lv_lload hx hb (D_22 W_prog_6_method_10_code_0 27 rfl rfl) (lv_at hl 1 rfl) ?_
      obtain ⟨g5, hf⟩ := gif hf
      obtain ⟨g6, hf⟩ := gif hf
      refine zcmp_r hx hb g5 g6 (D_148 W_prog_6_method_10_code_0 29 rfl rfl) ?_
      refine z0ge (tgt := 175) hx hb zcmp_32 (D_156 W_prog_6_method_10_code_0 30 rfl rfl rfl) (by decide) (fun h7 => ?_) (fun h7 => ?_)
      · replace hf := gpos hf h7
        exact b_Part_cut_175 X hf hZ hS (lv_sub hl [] rfl)
      · replace hf := gneg hf h7
        refine lv_lload hx hb (D_22 W_prog_6_method_10_code_32 1 rfl rfl) (lv_at hl 3 rfl) ?_
        refine lv_lconst (v := lI 0) hx hb (D_9 W_prog_6_method_10_code_32 3 rfl rfl) (by decide) ?_
        obtain ⟨g8, hf⟩ := gif hf
        refine zcmp_r hx hb g8 (by decide) (D_148 W_prog_6_method_10_code_32 4 rfl rfl) ?_
        refine z0le (tgt := 175) hx hb zcmp_32 (D_158 W_prog_6_method_10_code_32 5 rfl rfl rfl) (by decide) (fun h9 => ?_) (fun h9 => ?_)
        · replace hf := gpos hf h9
          exact b_Part_cut_175 X hf hZ hS (lv_sub hl [] rfl)
        · replace hf := gneg hf h9
          refine lv_lload hx hb (D_22 W_prog_6_method_10_code_32 8 rfl rfl) (lv_at hl 2 rfl) ?_
          refine lv_lload hx hb (D_22 W_prog_6_method_10_code_32 10 rfl rfl) (lv_at hl 3 rfl) ?_
          obtain ⟨g10, hf⟩ := gif hf
          refine zldv_r hx hb g10 (D_109 W_prog_6_method_10_code_32 12 rfl rfl) ?_
          refine zl2iw hx hb (D_136 W_prog_6_method_10_code_32 13 rfl rfl) ?_
          refine lv_istore (lv' := [(14, .int (iI (zldv l9 l7))), (13, .int (iI l13)), (11, .long (lI l11)), (9, .long (lI l9)), (7, .long (lI l7)), (0, .ref (ad 4 l0 0)), (1, .ref (ad 6 l1 0)), (2, .int (iI l2))]) hx hb (D_54 W_prog_6_method_10_code_32 14 rfl rfl) hl (by decide) rfl (fun ls hl => ?_)
          refine lv_lload hx hb (D_22 W_prog_6_method_10_code_32 16 rfl rfl) (lv_at hl 2 rfl) ?_
          refine lv_iload hx hb (D_21 W_prog_6_method_10_code_32 18 rfl rfl) (lv_at hl 0 rfl) ?_
          refine lv_iconst (v := iI 1) hx hb (D_4 W_prog_6_method_10_code_32 20 rfl rfl) rfl ?_
          refine zadd hx hb (D_96 W_prog_6_method_10_code_32 21 rfl rfl) ?_
          obtain ⟨g11, hf⟩ := gif hf
          refine zi2l hx hb g11 (D_133 W_prog_6_method_10_code_32 22 rfl rfl) ?_
          refine lv_lload hx hb (D_22 W_prog_6_method_10_code_32 23 rfl rfl) (lv_at hl 4 rfl) ?_
          refine zlmul hx hb (D_105 W_prog_6_method_10_code_32 25 rfl rfl) ?_
          obtain ⟨g12, hf⟩ := gif hf
          refine va_mmin_long hx hb (by rw [hml]; exact hl.1.symm) hown (hts _ k_5_57) (hts _ k_5_58) (hts _ k_1_3) (hts _ k_5_59) (Nat.le_of_ble_eq_true rfl) (Nat.le_of_ble_eq_true rfl) (Nat.le_of_ble_eq_true rfl) (Nat.le_of_ble_eq_true rfl) (D_184 W_prog_6_method_10_code_32 26 rfl rfl rfl) ?_
          rw [zlmin_e g6 g12]
          refine lv_lstore (lv' := [(15, .long (lI (zmin l11 (((zldv l9 l7) + 1) * l7)))), (14, .int (iI (zldv l9 l7))), (13, .int (iI l13)), (11, .long (lI l11)), (9, .long (lI l9)), (7, .long (lI l7)), (0, .ref (ad 4 l0 0)), (1, .ref (ad 6 l1 0)), (2, .int (iI l2))]) hx hb (D_55 W_prog_6_method_10_code_32 29 rfl rfl) hl (by decide) rfl (fun ls hl => ?_)
          refine lv_iload_n hx hb (D_28 W_prog_6_method_10_code_32 31 rfl rfl) rfl (lv_at hl 8 rfl) ?_
          refine lv_iconst (v := iI (-1)) hx hb (D_2 W_prog_6_method_10_code_64 0 rfl rfl) rfl ?_
          obtain ⟨g13, hf⟩ := gif hf
          refine zeq (tgt := 84) hx hb g13 (by decide) (D_159 W_prog_6_method_10_code_64 1 rfl rfl rfl) (by decide) (fun h14 => ?_) (fun h14 => ?_)
          · replace hf := gpos hf h14
            exact b_Part_cut_84 X ih hf hZ hS (lv_sub hl [0, 1, 2, 3, 4, 5, 6, 7, 8] rfl)
          · replace hf := gneg hf h14
            refine lv_aload_n hx hb (D_42 W_prog_6_method_10_code_64 4 rfl rfl) rfl (lv_at hl 6 rfl) ?_
            obtain ⟨g15, hf⟩ := gif hf
            refine zget (ci := 4) (C := RX4) (T := TX4) (v := .ref (ad 4 l0 (5 + 1))) (k := 5) hx hb hts inW_4 hown hK hZ g15.1 g15.2 rfl (by decide) k_4_130 rfl (D_180 W_prog_6_method_10_code_64 5 rfl rfl rfl) ?_
            refine lv_iload_n hx hb (D_28 W_prog_6_method_10_code_64 8 rfl rfl) rfl (lv_at hl 8 rfl) ?_
            obtain ⟨g16, hf⟩ := gif hf
            refine zaldR (t := 1) (x := 7) (ci := 4) (k := 5) hx hb hK rfl rfl hZ g15.1 g15.2 rfl (Nat.le_of_ble_eq_true rfl) g16.1 g16.2 (D_50 W_prog_6_method_10_code_64 9 rfl rfl) ?_
            obtain ⟨g17, hf⟩ := gif hf
            refine zunrf g17.1 ?_
            refine zget (ci := 1) (C := RX1) (T := TX1) (v := .int (iI (F 1 (B 4 l0 5 l2) 5))) (k := 5) hx hb hts inW_1 hown hK hZ g17.1 g17.2 rfl (by decide) k_2_34 rfl (D_180 W_prog_6_method_10_code_64 10 rfl rfl rfl) ?_
            obtain ⟨g18, hf⟩ := gif hf
            refine z0eq (tgt := 84) hx hb g18 (D_153 W_prog_6_method_10_code_64 13 rfl rfl rfl) (by decide) (fun h19 => ?_) (fun h19 => ?_)
            · replace hf := gpos hf h19
              exact b_Part_cut_84 X ih hf hZ hS (lv_sub hl [0, 1, 2, 3, 4, 5, 6, 7, 8] rfl)
            · replace hf := gneg hf h19
              refine lv_iconst (v := iI 1) hx hb (D_4 W_prog_6_method_10_code_64 16 rfl rfl) rfl ?_
              refine lv_goto (tgt := 85) hx hb (D_167 W_prog_6_method_10_code_64 17 rfl rfl rfl) (by decide) ?_
              exact b_Part_cut_85 X ih hf hZ hS (lv_sub hl [0, 1, 2, 3, 4, 5, 6, 7, 8] rfl)

def f_Part_cut (K : zK) (l0 : Int) (l1 : Int) (l2 : Int) (l3 : Int) (l5 : Int) (F : zF) (B : zB) : zO := if 0 ≤ l1 ∧ l1 < K.2 6 then zbind (f_Piece_barLength K l1 F B) (fun r2 F2 B2 => f_Part_cut_18 K K.1 0 (l3 + l5) l3 r2 l0 l1 l2 F2 B2) else none
set_option maxHeartbeats 4000000 in
set_option maxRecDepth 100000 in
theorem c_Part_cut {l : Launch} {D : va_G} {ca : Nat → ClassId} {ad : Nat → Int → Nat → Nat} {L : List Nat} {aS vS : Nat → Nat} {sz : Nat} {K : zK}  {l0 : Int} {l1 : Int} {l2 : Int} {l3 : Int} {l5 : Int} {F F9 : zF} {B B9 : zB} {r : Int} (hf : f_Part_cut K l0 l1 l2 l3 l5 F B = some (r, F9, B9)) : Met l ({ cls := "StaveHouse$Part", name := "cut", desc := "(LStaveHouse$Piece;IJJ)V" } : Jvm.MethodName) (Cond.code ({ cls := "StaveHouse$Part", name := "cut", desc := "(LStaveHouse$Piece;IJJ)V" } : Jvm.MethodName) prog_6_method_10_code 18 (Option.none : Option Jvm.ClassFile.FieldType) :: wAll) ({ frames := 4, cells := 0, slots := 0, locals := 106 } : Room) (va_Pc [.ref (ad 4 l0 0), .ref (ad 6 l1 0), .int (iI l2), .long (lI l3), .long (lI l5)] (zPre D ca ad lnC K.2 L aS vS F B sz)) (Q_Part_cut K D ca ad L r F9 B9 (zA L sz)) 0 0 (zA L sz) := by
  refine zMet (Qc := Q_Part_cut K D ca ad L r F9 B9) (lv := [(0, .ref (ad 4 l0 0)), (1, .ref (ad 6 l1 0)), (2, .int (iI l2)), (3, .long (lI l3)), (5, .long (lI l5))]) (by decide) (Nat.le_of_ble_eq_true rfl) rfl (fun A p e s m below meth c ls X hZ hS hl => ?_)
  obtain ⟨hx, hb, hr, hml, hown, hts, hlk, hK, hA, hL, hX⟩ := id X
  replace hf : (if 0 ≤ l1 ∧ l1 < K.2 6 then zbind (f_Piece_barLength K l1 F B) (fun r2 F2 B2 => f_Part_cut_18 K K.1 0 (l3 + l5) l3 r2 l0 l1 l2 F2 B2) else none) = some (r, F9, B9) := hf
  refine lv_aload_n hx hb (D_43 W_prog_6_method_10_code_0 0 rfl rfl) rfl (lv_at hl 1 rfl) ?_
  obtain ⟨g1, hf⟩ := gif hf
  obtain ⟨r2, F2, B2, hc2, hf⟩ := gbind hf
  refine va_calll (va_runV (As := []) (rest := []) ⟨hx, hb, hml, hown, hts⟩ (c_Piece_barLength (l := l) hc2) (cwV 0 hts (gdV k_5_31 k_4_190 k_4_191 k_1_15 k_4_192) rfl rfl rfl (by decide +kernel) ⟨Nat.le_of_ble_eq_true rfl, Nat.le_of_ble_eq_true rfl⟩) (zPV X hZ hS (ci := 6) g1.1 g1.2 (r := (RX6, TX6, 14)) rfl []) rfl rfl hl.1 rfl (lv_room (Nat.le_of_ble_eq_true rfl)) (D_182 W_prog_6_method_10_code_0 1 rfl rfl rfl) ⟨Nat.le_of_ble_eq_true rfl, Nat.le_of_ble_eq_true rfl⟩) hS (fun q _ h => zAin X hS q h) (zAin X hS) (fun p2 u2 t2 H2 locs2 ht2 hv2 hw2 hB2 hz2 hk2 hS2 => ?_)
  have hZ2 := zBack X ht2 hB2
  subst hw2
  refine lv_lstore (lv' := [(7, .long (lI r2)), (0, .ref (ad 4 l0 0)), (1, .ref (ad 6 l1 0)), (2, .int (iI l2)), (3, .long (lI l3)), (5, .long (lI l5))]) hx hb (D_55 W_prog_6_method_10_code_0 4 rfl rfl) hl (by decide) rfl (fun ls hl => ?_)
  refine lv_lload_n hx hb (D_33 W_prog_6_method_10_code_0 6 rfl rfl) rfl (lv_at hl 4 rfl) ?_
  refine lv_lstore (lv' := [(9, .long (lI l3)), (7, .long (lI r2)), (0, .ref (ad 4 l0 0)), (1, .ref (ad 6 l1 0)), (2, .int (iI l2)), (3, .long (lI l3)), (5, .long (lI l5))]) hx hb (D_55 W_prog_6_method_10_code_0 7 rfl rfl) hl (by decide) rfl (fun ls hl => ?_)
  refine lv_lload_n hx hb (D_33 W_prog_6_method_10_code_0 9 rfl rfl) rfl (lv_at hl 5 rfl) ?_
  refine lv_lload hx hb (D_22 W_prog_6_method_10_code_0 10 rfl rfl) (lv_at hl 6 rfl) ?_
  refine zladd hx hb (D_97 W_prog_6_method_10_code_0 12 rfl rfl) ?_
  refine lv_lstore (lv' := [(11, .long (lI (l3 + l5))), (9, .long (lI l3)), (7, .long (lI r2)), (0, .ref (ad 4 l0 0)), (1, .ref (ad 6 l1 0)), (2, .int (iI l2)), (3, .long (lI l3)), (5, .long (lI l5))]) hx hb (D_55 W_prog_6_method_10_code_0 13 rfl rfl) hl (by decide) rfl (fun ls hl => ?_)
  refine lv_iconst (v := iI 0) hx hb (D_3 W_prog_6_method_10_code_0 15 rfl rfl) rfl ?_
  refine lv_istore (lv' := [(13, .int (iI 0)), (11, .long (lI (l3 + l5))), (9, .long (lI l3)), (7, .long (lI r2)), (0, .ref (ad 4 l0 0)), (1, .ref (ad 6 l1 0)), (2, .int (iI l2)), (3, .long (lI l3)), (5, .long (lI l5))]) hx hb (D_54 W_prog_6_method_10_code_0 16 rfl rfl) hl (by decide) rfl (fun ls hl => ?_)
  exact b_Part_cut_18 X hf hZ2 hS2 (lv_sub hl [0, 1, 2, 3, 4, 5, 6] rfl)

abbrev Q_Study_takeLines (K : zK) (D : va_G) (ca : Nat → ClassId) (ad : Nat → Int → Nat → Nat) (L : List Nat) (r : Int) (F : zF) (B : zB) (A : Nat → Prop) : Array Value → State → Outcome → State → Prop := va_Qv (S := Unit) (fun _ => True) (fun _ => zPo D ca ad lnC K.2 L F B A) A
def f_Study_takeLines_136 (rec2 : Int → Int → Int → Int → zF → zB → zO) (K : zK) (l3 : Int) (l0 : Int) (l1 : Int) (l2 : Int) (s0 : Int) (s1 : Int) (s2 : Int) (F : zF) (B : zB) : zO := if 0 ≤ s0 ∧ s0 < K.2 9 then if 0 ≤ s1 ∧ s1 < 4 then rec2 (l3 + 1) l0 l1 l2 F (zup4 B 9 s0 6 s1 s2) else none else none
set_option maxHeartbeats 4000000 in
set_option maxRecDepth 100000 in
theorem b_Study_takeLines_136 {D : va_G} {ca : Nat → ClassId} {ad : Nat → Int → Nat → Nat} {L : List Nat} {aS vS : Nat → Nat} {A : Nat → Prop} {p : Program} {l : Launch} {e : Env} {s : State} {m : MethodId} {args : Array Value} {below : List Frame} {meth : Method} {c : Code} {K : zK} {r : Int} {F9 : zF} {B9 : zB} (X : zX D ca L aS vS A p s m args meth c prog_11_method_6_code 6 (Option.none : Option Jvm.ClassFile.FieldType) "StaveHouse$Study") {rec2 : Int → Int → Int → Int → zF → zB → zO} (hrec2 : ∀ {l3 : Int} {l0 : Int} {l1 : Int} {l2 : Int} {F : zF} {B : zB} {H : Heap} {locs : List Loc} {ls : Array Slot}, rec2 l3 l0 l1 l2 F B = some (r, F9, B9) → zH D ca ad lnC K.2 L F B A H → va_S A s.heap H locs → lv_has ls 6 [(3, .int (iI l3)), (0, .ref (ad 9 l0 0)), (1, .ref (ad 6 l1 0)), (2, .int (iI l2))] → W p l e ({ frames := 4, cells := 0, slots := 0, locals := 85 } : Room) s m args below meth c H locs 0 0 (MQ below (Q_Study_takeLines K D ca ad L r F9 B9 A) args s 0 0 A) (F0 m 2 ls [])) {l3 : Int} {l0 : Int} {l1 : Int} {l2 : Int} {s0 : Int} {s1 : Int} {s2 : Int} {F : zF} {B : zB} {H : Heap} {locs : List Loc} {ls : Array Slot} (hf : f_Study_takeLines_136 rec2 K l3 l0 l1 l2 s0 s1 s2 F B = some (r, F9, B9)) (hZ : zH D ca ad lnC K.2 L F B A H) (hS : va_S A s.heap H locs) (hl : lv_has ls 6 [(3, .int (iI l3)), (0, .ref (ad 9 l0 0)), (1, .ref (ad 6 l1 0)), (2, .int (iI l2))]) : W p l e ({ frames := 4, cells := 0, slots := 0, locals := 85 } : Room) s m args below meth c H locs 0 0 (MQ below (Q_Study_takeLines K D ca ad L r F9 B9 A) args s 0 0 A) (F0 m 136 ls [.int (iI s2), .int (iI s1), .ref (ad 9 s0 (6 + 1))]) := by
  obtain ⟨hx, hb, hr, hml, hown, hts, hlk, hK, hA, hL, hX⟩ := id X
  replace hf : (if 0 ≤ s0 ∧ s0 < K.2 9 then if 0 ≤ s1 ∧ s1 < 4 then rec2 (l3 + 1) l0 l1 l2 F (zup4 B 9 s0 6 s1 s2) else none else none) = some (r, F9, B9) := hf
  obtain ⟨g38, hf⟩ := gif hf
  obtain ⟨g39, hf⟩ := gif hf
  refine zast (ci := 9) (k := 6) hx hb hK rfl hZ hS g38.1 g38.2 rfl (Nat.le_of_ble_eq_true rfl) g39.1 g39.2 (D_79 W_prog_11_method_6_code_128 8 rfl rfl) (fun H40 locs40 hZ40 hS40 => ?_)
  refine lv_iinc (v := iI (l3 + 1)) (lv' := [(3, .int (iI (l3 + 1))), (0, .ref (ad 9 l0 0)), (1, .ref (ad 6 l1 0)), (2, .int (iI l2))]) hx hb d_11_6_137 hl (k := 0) rfl (iI_add _ 1) (by decide) rfl (fun ls hl => ?_)
  refine lv_goto (tgt := 2) hx hb (D_167 W_prog_11_method_6_code_128 12 rfl rfl rfl) (by decide) ?_
  exact hrec2 hf hZ40 hS40 (lv_sub hl [0, 1, 2, 3] rfl)

def f_Study_takeLines_113 (rec2 : Int → Int → Int → Int → zF → zB → zO) (K : zK) (l5 : Int) (l4 : Int) (l3 : Int) (l0 : Int) (l1 : Int) (l2 : Int) (s0 : Int) (s1 : Int) (s2 : Int) (F : zF) (B : zB) : zO := if 0 ≤ s0 ∧ s0 < K.2 9 then if 0 ≤ s1 ∧ s1 < 4 then if 0 ≤ l0 ∧ l0 < K.2 9 then if r32 l5 then (if l5 = (-1) then f_Study_takeLines_136 rec2 K l3 l0 l1 l2 l0 l3 (-1) F (zup4 B 9 s0 5 s1 s2) else if 0 ≤ l4 ∧ l4 < K.2 1 then zbind (f_Event_tone K l4 l5 F (zup4 B 9 s0 5 s1 s2)) (fun r37 F37 B37 => f_Study_takeLines_136 rec2 K l3 l0 l1 l2 l0 l3 r37 F37 B37) else none) else none else none else none else none
set_option maxHeartbeats 4000000 in
set_option maxRecDepth 100000 in
theorem b_Study_takeLines_113 {D : va_G} {ca : Nat → ClassId} {ad : Nat → Int → Nat → Nat} {L : List Nat} {aS vS : Nat → Nat} {A : Nat → Prop} {p : Program} {l : Launch} {e : Env} {s : State} {m : MethodId} {args : Array Value} {below : List Frame} {meth : Method} {c : Code} {K : zK} {r : Int} {F9 : zF} {B9 : zB} (X : zX D ca L aS vS A p s m args meth c prog_11_method_6_code 6 (Option.none : Option Jvm.ClassFile.FieldType) "StaveHouse$Study") {rec2 : Int → Int → Int → Int → zF → zB → zO} (hrec2 : ∀ {l3 : Int} {l0 : Int} {l1 : Int} {l2 : Int} {F : zF} {B : zB} {H : Heap} {locs : List Loc} {ls : Array Slot}, rec2 l3 l0 l1 l2 F B = some (r, F9, B9) → zH D ca ad lnC K.2 L F B A H → va_S A s.heap H locs → lv_has ls 6 [(3, .int (iI l3)), (0, .ref (ad 9 l0 0)), (1, .ref (ad 6 l1 0)), (2, .int (iI l2))] → W p l e ({ frames := 4, cells := 0, slots := 0, locals := 85 } : Room) s m args below meth c H locs 0 0 (MQ below (Q_Study_takeLines K D ca ad L r F9 B9 A) args s 0 0 A) (F0 m 2 ls [])) {l5 : Int} {l4 : Int} {l3 : Int} {l0 : Int} {l1 : Int} {l2 : Int} {s0 : Int} {s1 : Int} {s2 : Int} {F : zF} {B : zB} {H : Heap} {locs : List Loc} {ls : Array Slot} (hf : f_Study_takeLines_113 rec2 K l5 l4 l3 l0 l1 l2 s0 s1 s2 F B = some (r, F9, B9)) (hZ : zH D ca ad lnC K.2 L F B A H) (hS : va_S A s.heap H locs) (hl : lv_has ls 6 [(5, .int (iI l5)), (4, va_rf (zrf ad 1 l4)), (3, .int (iI l3)), (0, .ref (ad 9 l0 0)), (1, .ref (ad 6 l1 0)), (2, .int (iI l2))]) : W p l e ({ frames := 4, cells := 0, slots := 0, locals := 85 } : Room) s m args below meth c H locs 0 0 (MQ below (Q_Study_takeLines K D ca ad L r F9 B9 A) args s 0 0 A) (F0 m 113 ls [.int (iI s2), .int (iI s1), .ref (ad 9 s0 (5 + 1))]) := by
  obtain ⟨hx, hb, hr, hml, hown, hts, hlk, hK, hA, hL, hX⟩ := id X
  replace hf : (if 0 ≤ s0 ∧ s0 < K.2 9 then if 0 ≤ s1 ∧ s1 < 4 then if 0 ≤ l0 ∧ l0 < K.2 9 then if r32 l5 then (if l5 = (-1) then f_Study_takeLines_136 rec2 K l3 l0 l1 l2 l0 l3 (-1) F (zup4 B 9 s0 5 s1 s2) else if 0 ≤ l4 ∧ l4 < K.2 1 then zbind (f_Event_tone K l4 l5 F (zup4 B 9 s0 5 s1 s2)) (fun r37 F37 B37 => f_Study_takeLines_136 rec2 K l3 l0 l1 l2 l0 l3 r37 F37 B37) else none) else none else none else none else none) = some (r, F9, B9) := hf
  obtain ⟨g29, hf⟩ := gif hf
  obtain ⟨g30, hf⟩ := gif hf
  refine zast (ci := 9) (k := 5) hx hb hK rfl hZ hS g29.1 g29.2 rfl (Nat.le_of_ble_eq_true rfl) g30.1 g30.2 (D_79 W_prog_11_method_6_code_96 17 rfl rfl) (fun H31 locs31 hZ31 hS31 => ?_)
  refine lv_aload_n hx hb (D_42 W_prog_11_method_6_code_96 18 rfl rfl) rfl (lv_at hl 3 rfl) ?_
  obtain ⟨g33, hf⟩ := gif hf
  refine zget (ci := 9) (C := RX9) (T := TX9) (v := .ref (ad 9 l0 (6 + 1))) (k := 6) hx hb hts inW_9 hown hK hZ31 g33.1 g33.2 rfl (by decide) k_5_207 rfl (D_180 W_prog_11_method_6_code_96 19 rfl rfl rfl) ?_
  refine lv_iload_n hx hb (D_29 W_prog_11_method_6_code_96 22 rfl rfl) rfl (lv_at hl 2 rfl) ?_
  refine lv_iload hx hb (D_21 W_prog_11_method_6_code_96 23 rfl rfl) (lv_at hl 0 rfl) ?_
  refine lv_iconst (v := iI (-1)) hx hb (D_2 W_prog_11_method_6_code_96 25 rfl rfl) rfl ?_
  obtain ⟨g34, hf⟩ := gif hf
  refine zne (tgt := 129) hx hb g34 (by decide) (D_160 W_prog_11_method_6_code_96 26 rfl rfl rfl) (by decide) (fun h35 => ?_) (fun h35 => ?_)
  · replace hf := gneg hf h35
    refine zaload hx hb (D_25 W_prog_11_method_6_code_128 1 rfl rfl) (lv_at hl 1 rfl) ?_
    refine lv_iload hx hb (D_21 W_prog_11_method_6_code_128 3 rfl rfl) (lv_at hl 0 rfl) ?_
    obtain ⟨g36, hf⟩ := gif hf
    refine W.eq (g2 := F0 m 133 ls [.int (iI l5), .ref (ad 1 l4 0), .int (iI l3), .ref (ad 9 l0 (6 + 1))]) (by rw [zrf_pos (ad := ad) (t := 1) g36.1]; try rfl) ?_
    obtain ⟨r37, F37, B37, hc37, hf⟩ := gbind hf
    refine va_calli (va_runV (As := [.int (iI l5)]) (rest := [.int (iI l3), .ref (ad 9 l0 (6 + 1))]) ⟨hx, hb, hml, hown, hts⟩ (c_Event_tone (l := l) hc37) (cwV 1 hts (gdV k_6_26 k_6_22 k_6_23 k_1_8 k_6_24) rfl rfl rfl (by decide +kernel) ⟨Nat.le_of_ble_eq_true rfl, Nat.le_of_ble_eq_true rfl⟩) (zPV X hZ31 hS31 (ci := 1) g36.1 g36.2 (r := (RX1, TX1, 14)) rfl [.int (iI l5)]) rfl rfl hl.1 rfl (lv_room (Nat.le_of_ble_eq_true rfl)) (D_182 W_prog_11_method_6_code_128 5 rfl rfl rfl) ⟨Nat.le_of_ble_eq_true rfl, Nat.le_of_ble_eq_true rfl⟩) hS31 (fun q _ h => zAin X hS31 q h) (zAin X hS31) (fun p37 u37 t37 H37 locs37 ht37 hv37 hw37 hB37 hz37 hk37 hS37 => ?_)
    have hZ37 := zBack X ht37 hB37
    subst hw37
    exact b_Study_takeLines_136 X hrec2 hf hZ37 hS37 (lv_sub hl [2, 3, 4, 5] rfl)
  · replace hf := gpos hf h35
    refine lv_iconst (v := iI (-1)) hx hb (D_2 W_prog_11_method_6_code_96 29 rfl rfl) rfl ?_
    refine lv_goto (tgt := 136) hx hb (D_167 W_prog_11_method_6_code_96 30 rfl rfl rfl) (by decide) ?_
    exact b_Study_takeLines_136 X hrec2 hf hZ31 hS31 (lv_sub hl [2, 3, 4, 5] rfl)

def f_Study_takeLines_89 (rec2 : Int → Int → Int → Int → zF → zB → zO) (K : zK) (l5 : Int) (l4 : Int) (l3 : Int) (l0 : Int) (l1 : Int) (l2 : Int) (s0 : Int) (s1 : Int) (s2 : Int) (F : zF) (B : zB) : zO := if 0 ≤ s0 ∧ s0 < K.2 9 then if 0 ≤ s1 ∧ s1 < 4 then if (s2 = 0 ∨ s2 = 1) then if 0 ≤ l0 ∧ l0 < K.2 9 then if r32 l5 then (if l5 = (-1) then f_Study_takeLines_113 rec2 K l5 l4 l3 l0 l1 l2 l0 l3 (-1) F (zup4 B 9 s0 9 s1 s2) else if 0 ≤ l4 ∧ l4 < K.2 1 then if 0 ≤ l5 ∧ l5 < 6 then f_Study_takeLines_113 rec2 K l5 l4 l3 l0 l1 l2 l0 l3 ((zup4 B 9 s0 9 s1 s2) 1 l4 12 l5) F (zup4 B 9 s0 9 s1 s2) else none else none) else none else none else none else none else none
set_option maxHeartbeats 4000000 in
set_option maxRecDepth 100000 in
theorem b_Study_takeLines_89 {D : va_G} {ca : Nat → ClassId} {ad : Nat → Int → Nat → Nat} {L : List Nat} {aS vS : Nat → Nat} {A : Nat → Prop} {p : Program} {l : Launch} {e : Env} {s : State} {m : MethodId} {args : Array Value} {below : List Frame} {meth : Method} {c : Code} {K : zK} {r : Int} {F9 : zF} {B9 : zB} (X : zX D ca L aS vS A p s m args meth c prog_11_method_6_code 6 (Option.none : Option Jvm.ClassFile.FieldType) "StaveHouse$Study") {rec2 : Int → Int → Int → Int → zF → zB → zO} (hrec2 : ∀ {l3 : Int} {l0 : Int} {l1 : Int} {l2 : Int} {F : zF} {B : zB} {H : Heap} {locs : List Loc} {ls : Array Slot}, rec2 l3 l0 l1 l2 F B = some (r, F9, B9) → zH D ca ad lnC K.2 L F B A H → va_S A s.heap H locs → lv_has ls 6 [(3, .int (iI l3)), (0, .ref (ad 9 l0 0)), (1, .ref (ad 6 l1 0)), (2, .int (iI l2))] → W p l e ({ frames := 4, cells := 0, slots := 0, locals := 85 } : Room) s m args below meth c H locs 0 0 (MQ below (Q_Study_takeLines K D ca ad L r F9 B9 A) args s 0 0 A) (F0 m 2 ls [])) {l5 : Int} {l4 : Int} {l3 : Int} {l0 : Int} {l1 : Int} {l2 : Int} {s0 : Int} {s1 : Int} {s2 : Int} {F : zF} {B : zB} {H : Heap} {locs : List Loc} {ls : Array Slot} (hf : f_Study_takeLines_89 rec2 K l5 l4 l3 l0 l1 l2 s0 s1 s2 F B = some (r, F9, B9)) (hZ : zH D ca ad lnC K.2 L F B A H) (hS : va_S A s.heap H locs) (hl : lv_has ls 6 [(5, .int (iI l5)), (4, va_rf (zrf ad 1 l4)), (3, .int (iI l3)), (0, .ref (ad 9 l0 0)), (1, .ref (ad 6 l1 0)), (2, .int (iI l2))]) : W p l e ({ frames := 4, cells := 0, slots := 0, locals := 85 } : Room) s m args below meth c H locs 0 0 (MQ below (Q_Study_takeLines K D ca ad L r F9 B9 A) args s 0 0 A) (F0 m 89 ls [.int (iI s2), .int (iI s1), .ref (ad 9 s0 (9 + 1))]) := by
  obtain ⟨hx, hb, hr, hml, hown, hts, hlk, hK, hA, hL, hX⟩ := id X
  replace hf : (if 0 ≤ s0 ∧ s0 < K.2 9 then if 0 ≤ s1 ∧ s1 < 4 then if (s2 = 0 ∨ s2 = 1) then if 0 ≤ l0 ∧ l0 < K.2 9 then if r32 l5 then (if l5 = (-1) then f_Study_takeLines_113 rec2 K l5 l4 l3 l0 l1 l2 l0 l3 (-1) F (zup4 B 9 s0 9 s1 s2) else if 0 ≤ l4 ∧ l4 < K.2 1 then if 0 ≤ l5 ∧ l5 < 6 then f_Study_takeLines_113 rec2 K l5 l4 l3 l0 l1 l2 l0 l3 ((zup4 B 9 s0 9 s1 s2) 1 l4 12 l5) F (zup4 B 9 s0 9 s1 s2) else none else none) else none else none else none else none else none) = some (r, F9, B9) := hf
  obtain ⟨g20, hf⟩ := gif hf
  obtain ⟨g21, hf⟩ := gif hf
  obtain ⟨g23, hf⟩ := gif hf
  refine zzast (ci := 9) (k := 9) hx hb hK rfl hZ hS g20.1 g20.2 rfl (Nat.le_of_ble_eq_true rfl) g23 g21.1 g21.2 (D_84 W_prog_11_method_6_code_64 25 rfl rfl) (fun H22 locs22 hZ22 hS22 => ?_)
  refine lv_aload_n hx hb (D_42 W_prog_11_method_6_code_64 26 rfl rfl) rfl (lv_at hl 3 rfl) ?_
  obtain ⟨g24, hf⟩ := gif hf
  refine zget (ci := 9) (C := RX9) (T := TX9) (v := .ref (ad 9 l0 (5 + 1))) (k := 5) hx hb hts inW_9 hown hK hZ22 g24.1 g24.2 rfl (by decide) k_5_206 rfl (D_180 W_prog_11_method_6_code_64 27 rfl rfl rfl) ?_
  refine lv_iload_n hx hb (D_29 W_prog_11_method_6_code_64 30 rfl rfl) rfl (lv_at hl 2 rfl) ?_
  refine lv_iload hx hb (D_21 W_prog_11_method_6_code_64 31 rfl rfl) (lv_at hl 0 rfl) ?_
  refine lv_iconst (v := iI (-1)) hx hb (D_2 W_prog_11_method_6_code_96 1 rfl rfl) rfl ?_
  obtain ⟨g25, hf⟩ := gif hf
  refine zne (tgt := 105) hx hb g25 (by decide) (D_160 W_prog_11_method_6_code_96 2 rfl rfl rfl) (by decide) (fun h26 => ?_) (fun h26 => ?_)
  · replace hf := gneg hf h26
    refine zaload hx hb (D_25 W_prog_11_method_6_code_96 9 rfl rfl) (lv_at hl 1 rfl) ?_
    obtain ⟨g27, hf⟩ := gif hf
    refine zunrf g27.1 ?_
    refine zget (ci := 1) (C := RX1) (T := TX1) (v := .ref (ad 1 l4 (12 + 1))) (k := 12) hx hb hts inW_1 hown hK hZ22 g27.1 g27.2 rfl (by decide) k_2_58 rfl (D_180 W_prog_11_method_6_code_96 11 rfl rfl rfl) ?_
    refine lv_iload hx hb (D_21 W_prog_11_method_6_code_96 14 rfl rfl) (lv_at hl 0 rfl) ?_
    obtain ⟨g28, hf⟩ := gif hf
    refine zald (ci := 1) (k := 12) hx hb hK rfl hZ22 g27.1 g27.2 rfl (Nat.le_of_ble_eq_true rfl) g28.1 g28.2 (D_46 W_prog_11_method_6_code_96 16 rfl rfl) ?_
    exact b_Study_takeLines_113 X hrec2 hf hZ22 hS22 (lv_sub hl [0, 1, 2, 3, 4, 5] rfl)
  · replace hf := gpos hf h26
    refine lv_iconst (v := iI (-1)) hx hb (D_2 W_prog_11_method_6_code_96 5 rfl rfl) rfl ?_
    refine lv_goto (tgt := 113) hx hb (D_167 W_prog_11_method_6_code_96 6 rfl rfl rfl) (by decide) ?_
    exact b_Study_takeLines_113 X hrec2 hf hZ22 hS22 (lv_sub hl [0, 1, 2, 3, 4, 5] rfl)

def f_Study_takeLines_88 (rec2 : Int → Int → Int → Int → zF → zB → zO) (K : zK) (l5 : Int) (l4 : Int) (l3 : Int) (l0 : Int) (l1 : Int) (l2 : Int) (s0 : Int) (s1 : Int) (F : zF) (B : zB) : zO := f_Study_takeLines_89 rec2 K l5 l4 l3 l0 l1 l2 s0 s1 0 F B
set_option maxHeartbeats 4000000 in
set_option maxRecDepth 100000 in
theorem b_Study_takeLines_88 {D : va_G} {ca : Nat → ClassId} {ad : Nat → Int → Nat → Nat} {L : List Nat} {aS vS : Nat → Nat} {A : Nat → Prop} {p : Program} {l : Launch} {e : Env} {s : State} {m : MethodId} {args : Array Value} {below : List Frame} {meth : Method} {c : Code} {K : zK} {r : Int} {F9 : zF} {B9 : zB} (X : zX D ca L aS vS A p s m args meth c prog_11_method_6_code 6 (Option.none : Option Jvm.ClassFile.FieldType) "StaveHouse$Study") {rec2 : Int → Int → Int → Int → zF → zB → zO} (hrec2 : ∀ {l3 : Int} {l0 : Int} {l1 : Int} {l2 : Int} {F : zF} {B : zB} {H : Heap} {locs : List Loc} {ls : Array Slot}, rec2 l3 l0 l1 l2 F B = some (r, F9, B9) → zH D ca ad lnC K.2 L F B A H → va_S A s.heap H locs → lv_has ls 6 [(3, .int (iI l3)), (0, .ref (ad 9 l0 0)), (1, .ref (ad 6 l1 0)), (2, .int (iI l2))] → W p l e ({ frames := 4, cells := 0, slots := 0, locals := 85 } : Room) s m args below meth c H locs 0 0 (MQ below (Q_Study_takeLines K D ca ad L r F9 B9 A) args s 0 0 A) (F0 m 2 ls [])) {l5 : Int} {l4 : Int} {l3 : Int} {l0 : Int} {l1 : Int} {l2 : Int} {s0 : Int} {s1 : Int} {F : zF} {B : zB} {H : Heap} {locs : List Loc} {ls : Array Slot} (hf : f_Study_takeLines_88 rec2 K l5 l4 l3 l0 l1 l2 s0 s1 F B = some (r, F9, B9)) (hZ : zH D ca ad lnC K.2 L F B A H) (hS : va_S A s.heap H locs) (hl : lv_has ls 6 [(5, .int (iI l5)), (4, va_rf (zrf ad 1 l4)), (3, .int (iI l3)), (0, .ref (ad 9 l0 0)), (1, .ref (ad 6 l1 0)), (2, .int (iI l2))]) : W p l e ({ frames := 4, cells := 0, slots := 0, locals := 85 } : Room) s m args below meth c H locs 0 0 (MQ below (Q_Study_takeLines K D ca ad L r F9 B9 A) args s 0 0 A) (F0 m 88 ls [.int (iI s1), .ref (ad 9 s0 (9 + 1))]) := by
  obtain ⟨hx, hb, hr, hml, hown, hts, hlk, hK, hA, hL, hX⟩ := id X
  replace hf : (f_Study_takeLines_89 rec2 K l5 l4 l3 l0 l1 l2 s0 s1 0 F B) = some (r, F9, B9) := hf
  refine lv_iconst (v := iI 0) hx hb (D_3 W_prog_11_method_6_code_64 24 rfl rfl) rfl ?_
  exact b_Study_takeLines_89 X hrec2 hf hZ hS (lv_sub hl [0, 1, 2, 3, 4, 5] rfl)

def f_Study_takeLines_57 (rec2 : Int → Int → Int → Int → zF → zB → zO) (K : zK) (l4 : Int) (l3 : Int) (l0 : Int) (l1 : Int) (l2 : Int) (s0 : Int) (F : zF) (B : zB) : zO := if 0 ≤ l0 ∧ l0 < K.2 9 then (if l4 < 0 then f_Study_takeLines_88 rec2 K s0 l4 l3 l0 l1 l2 l0 l3 F B else if 0 ≤ l4 ∧ l4 < K.2 1 then if 0 ≤ l2 ∧ l2 < 800 then if r64 (F 1 l4 0) then if r64 (B 9 l0 1 l2) then (if (zcmp (F 1 l4 0) (B 9 l0 1 l2)) = 0 then f_Study_takeLines_89 rec2 K s0 l4 l3 l0 l1 l2 l0 l3 1 F B else f_Study_takeLines_88 rec2 K s0 l4 l3 l0 l1 l2 l0 l3 F B) else none else none else none else none) else none
set_option maxHeartbeats 4000000 in
set_option maxRecDepth 100000 in
theorem b_Study_takeLines_57 {D : va_G} {ca : Nat → ClassId} {ad : Nat → Int → Nat → Nat} {L : List Nat} {aS vS : Nat → Nat} {A : Nat → Prop} {p : Program} {l : Launch} {e : Env} {s : State} {m : MethodId} {args : Array Value} {below : List Frame} {meth : Method} {c : Code} {K : zK} {r : Int} {F9 : zF} {B9 : zB} (X : zX D ca L aS vS A p s m args meth c prog_11_method_6_code 6 (Option.none : Option Jvm.ClassFile.FieldType) "StaveHouse$Study") {rec2 : Int → Int → Int → Int → zF → zB → zO} (hrec2 : ∀ {l3 : Int} {l0 : Int} {l1 : Int} {l2 : Int} {F : zF} {B : zB} {H : Heap} {locs : List Loc} {ls : Array Slot}, rec2 l3 l0 l1 l2 F B = some (r, F9, B9) → zH D ca ad lnC K.2 L F B A H → va_S A s.heap H locs → lv_has ls 6 [(3, .int (iI l3)), (0, .ref (ad 9 l0 0)), (1, .ref (ad 6 l1 0)), (2, .int (iI l2))] → W p l e ({ frames := 4, cells := 0, slots := 0, locals := 85 } : Room) s m args below meth c H locs 0 0 (MQ below (Q_Study_takeLines K D ca ad L r F9 B9 A) args s 0 0 A) (F0 m 2 ls [])) {l4 : Int} {l3 : Int} {l0 : Int} {l1 : Int} {l2 : Int} {s0 : Int} {F : zF} {B : zB} {H : Heap} {locs : List Loc} {ls : Array Slot} (hf : f_Study_takeLines_57 rec2 K l4 l3 l0 l1 l2 s0 F B = some (r, F9, B9)) (hZ : zH D ca ad lnC K.2 L F B A H) (hS : va_S A s.heap H locs) (hl : lv_has ls 6 [(4, va_rf (zrf ad 1 l4)), (3, .int (iI l3)), (0, .ref (ad 9 l0 0)), (1, .ref (ad 6 l1 0)), (2, .int (iI l2))]) : W p l e ({ frames := 4, cells := 0, slots := 0, locals := 85 } : Room) s m args below meth c H locs 0 0 (MQ below (Q_Study_takeLines K D ca ad L r F9 B9 A) args s 0 0 A) (F0 m 57 ls [.int (iI s0)]) := by
  obtain ⟨hx, hb, hr, hml, hown, hts, hlk, hK, hA, hL, hX⟩ := id X
  replace hf : (if 0 ≤ l0 ∧ l0 < K.2 9 then (if l4 < 0 then f_Study_takeLines_88 rec2 K s0 l4 l3 l0 l1 l2 l0 l3 F B else if 0 ≤ l4 ∧ l4 < K.2 1 then if 0 ≤ l2 ∧ l2 < 800 then if r64 (F 1 l4 0) then if r64 (B 9 l0 1 l2) then (if (zcmp (F 1 l4 0) (B 9 l0 1 l2)) = 0 then f_Study_takeLines_89 rec2 K s0 l4 l3 l0 l1 l2 l0 l3 1 F B else f_Study_takeLines_88 rec2 K s0 l4 l3 l0 l1 l2 l0 l3 F B) else none else none else none else none) else none) = some (r, F9, B9) := hf
  refine lv_istore (lv' := [(5, .int (iI s0)), (4, va_rf (zrf ad 1 l4)), (3, .int (iI l3)), (0, .ref (ad 9 l0 0)), (1, .ref (ad 6 l1 0)), (2, .int (iI l2))]) hx hb (D_54 W_prog_11_method_6_code_32 25 rfl rfl) hl (by decide) (by cases zrf ad 1 l4 <;> rfl) (fun ls hl => ?_)
  refine lv_aload_n hx hb (D_42 W_prog_11_method_6_code_32 27 rfl rfl) rfl (lv_at hl 3 rfl) ?_
  obtain ⟨g13, hf⟩ := gif hf
  refine zget (ci := 9) (C := RX9) (T := TX9) (v := .ref (ad 9 l0 (9 + 1))) (k := 9) hx hb hts inW_9 hown hK hZ g13.1 g13.2 rfl (by decide) k_5_210 rfl (D_180 W_prog_11_method_6_code_32 28 rfl rfl rfl) ?_
  refine lv_iload_n hx hb (D_29 W_prog_11_method_6_code_32 31 rfl rfl) rfl (lv_at hl 2 rfl) ?_
  refine zaload hx hb (D_25 W_prog_11_method_6_code_64 0 rfl rfl) (lv_at hl 1 rfl) ?_
  refine zifnull (tgt := 88) hx hb (D_198 W_prog_11_method_6_code_64 2 rfl rfl rfl) (by decide) (fun h14 => ?_) (fun h14 => ?_)
  · replace hf := gpos hf h14
    exact b_Study_takeLines_88 X hrec2 hf hZ hS (lv_sub hl [0, 1, 2, 3, 4, 5] rfl)
  · replace hf := gneg hf h14
    refine zaload hx hb (D_25 W_prog_11_method_6_code_64 5 rfl rfl) (lv_at hl 1 rfl) ?_
    obtain ⟨g15, hf⟩ := gif hf
    refine zunrf g15.1 ?_
    refine zget (ci := 1) (C := RX1) (T := TX1) (v := .long (lI (F 1 l4 0))) (k := 0) hx hb hts inW_1 hown hK hZ g15.1 g15.2 rfl (by decide) k_2_20 rfl (D_180 W_prog_11_method_6_code_64 7 rfl rfl rfl) ?_
    refine lv_aload_n hx hb (D_42 W_prog_11_method_6_code_64 10 rfl rfl) rfl (lv_at hl 3 rfl) ?_
    refine zget (ci := 9) (C := RX9) (T := TX9) (v := .ref (ad 9 l0 (1 + 1))) (k := 1) hx hb hts inW_9 hown hK hZ g13.1 g13.2 rfl (by decide) k_5_199 rfl (D_180 W_prog_11_method_6_code_64 11 rfl rfl rfl) ?_
    refine lv_iload_n hx hb (D_28 W_prog_11_method_6_code_64 14 rfl rfl) rfl (lv_at hl 5 rfl) ?_
    obtain ⟨g16, hf⟩ := gif hf
    refine zlald (ci := 9) (k := 1) hx hb hK rfl hZ g13.1 g13.2 rfl (Nat.le_of_ble_eq_true rfl) g16.1 g16.2 (D_47 W_prog_11_method_6_code_64 15 rfl rfl) ?_
    obtain ⟨g17, hf⟩ := gif hf
    obtain ⟨g18, hf⟩ := gif hf
    refine zcmp_r hx hb g17 g18 (D_148 W_prog_11_method_6_code_64 16 rfl rfl) ?_
    refine z0ne (tgt := 88) hx hb zcmp_32 (D_154 W_prog_11_method_6_code_64 17 rfl rfl rfl) (by decide) (fun h19 => ?_) (fun h19 => ?_)
    · replace hf := gneg hf h19
      exact b_Study_takeLines_88 X hrec2 hf hZ hS (lv_sub hl [0, 1, 2, 3, 4, 5] rfl)
    · replace hf := gpos hf h19
      refine lv_iconst (v := iI 1) hx hb (D_4 W_prog_11_method_6_code_64 20 rfl rfl) rfl ?_
      refine lv_goto (tgt := 89) hx hb (D_167 W_prog_11_method_6_code_64 21 rfl rfl rfl) (by decide) ?_
      exact b_Study_takeLines_89 X hrec2 hf hZ hS (lv_sub hl [0, 1, 2, 3, 4, 5] rfl)

def f_Study_takeLines_2 (K : zK) : Nat → Int → Int → Int → Int → zF → zB → zO
  | 0, _, _, _, _, _, _ => none
  | n + 1, l3, l0, l1, l2, F, B => if 0 ≤ l1 ∧ l1 < K.2 6 then if r32 l3 then if r32 (F 6 l1 1) then (if (F 6 l1 1) ≤ l3 then some (0, F, B) else if 0 ≤ l0 ∧ l0 < K.2 9 then zbind (f_Study_eventOf K l0 l1 l3 l2 F B) (fun r6 F6 B6 => if 0 ≤ l3 ∧ l3 < 4 then (if r6 < 0 then f_Study_takeLines_57 (f_Study_takeLines_2 K n) K r6 l3 l0 l1 l2 (-1) F6 (zup4 (zup4 B6 9 l0 7 l3 (B6 9 l0 5 l3)) 9 l0 8 l3 ((zup4 B6 9 l0 7 l3 (B6 9 l0 5 l3)) 9 l0 6 l3)) else if 0 ≤ r6 ∧ r6 < K.2 1 then zbind (f_Event_top K r6 F6 (zup4 (zup4 B6 9 l0 7 l3 (B6 9 l0 5 l3)) 9 l0 8 l3 ((zup4 B6 9 l0 7 l3 (B6 9 l0 5 l3)) 9 l0 6 l3))) (fun r12 F12 B12 => f_Study_takeLines_57 (f_Study_takeLines_2 K n) K r6 l3 l0 l1 l2 r12 F12 B12) else none) else none) else none) else none else none else none
set_option maxHeartbeats 4000000 in
set_option maxRecDepth 100000 in
theorem b_Study_takeLines_2 {D : va_G} {ca : Nat → ClassId} {ad : Nat → Int → Nat → Nat} {L : List Nat} {aS vS : Nat → Nat} {A : Nat → Prop} {p : Program} {l : Launch} {e : Env} {s : State} {m : MethodId} {args : Array Value} {below : List Frame} {meth : Method} {c : Code} {K : zK} {r : Int} {F9 : zF} {B9 : zB} (X : zX D ca L aS vS A p s m args meth c prog_11_method_6_code 6 (Option.none : Option Jvm.ClassFile.FieldType) "StaveHouse$Study") : ∀ {n : Nat} {l3 : Int} {l0 : Int} {l1 : Int} {l2 : Int} {F : zF} {B : zB} {H : Heap} {locs : List Loc} {ls : Array Slot}, f_Study_takeLines_2 K n l3 l0 l1 l2 F B = some (r, F9, B9) → zH D ca ad lnC K.2 L F B A H → va_S A s.heap H locs → lv_has ls 6 [(3, .int (iI l3)), (0, .ref (ad 9 l0 0)), (1, .ref (ad 6 l1 0)), (2, .int (iI l2))] → W p l e ({ frames := 4, cells := 0, slots := 0, locals := 85 } : Room) s m args below meth c H locs 0 0 (MQ below (Q_Study_takeLines K D ca ad L r F9 B9 A) args s 0 0 A) (F0 m 2 ls []) := by
  obtain ⟨hx, hb, hr, hml, hown, hts, hlk, hK, hA, hL, hX⟩ := id X
  intro n
  induction n with
  | zero =>
    intros
    rename_i hf _ _ _
    cases hf
  | succ n ih =>
    intro l3 l0 l1 l2 F B H locs ls hf hZ hS hl
    replace hf : (if 0 ≤ l1 ∧ l1 < K.2 6 then if r32 l3 then if r32 (F 6 l1 1) then (if (F 6 l1 1) ≤ l3 then some (0, F, B) else if 0 ≤ l0 ∧ l0 < K.2 9 then zbind (f_Study_eventOf K l0 l1 l3 l2 F B) (fun r6 F6 B6 => if 0 ≤ l3 ∧ l3 < 4 then (if r6 < 0 then f_Study_takeLines_57 (f_Study_takeLines_2 K n) K r6 l3 l0 l1 l2 (-1) F6 (zup4 (zup4 B6 9 l0 7 l3 (B6 9 l0 5 l3)) 9 l0 8 l3 ((zup4 B6 9 l0 7 l3 (B6 9 l0 5 l3)) 9 l0 6 l3)) else if 0 ≤ r6 ∧ r6 < K.2 1 then zbind (f_Event_top K r6 F6 (zup4 (zup4 B6 9 l0 7 l3 (B6 9 l0 5 l3)) 9 l0 8 l3 ((zup4 B6 9 l0 7 l3 (B6 9 l0 5 l3)) 9 l0 6 l3))) (fun r12 F12 B12 => f_Study_takeLines_57 (f_Study_takeLines_2 K n) K r6 l3 l0 l1 l2 r12 F12 B12) else none) else none) else none) else none else none else none) = some (r, F9, B9) := hf
    refine lv_iload_n hx hb (D_29 W_prog_11_method_6_code_0 2 rfl rfl) rfl (lv_at hl 0 rfl) ?_
    refine lv_aload_n hx hb (D_43 W_prog_11_method_6_code_0 3 rfl rfl) rfl (lv_at hl 2 rfl) ?_
    obtain ⟨g1, hf⟩ := gif hf
    refine zget (ci := 6) (C := RX6) (T := TX6) (v := .int (iI (F 6 l1 1))) (k := 1) hx hb hts inW_6 hown hK hZ g1.1 g1.2 rfl (by decide) k_2_192 rfl (D_180 W_prog_11_method_6_code_0 4 rfl rfl rfl) ?_
    obtain ⟨g2, hf⟩ := gif hf
    obtain ⟨g3, hf⟩ := gif hf
    refine zge (tgt := 143) hx hb g2 g3 (D_162 W_prog_11_method_6_code_0 7 rfl rfl rfl) (by decide) (fun h4 => ?_) (fun h4 => ?_)
    · replace hf := gpos hf h4
      cases hf
      exact W.vret hx hb hr (fun t ht hW => ⟨⟨(), rfl, trivial, by rw [ht]; exact hZ, va_K.moved hW.alike hK⟩, hS.F ht⟩) hS.2.2 (D_177 W_prog_11_method_6_code_128 15 rfl rfl) hlk
    · replace hf := gneg hf h4
      refine lv_aload_n hx hb (D_42 W_prog_11_method_6_code_0 10 rfl rfl) rfl (lv_at hl 1 rfl) ?_
      refine lv_aload_n hx hb (D_43 W_prog_11_method_6_code_0 11 rfl rfl) rfl (lv_at hl 2 rfl) ?_
      refine lv_iload_n hx hb (D_29 W_prog_11_method_6_code_0 12 rfl rfl) rfl (lv_at hl 0 rfl) ?_
      refine lv_iload_n hx hb (D_28 W_prog_11_method_6_code_0 13 rfl rfl) rfl (lv_at hl 3 rfl) ?_
      obtain ⟨g5, hf⟩ := gif hf
      obtain ⟨r6, F6, B6, hc6, hf⟩ := gbind hf
      refine va_callq (va_runV (As := [.ref (ad 6 l1 0), .int (iI l3), .int (iI l2)]) (rest := []) ⟨hx, hb, hml, hown, hts⟩ (c_Study_eventOf (l := l) hc6) (cwV 3 hts (gdV k_6_13 k_6_15 ks_69 k_1_19 k_6_16) rfl rfl rfl (by decide +kernel) ⟨Nat.le_of_ble_eq_true rfl, Nat.le_of_ble_eq_true rfl⟩) (zPV X hZ hS (ci := 9) g5.1 g5.2 (r := (RX9, TX9, 11)) rfl [.ref (ad 6 l1 0), .int (iI l3), .int (iI l2)]) rfl rfl hl.1 rfl (lv_room (Nat.le_of_ble_eq_true rfl)) (D_182 W_prog_11_method_6_code_0 14 rfl rfl rfl) ⟨Nat.le_of_ble_eq_true rfl, Nat.le_of_ble_eq_true rfl⟩) hS (fun q _ h => zAin X hS q h) (zAin X hS) (fun p6 u6 t6 H6 locs6 ht6 hv6 hw6 hB6 hz6 hk6 hS6 => ?_)
      have hZ6 := zBack X ht6 hB6
      subst hw6
      refine zastore (lv' := [(3, .int (iI l3)), (0, .ref (ad 9 l0 0)), (1, .ref (ad 6 l1 0)), (2, .int (iI l2))]) hx hb (D_58 W_prog_11_method_6_code_0 17 rfl rfl) hl (by decide) (fun _ _ => rfl) (fun ls hl => ?_)
      refine lv_aload_n hx hb (D_42 W_prog_11_method_6_code_0 19 rfl rfl) rfl (lv_at hl 2 rfl) ?_
      refine zget (ci := 9) (C := RX9) (T := TX9) (v := .ref (ad 9 l0 (7 + 1))) (k := 7) hx hb hts inW_9 hown hK hZ6 g5.1 g5.2 rfl (by decide) k_5_208 rfl (D_180 W_prog_11_method_6_code_0 20 rfl rfl rfl) ?_
      refine lv_iload_n hx hb (D_29 W_prog_11_method_6_code_0 23 rfl rfl) rfl (lv_at hl 1 rfl) ?_
      refine lv_aload_n hx hb (D_42 W_prog_11_method_6_code_0 24 rfl rfl) rfl (lv_at hl 2 rfl) ?_
      refine zget (ci := 9) (C := RX9) (T := TX9) (v := .ref (ad 9 l0 (5 + 1))) (k := 5) hx hb hts inW_9 hown hK hZ6 g5.1 g5.2 rfl (by decide) k_5_206 rfl (D_180 W_prog_11_method_6_code_0 25 rfl rfl rfl) ?_
      refine lv_iload_n hx hb (D_29 W_prog_11_method_6_code_0 28 rfl rfl) rfl (lv_at hl 1 rfl) ?_
      obtain ⟨g7, hf⟩ := gif hf
      refine zald (ci := 9) (k := 5) hx hb hK rfl hZ6 g5.1 g5.2 rfl (Nat.le_of_ble_eq_true rfl) g7.1 g7.2 (D_46 W_prog_11_method_6_code_0 29 rfl rfl) ?_
      refine zast (ci := 9) (k := 7) hx hb hK rfl hZ6 hS6 g5.1 g5.2 rfl (Nat.le_of_ble_eq_true rfl) g7.1 g7.2 (D_79 W_prog_11_method_6_code_0 30 rfl rfl) (fun H8 locs8 hZ8 hS8 => ?_)
      refine lv_aload_n hx hb (D_42 W_prog_11_method_6_code_0 31 rfl rfl) rfl (lv_at hl 2 rfl) ?_
      refine zget (ci := 9) (C := RX9) (T := TX9) (v := .ref (ad 9 l0 (8 + 1))) (k := 8) hx hb hts inW_9 hown hK hZ8 g5.1 g5.2 rfl (by decide) k_5_209 rfl (D_180 W_prog_11_method_6_code_32 0 rfl rfl rfl) ?_
      refine lv_iload_n hx hb (D_29 W_prog_11_method_6_code_32 3 rfl rfl) rfl (lv_at hl 1 rfl) ?_
      refine lv_aload_n hx hb (D_42 W_prog_11_method_6_code_32 4 rfl rfl) rfl (lv_at hl 2 rfl) ?_
      refine zget (ci := 9) (C := RX9) (T := TX9) (v := .ref (ad 9 l0 (6 + 1))) (k := 6) hx hb hts inW_9 hown hK hZ8 g5.1 g5.2 rfl (by decide) k_5_207 rfl (D_180 W_prog_11_method_6_code_32 5 rfl rfl rfl) ?_
      refine lv_iload_n hx hb (D_29 W_prog_11_method_6_code_32 8 rfl rfl) rfl (lv_at hl 1 rfl) ?_
      refine zald (ci := 9) (k := 6) hx hb hK rfl hZ8 g5.1 g5.2 rfl (Nat.le_of_ble_eq_true rfl) g7.1 g7.2 (D_46 W_prog_11_method_6_code_32 9 rfl rfl) ?_
      refine zast (ci := 9) (k := 8) hx hb hK rfl hZ8 hS8 g5.1 g5.2 rfl (Nat.le_of_ble_eq_true rfl) g7.1 g7.2 (D_79 W_prog_11_method_6_code_32 10 rfl rfl) (fun H9 locs9 hZ9 hS9 => ?_)
      refine zaload hx hb (D_25 W_prog_11_method_6_code_32 11 rfl rfl) (lv_at hl 0 rfl) ?_
      refine zifnonnull (tgt := 52) hx hb (D_199 W_prog_11_method_6_code_32 13 rfl rfl rfl) (by decide) (fun h10 => ?_) (fun h10 => ?_)
      · replace hf := gneg hf h10
        refine zaload hx hb (D_25 W_prog_11_method_6_code_32 20 rfl rfl) (lv_at hl 0 rfl) ?_
        obtain ⟨g11, hf⟩ := gif hf
        refine W.eq (g2 := F0 m 54 ls [.ref (ad 1 r6 0)]) (by rw [zrf_pos (ad := ad) (t := 1) g11.1]; try rfl) ?_
        obtain ⟨r12, F12, B12, hc12, hf⟩ := gbind hf
        refine va_calli (va_runV (As := []) (rest := []) ⟨hx, hb, hml, hown, hts⟩ (c_Event_top (l := l) hc12) (cwV 0 hts (gdV k_6_17 k_6_18 k_6_19 k_1_8 k_6_20) rfl rfl rfl (by decide +kernel) ⟨Nat.le_of_ble_eq_true rfl, Nat.le_of_ble_eq_true rfl⟩) (zPV X hZ9 hS9 (ci := 1) g11.1 g11.2 (r := (RX1, TX1, 14)) rfl []) rfl rfl hl.1 rfl (lv_room (Nat.le_of_ble_eq_true rfl)) (D_182 W_prog_11_method_6_code_32 22 rfl rfl rfl) ⟨Nat.le_of_ble_eq_true rfl, Nat.le_of_ble_eq_true rfl⟩) hS9 (fun q _ h => zAin X hS9 q h) (zAin X hS9) (fun p12 u12 t12 H12 locs12 ht12 hv12 hw12 hB12 hz12 hk12 hS12 => ?_)
        have hZ12 := zBack X ht12 hB12
        subst hw12
        exact b_Study_takeLines_57 X ih hf hZ12 hS12 (lv_sub hl [0, 1, 2, 3, 4] rfl)
      · replace hf := gpos hf h10
        refine lv_iconst (v := iI (-1)) hx hb (D_2 W_prog_11_method_6_code_32 16 rfl rfl) rfl ?_
        refine lv_goto (tgt := 57) hx hb (D_167 W_prog_11_method_6_code_32 17 rfl rfl rfl) (by decide) ?_
        exact b_Study_takeLines_57 X ih hf hZ9 hS9 (lv_sub hl [0, 1, 2, 3, 4] rfl)

def f_Study_takeLines (K : zK) (l0 : Int) (l1 : Int) (l2 : Int) (F : zF) (B : zB) : zO := f_Study_takeLines_2 K K.1 0 l0 l1 l2 F B
set_option maxHeartbeats 4000000 in
set_option maxRecDepth 100000 in
theorem c_Study_takeLines {l : Launch} {D : va_G} {ca : Nat → ClassId} {ad : Nat → Int → Nat → Nat} {L : List Nat} {aS vS : Nat → Nat} {sz : Nat} {K : zK}  {l0 : Int} {l1 : Int} {l2 : Int} {F F9 : zF} {B B9 : zB} {r : Int} (hf : f_Study_takeLines K l0 l1 l2 F B = some (r, F9, B9)) : Met l ({ cls := "StaveHouse$Study", name := "takeLines", desc := "(LStaveHouse$Piece;I)V" } : Jvm.MethodName) (Cond.code ({ cls := "StaveHouse$Study", name := "takeLines", desc := "(LStaveHouse$Piece;I)V" } : Jvm.MethodName) prog_11_method_6_code 6 (Option.none : Option Jvm.ClassFile.FieldType) :: wAll) ({ frames := 4, cells := 0, slots := 0, locals := 85 } : Room) (va_Pc [.ref (ad 9 l0 0), .ref (ad 6 l1 0), .int (iI l2)] (zPre D ca ad lnC K.2 L aS vS F B sz)) (Q_Study_takeLines K D ca ad L r F9 B9 (zA L sz)) 0 0 (zA L sz) := by
  refine zMet (Qc := Q_Study_takeLines K D ca ad L r F9 B9) (lv := [(0, .ref (ad 9 l0 0)), (1, .ref (ad 6 l1 0)), (2, .int (iI l2))]) (by decide) (Nat.le_of_ble_eq_true rfl) rfl (fun A p e s m below meth c ls X hZ hS hl => ?_)
  obtain ⟨hx, hb, hr, hml, hown, hts, hlk, hK, hA, hL, hX⟩ := id X
  replace hf : (f_Study_takeLines_2 K K.1 0 l0 l1 l2 F B) = some (r, F9, B9) := hf
  refine lv_iconst (v := iI 0) hx hb (D_3 W_prog_11_method_6_code_0 0 rfl rfl) rfl ?_
  refine lv_istore_n (lv' := [(3, .int (iI 0)), (0, .ref (ad 9 l0 0)), (1, .ref (ad 6 l1 0)), (2, .int (iI l2))]) hx hb (D_62 W_prog_11_method_6_code_0 1 rfl rfl) rfl hl (by decide) rfl (fun ls hl => ?_)
  exact b_Study_takeLines_2 X hf hZ hS (lv_sub hl [0, 1, 2, 3] rfl)

abbrev Q_Performance_gather (K : zK) (D : va_G) (ca : Nat → ClassId) (ad : Nat → Int → Nat → Nat) (L : List Nat) (r : Int) (F : zF) (B : zB) (A : Nat → Prop) : Array Value → State → Outcome → State → Prop := va_Qv (S := Unit) (fun _ => True) (fun _ => zPo D ca ad lnC K.2 L F B A) A
def f_Performance_gather_85 (rec17 : Int → Int → Int → zF → zB → zO) (K : zK) (l2 : Int) (l0 : Int) (l1 : Int) (F : zF) (B : zB) : zO := rec17 (l2 + 1) l0 l1 F B
set_option maxHeartbeats 4000000 in
set_option maxRecDepth 100000 in
theorem b_Performance_gather_85 {D : va_G} {ca : Nat → ClassId} {ad : Nat → Int → Nat → Nat} {L : List Nat} {aS vS : Nat → Nat} {A : Nat → Prop} {p : Program} {l : Launch} {e : Env} {s : State} {m : MethodId} {args : Array Value} {below : List Frame} {meth : Method} {c : Code} {K : zK} {r : Int} {F9 : zF} {B9 : zB} (X : zX D ca L aS vS A p s m args meth c prog_7_method_2_code 5 (Option.none : Option Jvm.ClassFile.FieldType) "StaveHouse$Performance") {rec17 : Int → Int → Int → zF → zB → zO} (hrec17 : ∀ {l2 : Int} {l0 : Int} {l1 : Int} {F : zF} {B : zB} {H : Heap} {locs : List Loc} {ls : Array Slot}, rec17 l2 l0 l1 F B = some (r, F9, B9) → zH D ca ad lnC K.2 L F B A H → va_S A s.heap H locs → lv_has ls 5 [(2, .int (iI l2)), (0, .ref (ad 5 l0 0)), (1, .ref (ad 6 l1 0))] → W p l e ({ frames := 4, cells := 0, slots := 0, locals := 97 } : Room) s m args below meth c H locs 0 0 (MQ below (Q_Performance_gather K D ca ad L r F9 B9 A) args s 0 0 A) (F0 m 17 ls [])) {l2 : Int} {l0 : Int} {l1 : Int} {F : zF} {B : zB} {H : Heap} {locs : List Loc} {ls : Array Slot} (hf : f_Performance_gather_85 rec17 K l2 l0 l1 F B = some (r, F9, B9)) (hZ : zH D ca ad lnC K.2 L F B A H) (hS : va_S A s.heap H locs) (hl : lv_has ls 5 [(2, .int (iI l2)), (0, .ref (ad 5 l0 0)), (1, .ref (ad 6 l1 0))]) : W p l e ({ frames := 4, cells := 0, slots := 0, locals := 97 } : Room) s m args below meth c H locs 0 0 (MQ below (Q_Performance_gather K D ca ad L r F9 B9 A) args s 0 0 A) (F0 m 85 ls []) := by
  obtain ⟨hx, hb, hr, hml, hown, hts, hlk, hK, hA, hL, hX⟩ := id X
  replace hf : (rec17 (l2 + 1) l0 l1 F B) = some (r, F9, B9) := hf
  refine lv_iinc (v := iI (l2 + 1)) (lv' := [(2, .int (iI (l2 + 1))), (0, .ref (ad 5 l0 0)), (1, .ref (ad 6 l1 0))]) hx hb d_7_2_85 hl (k := 0) rfl (iI_add _ 1) (by decide) rfl (fun ls hl => ?_)
  refine lv_goto (tgt := 17) hx hb (D_167 W_prog_7_method_2_code_64 24 rfl rfl rfl) (by decide) ?_
  exact hrec17 hf hZ hS (lv_sub hl [0, 1, 2] rfl)

def f_Performance_gather_79 (rec17 : Int → Int → Int → zF → zB → zO) (rec35 : Int → Int → Int → Int → Int → zF → zB → zO) (K : zK) (l4 : Int) (l3 : Int) (l2 : Int) (l0 : Int) (l1 : Int) (F : zF) (B : zB) : zO := rec35 (l4 + 1) l3 l2 l0 l1 F B
set_option maxHeartbeats 4000000 in
set_option maxRecDepth 100000 in
theorem b_Performance_gather_79 {D : va_G} {ca : Nat → ClassId} {ad : Nat → Int → Nat → Nat} {L : List Nat} {aS vS : Nat → Nat} {A : Nat → Prop} {p : Program} {l : Launch} {e : Env} {s : State} {m : MethodId} {args : Array Value} {below : List Frame} {meth : Method} {c : Code} {K : zK} {r : Int} {F9 : zF} {B9 : zB} (X : zX D ca L aS vS A p s m args meth c prog_7_method_2_code 5 (Option.none : Option Jvm.ClassFile.FieldType) "StaveHouse$Performance") {rec17 : Int → Int → Int → zF → zB → zO} {rec35 : Int → Int → Int → Int → Int → zF → zB → zO} (hrec17 : ∀ {l2 : Int} {l0 : Int} {l1 : Int} {F : zF} {B : zB} {H : Heap} {locs : List Loc} {ls : Array Slot}, rec17 l2 l0 l1 F B = some (r, F9, B9) → zH D ca ad lnC K.2 L F B A H → va_S A s.heap H locs → lv_has ls 5 [(2, .int (iI l2)), (0, .ref (ad 5 l0 0)), (1, .ref (ad 6 l1 0))] → W p l e ({ frames := 4, cells := 0, slots := 0, locals := 97 } : Room) s m args below meth c H locs 0 0 (MQ below (Q_Performance_gather K D ca ad L r F9 B9 A) args s 0 0 A) (F0 m 17 ls [])) (hrec35 : ∀ {l4 : Int} {l3 : Int} {l2 : Int} {l0 : Int} {l1 : Int} {F : zF} {B : zB} {H : Heap} {locs : List Loc} {ls : Array Slot}, rec35 l4 l3 l2 l0 l1 F B = some (r, F9, B9) → zH D ca ad lnC K.2 L F B A H → va_S A s.heap H locs → lv_has ls 5 [(4, .int (iI l4)), (3, va_rf (zrf ad 4 l3)), (2, .int (iI l2)), (0, .ref (ad 5 l0 0)), (1, .ref (ad 6 l1 0))] → W p l e ({ frames := 4, cells := 0, slots := 0, locals := 97 } : Room) s m args below meth c H locs 0 0 (MQ below (Q_Performance_gather K D ca ad L r F9 B9 A) args s 0 0 A) (F0 m 35 ls [])) {l4 : Int} {l3 : Int} {l2 : Int} {l0 : Int} {l1 : Int} {F : zF} {B : zB} {H : Heap} {locs : List Loc} {ls : Array Slot} (hf : f_Performance_gather_79 rec17 rec35 K l4 l3 l2 l0 l1 F B = some (r, F9, B9)) (hZ : zH D ca ad lnC K.2 L F B A H) (hS : va_S A s.heap H locs) (hl : lv_has ls 5 [(4, .int (iI l4)), (3, va_rf (zrf ad 4 l3)), (2, .int (iI l2)), (0, .ref (ad 5 l0 0)), (1, .ref (ad 6 l1 0))]) : W p l e ({ frames := 4, cells := 0, slots := 0, locals := 97 } : Room) s m args below meth c H locs 0 0 (MQ below (Q_Performance_gather K D ca ad L r F9 B9 A) args s 0 0 A) (F0 m 79 ls []) := by
  obtain ⟨hx, hb, hr, hml, hown, hts, hlk, hK, hA, hL, hX⟩ := id X
  replace hf : (rec35 (l4 + 1) l3 l2 l0 l1 F B) = some (r, F9, B9) := hf
  refine lv_iinc (v := iI (l4 + 1)) (lv' := [(4, .int (iI (l4 + 1))), (3, va_rf (zrf ad 4 l3)), (2, .int (iI l2)), (0, .ref (ad 5 l0 0)), (1, .ref (ad 6 l1 0))]) hx hb d_7_2_79 hl (k := 0) rfl (iI_add _ 1) (by decide) (by cases zrf ad 4 l3 <;> rfl) (fun ls hl => ?_)
  refine lv_goto (tgt := 35) hx hb (D_167 W_prog_7_method_2_code_64 18 rfl rfl rfl) (by decide) ?_
  exact hrec35 hf hZ hS (lv_sub hl [0, 1, 2, 3, 4] rfl)

def f_Performance_gather_35 (rec17 : Int → Int → Int → zF → zB → zO) (K : zK) : Nat → Int → Int → Int → Int → Int → zF → zB → zO
  | 0, _, _, _, _, _, _, _ => none
  | n + 1, l4, l3, l2, l0, l1, F, B => if 0 ≤ l3 ∧ l3 < K.2 4 then if r32 l4 then if r32 (F 4 l3 6) then (if (F 4 l3 6) ≤ l4 then f_Performance_gather_85 rec17 K l2 l0 l1 F B else if 0 ≤ l0 ∧ l0 < K.2 5 then if r32 (F 5 l0 1) then (if (F 5 l0 1) = 0 then zbind (f_Performance_isTrilled K l3 l4 F B) (fun r17 F17 B17 => if r32 r17 then (if r17 = 0 then zbind (f_Performance_soundAll K l0 l3 l2 l4 F17 B17) (fun r20 F20 B20 => f_Performance_gather_79 rec17 (f_Performance_gather_35 rec17 K n) K l4 l3 l2 l0 l1 F20 B20) else zbind (f_Performance_trill K l0 l1 l2 l4 F17 B17) (fun r21 F21 B21 => f_Performance_gather_79 rec17 (f_Performance_gather_35 rec17 K n) K l4 l3 l2 l0 l1 F21 B21)) else none) else f_Performance_gather_85 rec17 K l2 l0 l1 F B) else none else none) else none else none else none
set_option maxHeartbeats 4000000 in
set_option maxRecDepth 100000 in
theorem b_Performance_gather_35 {D : va_G} {ca : Nat → ClassId} {ad : Nat → Int → Nat → Nat} {L : List Nat} {aS vS : Nat → Nat} {A : Nat → Prop} {p : Program} {l : Launch} {e : Env} {s : State} {m : MethodId} {args : Array Value} {below : List Frame} {meth : Method} {c : Code} {K : zK} {r : Int} {F9 : zF} {B9 : zB} (X : zX D ca L aS vS A p s m args meth c prog_7_method_2_code 5 (Option.none : Option Jvm.ClassFile.FieldType) "StaveHouse$Performance") {rec17 : Int → Int → Int → zF → zB → zO} (hrec17 : ∀ {l2 : Int} {l0 : Int} {l1 : Int} {F : zF} {B : zB} {H : Heap} {locs : List Loc} {ls : Array Slot}, rec17 l2 l0 l1 F B = some (r, F9, B9) → zH D ca ad lnC K.2 L F B A H → va_S A s.heap H locs → lv_has ls 5 [(2, .int (iI l2)), (0, .ref (ad 5 l0 0)), (1, .ref (ad 6 l1 0))] → W p l e ({ frames := 4, cells := 0, slots := 0, locals := 97 } : Room) s m args below meth c H locs 0 0 (MQ below (Q_Performance_gather K D ca ad L r F9 B9 A) args s 0 0 A) (F0 m 17 ls [])) : ∀ {n : Nat} {l4 : Int} {l3 : Int} {l2 : Int} {l0 : Int} {l1 : Int} {F : zF} {B : zB} {H : Heap} {locs : List Loc} {ls : Array Slot}, f_Performance_gather_35 rec17 K n l4 l3 l2 l0 l1 F B = some (r, F9, B9) → zH D ca ad lnC K.2 L F B A H → va_S A s.heap H locs → lv_has ls 5 [(4, .int (iI l4)), (3, va_rf (zrf ad 4 l3)), (2, .int (iI l2)), (0, .ref (ad 5 l0 0)), (1, .ref (ad 6 l1 0))] → W p l e ({ frames := 4, cells := 0, slots := 0, locals := 97 } : Room) s m args below meth c H locs 0 0 (MQ below (Q_Performance_gather K D ca ad L r F9 B9 A) args s 0 0 A) (F0 m 35 ls []) := by
  obtain ⟨hx, hb, hr, hml, hown, hts, hlk, hK, hA, hL, hX⟩ := id X
  intro n
  induction n with
  | zero =>
    intros
    rename_i hf _ _ _
    cases hf
  | succ n ih =>
    intro l4 l3 l2 l0 l1 F B H locs ls hf hZ hS hl
    replace hf : (if 0 ≤ l3 ∧ l3 < K.2 4 then if r32 l4 then if r32 (F 4 l3 6) then (if (F 4 l3 6) ≤ l4 then f_Performance_gather_85 rec17 K l2 l0 l1 F B else if 0 ≤ l0 ∧ l0 < K.2 5 then if r32 (F 5 l0 1) then (if (F 5 l0 1) = 0 then zbind (f_Performance_isTrilled K l3 l4 F B) (fun r17 F17 B17 => if r32 r17 then (if r17 = 0 then zbind (f_Performance_soundAll K l0 l3 l2 l4 F17 B17) (fun r20 F20 B20 => f_Performance_gather_79 rec17 (f_Performance_gather_35 rec17 K n) K l4 l3 l2 l0 l1 F20 B20) else zbind (f_Performance_trill K l0 l1 l2 l4 F17 B17) (fun r21 F21 B21 => f_Performance_gather_79 rec17 (f_Performance_gather_35 rec17 K n) K l4 l3 l2 l0 l1 F21 B21)) else none) else f_Performance_gather_85 rec17 K l2 l0 l1 F B) else none else none) else none else none else none) = some (r, F9, B9) := hf
    refine lv_iload hx hb (D_21 W_prog_7_method_2_code_32 3 rfl rfl) (lv_at hl 0 rfl) ?_
    refine zaload_n hx hb (D_45 W_prog_7_method_2_code_32 5 rfl rfl) rfl (lv_at hl 1 rfl) ?_
    obtain ⟨g10, hf⟩ := gif hf
    refine zunrf g10.1 ?_
    refine zget (ci := 4) (C := RX4) (T := TX4) (v := .int (iI (F 4 l3 6))) (k := 6) hx hb hts inW_4 hown hK hZ g10.1 g10.2 rfl (by decide) k_4_136 rfl (D_180 W_prog_7_method_2_code_32 6 rfl rfl rfl) ?_
    obtain ⟨g11, hf⟩ := gif hf
    obtain ⟨g12, hf⟩ := gif hf
    refine zge (tgt := 85) hx hb g11 g12 (D_162 W_prog_7_method_2_code_32 9 rfl rfl rfl) (by decide) (fun h13 => ?_) (fun h13 => ?_)
    · replace hf := gpos hf h13
      exact b_Performance_gather_85 X hrec17 hf hZ hS (lv_sub hl [2, 3, 4] rfl)
    · replace hf := gneg hf h13
      refine lv_aload_n hx hb (D_42 W_prog_7_method_2_code_32 12 rfl rfl) rfl (lv_at hl 3 rfl) ?_
      obtain ⟨g14, hf⟩ := gif hf
      refine zget (ci := 5) (C := RX5) (T := TX5) (v := .int (iI (F 5 l0 1))) (k := 1) hx hb hts inW_5 hown hK hZ g14.1 g14.2 rfl (by decide) k_6_65 rfl (D_180 W_prog_7_method_2_code_32 13 rfl rfl rfl) ?_
      obtain ⟨g15, hf⟩ := gif hf
      refine z0ne (tgt := 85) hx hb g15 (D_154 W_prog_7_method_2_code_32 16 rfl rfl rfl) (by decide) (fun h16 => ?_) (fun h16 => ?_)
      · replace hf := gneg hf h16
        exact b_Performance_gather_85 X hrec17 hf hZ hS (lv_sub hl [2, 3, 4] rfl)
      · replace hf := gpos hf h16
        refine zaload_n hx hb (D_45 W_prog_7_method_2_code_32 19 rfl rfl) rfl (lv_at hl 1 rfl) ?_
        refine lv_iload hx hb (D_21 W_prog_7_method_2_code_32 20 rfl rfl) (lv_at hl 0 rfl) ?_
        refine W.eq (g2 := F0 m 54 ls [.int (iI l4), .ref (ad 4 l3 0)]) (by rw [zrf_pos (ad := ad) (t := 4) g10.1]; try rfl) ?_
        obtain ⟨r17, F17, B17, hc17, hf⟩ := gbind hf
        refine va_calli (va_runS (As := [.ref (ad 4 l3 0), .int (iI l4)]) (rest := []) ⟨hx, hb, hml, hown, hts⟩ (c_Performance_isTrilled (l := l) hc17) (va_cwS 2 hts (gdS k_6_116 k_6_117 k_1_20 k_6_118) rfl rfl rfl (by decide +kernel) ⟨Nat.le_of_ble_eq_true rfl, Nat.le_of_ble_eq_true rfl⟩) (zPS X hZ hS [.ref (ad 4 l3 0), .int (iI l4)]) rfl rfl hl.1 rfl (lv_room (Nat.le_of_ble_eq_true rfl)) (D_184 W_prog_7_method_2_code_32 22 rfl rfl rfl) ⟨Nat.le_of_ble_eq_true rfl, Nat.le_of_ble_eq_true rfl⟩) hS (fun q _ h => zAin X hS q h) (zAin X hS) (fun p17 u17 t17 H17 locs17 ht17 hv17 hw17 hB17 hz17 hk17 hS17 => ?_)
        have hZ17 := zBack X ht17 hB17
        subst hw17
        obtain ⟨g18, hf⟩ := gif hf
        refine z0eq (tgt := 71) hx hb g18 (D_153 W_prog_7_method_2_code_32 25 rfl rfl rfl) (by decide) (fun h19 => ?_) (fun h19 => ?_)
        · replace hf := gpos hf h19
          refine lv_aload_n hx hb (D_42 W_prog_7_method_2_code_64 7 rfl rfl) rfl (lv_at hl 3 rfl) ?_
          refine zaload_n hx hb (D_45 W_prog_7_method_2_code_64 8 rfl rfl) rfl (lv_at hl 1 rfl) ?_
          refine lv_iload_n hx hb (D_28 W_prog_7_method_2_code_64 9 rfl rfl) rfl (lv_at hl 2 rfl) ?_
          refine lv_iload hx hb (D_21 W_prog_7_method_2_code_64 10 rfl rfl) (lv_at hl 0 rfl) ?_
          refine W.eq (g2 := F0 m 76 ls [.int (iI l4), .int (iI l2), .ref (ad 4 l3 0), .ref (ad 5 l0 0)]) (by rw [zrf_pos (ad := ad) (t := 4) g10.1]; try rfl) ?_
          obtain ⟨r20, F20, B20, hc20, hf⟩ := gbind hf
          refine va_callv (va_runV (As := [.ref (ad 4 l3 0), .int (iI l2), .int (iI l4)]) (rest := []) ⟨hx, hb, hml, hown, hts⟩ (c_Performance_soundAll (l := l) hc20) (cwV 3 hts (gdV k_6_142 k_6_144 ks_76 k_1_20 k_6_145) rfl rfl rfl (by decide +kernel) ⟨Nat.le_of_ble_eq_true rfl, Nat.le_of_ble_eq_true rfl⟩) (zPV X hZ17 hS17 (ci := 5) g14.1 g14.2 (r := (RX5, TX5, 14)) rfl [.ref (ad 4 l3 0), .int (iI l2), .int (iI l4)]) rfl rfl hl.1 rfl (lv_room (Nat.le_of_ble_eq_true rfl)) (D_182 W_prog_7_method_2_code_64 12 rfl rfl rfl) ⟨Nat.le_of_ble_eq_true rfl, Nat.le_of_ble_eq_true rfl⟩) hS17 (fun q _ h => zAin X hS17 q h) (zAin X hS17) (fun u20 t20 H20 locs20 ht20 hv20 hw20 hB20 hz20 hk20 hS20 => ?_)
          have hZ20 := zBack X ht20 hB20
          exact b_Performance_gather_79 X hrec17 ih hf hZ20 hS20 (lv_sub hl [0, 1, 2, 3, 4] rfl)
        · replace hf := gneg hf h19
          refine lv_aload_n hx hb (D_42 W_prog_7_method_2_code_32 28 rfl rfl) rfl (lv_at hl 3 rfl) ?_
          refine lv_aload_n hx hb (D_43 W_prog_7_method_2_code_32 29 rfl rfl) rfl (lv_at hl 4 rfl) ?_
          refine lv_iload_n hx hb (D_28 W_prog_7_method_2_code_32 30 rfl rfl) rfl (lv_at hl 2 rfl) ?_
          refine lv_iload hx hb (D_21 W_prog_7_method_2_code_32 31 rfl rfl) (lv_at hl 0 rfl) ?_
          obtain ⟨r21, F21, B21, hc21, hf⟩ := gbind hf
          refine va_callv (va_runV (As := [.ref (ad 6 l1 0), .int (iI l2), .int (iI l4)]) (rest := []) ⟨hx, hb, hml, hown, hts⟩ (c_Performance_trill (l := l) hc21) (cwV 3 hts (gdV k_6_122 k_6_124 ks_74 k_1_20 k_6_125) rfl rfl rfl (by decide +kernel) ⟨Nat.le_of_ble_eq_true rfl, Nat.le_of_ble_eq_true rfl⟩) (zPV X hZ17 hS17 (ci := 5) g14.1 g14.2 (r := (RX5, TX5, 14)) rfl [.ref (ad 6 l1 0), .int (iI l2), .int (iI l4)]) rfl rfl hl.1 rfl (lv_room (Nat.le_of_ble_eq_true rfl)) (D_182 W_prog_7_method_2_code_64 1 rfl rfl rfl) ⟨Nat.le_of_ble_eq_true rfl, Nat.le_of_ble_eq_true rfl⟩) hS17 (fun q _ h => zAin X hS17 q h) (zAin X hS17) (fun u21 t21 H21 locs21 ht21 hv21 hw21 hB21 hz21 hk21 hS21 => ?_)
          have hZ21 := zBack X ht21 hB21
          refine lv_goto (tgt := 79) hx hb (D_167 W_prog_7_method_2_code_64 4 rfl rfl rfl) (by decide) ?_
          exact b_Performance_gather_79 X hrec17 ih hf hZ21 hS21 (lv_sub hl [0, 1, 2, 3, 4] rfl)

def f_Performance_gather_17 (K : zK) : Nat → Int → Int → Int → zF → zB → zO
  | 0, _, _, _, _, _ => none
  | n + 1, l2, l0, l1, F, B => if 0 ≤ l1 ∧ l1 < K.2 6 then if r32 l2 then if r32 (F 6 l1 1) then (if (F 6 l1 1) ≤ l2 then some (0, F, B) else if 0 ≤ l2 ∧ l2 < 4 then f_Performance_gather_35 (f_Performance_gather_17 K n) K K.1 0 (B 6 l1 0 l2) l2 l0 l1 F B else none) else none else none else none
set_option maxHeartbeats 4000000 in
set_option maxRecDepth 100000 in
theorem b_Performance_gather_17 {D : va_G} {ca : Nat → ClassId} {ad : Nat → Int → Nat → Nat} {L : List Nat} {aS vS : Nat → Nat} {A : Nat → Prop} {p : Program} {l : Launch} {e : Env} {s : State} {m : MethodId} {args : Array Value} {below : List Frame} {meth : Method} {c : Code} {K : zK} {r : Int} {F9 : zF} {B9 : zB} (X : zX D ca L aS vS A p s m args meth c prog_7_method_2_code 5 (Option.none : Option Jvm.ClassFile.FieldType) "StaveHouse$Performance") : ∀ {n : Nat} {l2 : Int} {l0 : Int} {l1 : Int} {F : zF} {B : zB} {H : Heap} {locs : List Loc} {ls : Array Slot}, f_Performance_gather_17 K n l2 l0 l1 F B = some (r, F9, B9) → zH D ca ad lnC K.2 L F B A H → va_S A s.heap H locs → lv_has ls 5 [(2, .int (iI l2)), (0, .ref (ad 5 l0 0)), (1, .ref (ad 6 l1 0))] → W p l e ({ frames := 4, cells := 0, slots := 0, locals := 97 } : Room) s m args below meth c H locs 0 0 (MQ below (Q_Performance_gather K D ca ad L r F9 B9 A) args s 0 0 A) (F0 m 17 ls []) := by
  obtain ⟨hx, hb, hr, hml, hown, hts, hlk, hK, hA, hL, hX⟩ := id X
  intro n
  induction n with
  | zero =>
    intros
    rename_i hf _ _ _
    cases hf
  | succ n ih =>
    intro l2 l0 l1 F B H locs ls hf hZ hS hl
    replace hf : (if 0 ≤ l1 ∧ l1 < K.2 6 then if r32 l2 then if r32 (F 6 l1 1) then (if (F 6 l1 1) ≤ l2 then some (0, F, B) else if 0 ≤ l2 ∧ l2 < 4 then f_Performance_gather_35 (f_Performance_gather_17 K n) K K.1 0 (B 6 l1 0 l2) l2 l0 l1 F B else none) else none else none else none) = some (r, F9, B9) := hf
    refine lv_iload_n hx hb (D_28 W_prog_7_method_2_code_0 17 rfl rfl) rfl (lv_at hl 0 rfl) ?_
    refine lv_aload_n hx hb (D_43 W_prog_7_method_2_code_0 18 rfl rfl) rfl (lv_at hl 2 rfl) ?_
    obtain ⟨g5, hf⟩ := gif hf
    refine zget (ci := 6) (C := RX6) (T := TX6) (v := .int (iI (F 6 l1 1))) (k := 1) hx hb hts inW_6 hown hK hZ g5.1 g5.2 rfl (by decide) k_2_191 rfl (D_180 W_prog_7_method_2_code_0 19 rfl rfl rfl) ?_
    obtain ⟨g6, hf⟩ := gif hf
    obtain ⟨g7, hf⟩ := gif hf
    refine zge (tgt := 91) hx hb g6 g7 (D_162 W_prog_7_method_2_code_0 22 rfl rfl rfl) (by decide) (fun h8 => ?_) (fun h8 => ?_)
    · replace hf := gpos hf h8
      cases hf
      exact W.vret hx hb hr (fun t ht hW => ⟨⟨(), rfl, trivial, by rw [ht]; exact hZ, va_K.moved hW.alike hK⟩, hS.F ht⟩) hS.2.2 (D_177 W_prog_7_method_2_code_64 27 rfl rfl) hlk
    · replace hf := gneg hf h8
      refine lv_aload_n hx hb (D_43 W_prog_7_method_2_code_0 25 rfl rfl) rfl (lv_at hl 2 rfl) ?_
      refine zget (ci := 6) (C := RX6) (T := TX6) (v := .ref (ad 6 l1 (0 + 1))) (k := 0) hx hb hts inW_6 hown hK hZ g5.1 g5.2 rfl (by decide) k_2_186 rfl (D_180 W_prog_7_method_2_code_0 26 rfl rfl rfl) ?_
      refine lv_iload_n hx hb (D_28 W_prog_7_method_2_code_0 29 rfl rfl) rfl (lv_at hl 0 rfl) ?_
      obtain ⟨g9, hf⟩ := gif hf
      refine zaldR (t := 4) (x := 6) (ci := 6) (k := 0) hx hb hK rfl rfl hZ g5.1 g5.2 rfl (Nat.le_of_ble_eq_true rfl) g9.1 g9.2 (D_50 W_prog_7_method_2_code_0 30 rfl rfl) ?_
      refine zastore_n (lv' := [(2, .int (iI l2)), (0, .ref (ad 5 l0 0)), (1, .ref (ad 6 l1 0))]) hx hb (D_78 W_prog_7_method_2_code_0 31 rfl rfl) rfl hl (by decide) (fun _ _ => rfl) (fun ls hl => ?_)
      refine lv_iconst (v := iI 0) hx hb (D_3 W_prog_7_method_2_code_32 0 rfl rfl) rfl ?_
      refine lv_istore (lv' := [(4, .int (iI 0)), (3, va_rf (zrf ad 4 (B 6 l1 0 l2))), (2, .int (iI l2)), (0, .ref (ad 5 l0 0)), (1, .ref (ad 6 l1 0))]) hx hb (D_54 W_prog_7_method_2_code_32 1 rfl rfl) hl (by decide) (by cases zrf ad 4 (B 6 l1 0 l2) <;> rfl) (fun ls hl => ?_)
      exact b_Performance_gather_35 X ih hf hZ hS (lv_sub hl [0, 1, 2, 3, 4] rfl)

def f_Performance_gather (K : zK) (l0 : Int) (l1 : Int) (F : zF) (B : zB) : zO := if 0 ≤ l0 ∧ l0 < K.2 5 then f_Performance_gather_17 K K.1 0 l0 l1 (zup3 (zup3 (zup3 F 5 l0 0 0) 5 l0 1 0) 5 l0 3 0) B else none
set_option maxHeartbeats 4000000 in
set_option maxRecDepth 100000 in
theorem c_Performance_gather {l : Launch} {D : va_G} {ca : Nat → ClassId} {ad : Nat → Int → Nat → Nat} {L : List Nat} {aS vS : Nat → Nat} {sz : Nat} {K : zK}  {l0 : Int} {l1 : Int} {F F9 : zF} {B B9 : zB} {r : Int} (hf : f_Performance_gather K l0 l1 F B = some (r, F9, B9)) : Met l ({ cls := "StaveHouse$Performance", name := "gather", desc := "(LStaveHouse$Piece;)V" } : Jvm.MethodName) (Cond.code ({ cls := "StaveHouse$Performance", name := "gather", desc := "(LStaveHouse$Piece;)V" } : Jvm.MethodName) prog_7_method_2_code 5 (Option.none : Option Jvm.ClassFile.FieldType) :: wAll) ({ frames := 4, cells := 0, slots := 0, locals := 97 } : Room) (va_Pc [.ref (ad 5 l0 0), .ref (ad 6 l1 0)] (zPre D ca ad lnC K.2 L aS vS F B sz)) (Q_Performance_gather K D ca ad L r F9 B9 (zA L sz)) 0 0 (zA L sz) := by
  refine zMet (Qc := Q_Performance_gather K D ca ad L r F9 B9) (lv := [(0, .ref (ad 5 l0 0)), (1, .ref (ad 6 l1 0))]) (by decide) (Nat.le_of_ble_eq_true rfl) rfl (fun A p e s m below meth c ls X hZ hS hl => ?_)
  obtain ⟨hx, hb, hr, hml, hown, hts, hlk, hK, hA, hL, hX⟩ := id X
  replace hf : (if 0 ≤ l0 ∧ l0 < K.2 5 then f_Performance_gather_17 K K.1 0 l0 l1 (zup3 (zup3 (zup3 F 5 l0 0 0) 5 l0 1 0) 5 l0 3 0) B else none) = some (r, F9, B9) := hf
  refine lv_aload_n hx hb (D_42 W_prog_7_method_2_code_0 0 rfl rfl) rfl (lv_at hl 0 rfl) ?_
  refine lv_iconst (v := iI 0) hx hb (D_3 W_prog_7_method_2_code_0 1 rfl rfl) rfl ?_
  obtain ⟨g1, hf⟩ := gif hf
  refine zput (ci := 5) (C := RX5) (T := TX5) (k := 0) (v := 0) (w := .int (iI 0)) hx hb hts inW_5 tyX5 tyX5_ok nmX5 hown hK hZ hS g1.1 g1.2 rfl (by decide) k_6_63 rfl (fun G h => congrArg (fun q => Value.int (iI q)) h) rfl rfl (zno (by decide)) (D_181 W_prog_7_method_2_code_0 2 rfl rfl rfl) (fun H2 locs2 hZ2 hS2 => ?_)
  refine lv_aload_n hx hb (D_42 W_prog_7_method_2_code_0 5 rfl rfl) rfl (lv_at hl 0 rfl) ?_
  refine lv_iconst (v := iI 0) hx hb (D_3 W_prog_7_method_2_code_0 6 rfl rfl) rfl ?_
  refine zput (ci := 5) (C := RX5) (T := TX5) (k := 1) (v := 0) (w := .int (iI 0)) hx hb hts inW_5 tyX5 tyX5_ok nmX5 hown hK hZ2 hS2 g1.1 g1.2 rfl (by decide) k_6_65 rfl (fun G h => congrArg (fun q => Value.int (iI q)) h) rfl rfl (zno (by decide)) (D_181 W_prog_7_method_2_code_0 7 rfl rfl rfl) (fun H3 locs3 hZ3 hS3 => ?_)
  refine lv_aload_n hx hb (D_42 W_prog_7_method_2_code_0 10 rfl rfl) rfl (lv_at hl 0 rfl) ?_
  refine lv_iconst (v := iI 0) hx hb (D_3 W_prog_7_method_2_code_0 11 rfl rfl) rfl ?_
  refine zput (ci := 5) (C := RX5) (T := TX5) (k := 3) (v := 0) (w := .int (iI 0)) hx hb hts inW_5 tyX5 tyX5_ok nmX5 hown hK hZ3 hS3 g1.1 g1.2 rfl (by decide) k_6_69 rfl (fun G h => congrArg (fun q => Value.int (iI q)) h) rfl rfl (zno (by decide)) (D_181 W_prog_7_method_2_code_0 12 rfl rfl rfl) (fun H4 locs4 hZ4 hS4 => ?_)
  refine lv_iconst (v := iI 0) hx hb (D_3 W_prog_7_method_2_code_0 15 rfl rfl) rfl ?_
  refine lv_istore_n (lv' := [(2, .int (iI 0)), (0, .ref (ad 5 l0 0)), (1, .ref (ad 6 l1 0))]) hx hb (D_61 W_prog_7_method_2_code_0 16 rfl rfl) rfl hl (by decide) rfl (fun ls hl => ?_)
  exact b_Performance_gather_17 X hf hZ4 hS4 (lv_sub hl [0, 1, 2] rfl)

abbrev Q_Layout_setColumns (K : zK) (D : va_G) (ca : Nat → ClassId) (ad : Nat → Int → Nat → Nat) (L : List Nat) (r : Int) (F : zF) (B : zB) (A : Nat → Prop) : Array Value → State → Outcome → State → Prop := va_Qv (S := Unit) (fun _ => True) (fun _ => zPo D ca ad lnC K.2 L F B A) A
def f_Layout_setColumns_108 (rec27 : Int → Int → Int → Int → zF → zB → zO) (K : zK) : Nat → Int → Int → Int → Int → Int → zF → zB → zO
  | 0, _, _, _, _, _, _, _ => none
  | n + 1, l4, l3, l0, l1, l2, F, B => if 0 ≤ l0 ∧ l0 < K.2 2 then if r32 l4 then if r32 (F 2 l0 4) then (if (F 2 l0 4) ≤ l4 then rec27 (l3 + 1) l0 l1 l2 F B else if 0 ≤ l3 ∧ l3 < 100 then if 0 ≤ l4 ∧ l4 < 3200 then f_Layout_setColumns_108 rec27 K n (l4 + 1) l3 l0 l1 l2 F (zup4 B 2 l0 6 l3 ((B 2 l0 6 l3) + (B 2 l0 2 l4))) else none else none) else none else none else none
set_option maxHeartbeats 4000000 in
set_option maxRecDepth 100000 in
theorem b_Layout_setColumns_108 {D : va_G} {ca : Nat → ClassId} {ad : Nat → Int → Nat → Nat} {L : List Nat} {aS vS : Nat → Nat} {A : Nat → Prop} {p : Program} {l : Launch} {e : Env} {s : State} {m : MethodId} {args : Array Value} {below : List Frame} {meth : Method} {c : Code} {K : zK} {r : Int} {F9 : zF} {B9 : zB} (X : zX D ca L aS vS A p s m args meth c prog_4_method_3_code 5 (Option.none : Option Jvm.ClassFile.FieldType) "StaveHouse$Layout") {rec27 : Int → Int → Int → Int → zF → zB → zO} (hrec27 : ∀ {l3 : Int} {l0 : Int} {l1 : Int} {l2 : Int} {F : zF} {B : zB} {H : Heap} {locs : List Loc} {ls : Array Slot}, rec27 l3 l0 l1 l2 F B = some (r, F9, B9) → zH D ca ad lnC K.2 L F B A H → va_S A s.heap H locs → lv_has ls 5 [(3, .int (iI l3)), (0, .ref (ad 2 l0 0)), (1, .ref (ad 6 l1 0)), (2, .int (iI l2))] → W p l e ({ frames := 3, cells := 0, slots := 0, locals := 77 } : Room) s m args below meth c H locs 0 0 (MQ below (Q_Layout_setColumns K D ca ad L r F9 B9 A) args s 0 0 A) (F0 m 27 ls [])) : ∀ {n : Nat} {l4 : Int} {l3 : Int} {l0 : Int} {l1 : Int} {l2 : Int} {F : zF} {B : zB} {H : Heap} {locs : List Loc} {ls : Array Slot}, f_Layout_setColumns_108 rec27 K n l4 l3 l0 l1 l2 F B = some (r, F9, B9) → zH D ca ad lnC K.2 L F B A H → va_S A s.heap H locs → lv_has ls 5 [(4, .int (iI l4)), (3, .int (iI l3)), (0, .ref (ad 2 l0 0)), (1, .ref (ad 6 l1 0)), (2, .int (iI l2))] → W p l e ({ frames := 3, cells := 0, slots := 0, locals := 77 } : Room) s m args below meth c H locs 0 0 (MQ below (Q_Layout_setColumns K D ca ad L r F9 B9 A) args s 0 0 A) (F0 m 108 ls []) := by
  obtain ⟨hx, hb, hr, hml, hown, hts, hlk, hK, hA, hL, hX⟩ := id X
  intro n
  induction n with
  | zero =>
    intros
    rename_i hf _ _ _
    cases hf
  | succ n ih =>
    intro l4 l3 l0 l1 l2 F B H locs ls hf hZ hS hl
    replace hf : (if 0 ≤ l0 ∧ l0 < K.2 2 then if r32 l4 then if r32 (F 2 l0 4) then (if (F 2 l0 4) ≤ l4 then rec27 (l3 + 1) l0 l1 l2 F B else if 0 ≤ l3 ∧ l3 < 100 then if 0 ≤ l4 ∧ l4 < 3200 then f_Layout_setColumns_108 rec27 K n (l4 + 1) l3 l0 l1 l2 F (zup4 B 2 l0 6 l3 ((B 2 l0 6 l3) + (B 2 l0 2 l4))) else none else none) else none else none else none) = some (r, F9, B9) := hf
    refine lv_iload hx hb (D_21 W_prog_4_method_3_code_96 12 rfl rfl) (lv_at hl 0 rfl) ?_
    refine lv_aload_n hx hb (D_42 W_prog_4_method_3_code_96 14 rfl rfl) rfl (lv_at hl 2 rfl) ?_
    obtain ⟨g31, hf⟩ := gif hf
    refine zget (ci := 2) (C := RX2) (T := TX2) (v := .int (iI (F 2 l0 4))) (k := 4) hx hb hts inW_2 hown hK hZ g31.1 g31.2 rfl (by decide) k_6_221 rfl (D_180 W_prog_4_method_3_code_96 15 rfl rfl rfl) ?_
    obtain ⟨g33, hf⟩ := gif hf
    obtain ⟨g34, hf⟩ := gif hf
    refine zge (tgt := 139) hx hb g33 g34 (D_162 W_prog_4_method_3_code_96 18 rfl rfl rfl) (by decide) (fun h35 => ?_) (fun h35 => ?_)
    · replace hf := gpos hf h35
      refine lv_iinc (v := iI (l3 + 1)) (lv' := [(3, .int (iI (l3 + 1))), (4, .int (iI l4)), (0, .ref (ad 2 l0 0)), (1, .ref (ad 6 l1 0)), (2, .int (iI l2))]) hx hb d_4_3_139 hl (k := 1) rfl (iI_add _ 1) (by decide) rfl (fun ls hl => ?_)
      refine lv_goto (tgt := 27) hx hb (D_167 W_prog_4_method_3_code_128 14 rfl rfl rfl) (by decide) ?_
      exact hrec27 hf hZ hS (lv_sub hl [0, 2, 3, 4] rfl)
    · replace hf := gneg hf h35
      refine lv_aload_n hx hb (D_42 W_prog_4_method_3_code_96 21 rfl rfl) rfl (lv_at hl 2 rfl) ?_
      refine zget (ci := 2) (C := RX2) (T := TX2) (v := .ref (ad 2 l0 (6 + 1))) (k := 6) hx hb hts inW_2 hown hK hZ g31.1 g31.2 rfl (by decide) k_6_223 rfl (D_180 W_prog_4_method_3_code_96 22 rfl rfl rfl) ?_
      refine lv_iload_n hx hb (D_29 W_prog_4_method_3_code_96 25 rfl rfl) rfl (lv_at hl 1 rfl) ?_
      refine lv_dup2_11 hx hb (D_92 W_prog_4_method_3_code_96 26 rfl rfl) rfl rfl ?_
      obtain ⟨g36, hf⟩ := gif hf
      refine zald (ci := 2) (k := 6) hx hb hK rfl hZ g31.1 g31.2 rfl (Nat.le_of_ble_eq_true rfl) g36.1 g36.2 (D_46 W_prog_4_method_3_code_96 27 rfl rfl) ?_
      refine lv_aload_n hx hb (D_42 W_prog_4_method_3_code_96 28 rfl rfl) rfl (lv_at hl 2 rfl) ?_
      refine zget (ci := 2) (C := RX2) (T := TX2) (v := .ref (ad 2 l0 (2 + 1))) (k := 2) hx hb hts inW_2 hown hK hZ g31.1 g31.2 rfl (by decide) k_6_219 rfl (D_180 W_prog_4_method_3_code_96 29 rfl rfl rfl) ?_
      refine lv_iload hx hb (D_21 W_prog_4_method_3_code_128 0 rfl rfl) (lv_at hl 0 rfl) ?_
      obtain ⟨g37, hf⟩ := gif hf
      refine zald (ci := 2) (k := 2) hx hb hK rfl hZ g31.1 g31.2 rfl (Nat.le_of_ble_eq_true rfl) g37.1 g37.2 (D_46 W_prog_4_method_3_code_128 2 rfl rfl) ?_
      refine zadd hx hb (D_96 W_prog_4_method_3_code_128 3 rfl rfl) ?_
      refine zast (ci := 2) (k := 6) hx hb hK rfl hZ hS g31.1 g31.2 rfl (Nat.le_of_ble_eq_true rfl) g36.1 g36.2 (D_79 W_prog_4_method_3_code_128 4 rfl rfl) (fun H38 locs38 hZ38 hS38 => ?_)
      refine lv_iinc (v := iI (l4 + 1)) (lv' := [(4, .int (iI (l4 + 1))), (3, .int (iI l3)), (0, .ref (ad 2 l0 0)), (1, .ref (ad 6 l1 0)), (2, .int (iI l2))]) hx hb d_4_3_133 hl (k := 0) rfl (iI_add _ 1) (by decide) rfl (fun ls hl => ?_)
      refine lv_goto (tgt := 108) hx hb (D_167 W_prog_4_method_3_code_128 8 rfl rfl rfl) (by decide) ?_
      exact ih hf hZ38 hS38 (lv_sub hl [0, 1, 2, 3, 4] rfl)

def f_Layout_setColumns_78 (rec27 : Int → Int → Int → Int → zF → zB → zO) (K : zK) (l3 : Int) (l0 : Int) (l1 : Int) (l2 : Int) (F : zF) (B : zB) : zO := if 0 ≤ l0 ∧ l0 < K.2 2 then if 0 ≤ l3 ∧ l3 < 101 then if 0 ≤ l1 ∧ l1 < K.2 6 then zbind (f_Piece_barLength K l1 F B) (fun r27 F27 B27 => zbind (f_Layout_widen K l0 (B 2 l0 5 l3) r27 F27 B27) (fun r28 F28 B28 => if 0 ≤ l3 ∧ l3 < 100 then f_Layout_setColumns_108 rec27 K K.1 ((zup4 B28 2 l0 6 l3 6) 2 l0 5 l3) l3 l0 l1 l2 F28 (zup4 B28 2 l0 6 l3 6) else none)) else none else none else none
set_option maxHeartbeats 4000000 in
set_option maxRecDepth 100000 in
theorem b_Layout_setColumns_78 {D : va_G} {ca : Nat → ClassId} {ad : Nat → Int → Nat → Nat} {L : List Nat} {aS vS : Nat → Nat} {A : Nat → Prop} {p : Program} {l : Launch} {e : Env} {s : State} {m : MethodId} {args : Array Value} {below : List Frame} {meth : Method} {c : Code} {K : zK} {r : Int} {F9 : zF} {B9 : zB} (X : zX D ca L aS vS A p s m args meth c prog_4_method_3_code 5 (Option.none : Option Jvm.ClassFile.FieldType) "StaveHouse$Layout") {rec27 : Int → Int → Int → Int → zF → zB → zO} (hrec27 : ∀ {l3 : Int} {l0 : Int} {l1 : Int} {l2 : Int} {F : zF} {B : zB} {H : Heap} {locs : List Loc} {ls : Array Slot}, rec27 l3 l0 l1 l2 F B = some (r, F9, B9) → zH D ca ad lnC K.2 L F B A H → va_S A s.heap H locs → lv_has ls 5 [(3, .int (iI l3)), (0, .ref (ad 2 l0 0)), (1, .ref (ad 6 l1 0)), (2, .int (iI l2))] → W p l e ({ frames := 3, cells := 0, slots := 0, locals := 77 } : Room) s m args below meth c H locs 0 0 (MQ below (Q_Layout_setColumns K D ca ad L r F9 B9 A) args s 0 0 A) (F0 m 27 ls [])) {l3 : Int} {l0 : Int} {l1 : Int} {l2 : Int} {F : zF} {B : zB} {H : Heap} {locs : List Loc} {ls : Array Slot} (hf : f_Layout_setColumns_78 rec27 K l3 l0 l1 l2 F B = some (r, F9, B9)) (hZ : zH D ca ad lnC K.2 L F B A H) (hS : va_S A s.heap H locs) (hl : lv_has ls 5 [(3, .int (iI l3)), (0, .ref (ad 2 l0 0)), (1, .ref (ad 6 l1 0)), (2, .int (iI l2))]) : W p l e ({ frames := 3, cells := 0, slots := 0, locals := 77 } : Room) s m args below meth c H locs 0 0 (MQ below (Q_Layout_setColumns K D ca ad L r F9 B9 A) args s 0 0 A) (F0 m 78 ls []) := by
  obtain ⟨hx, hb, hr, hml, hown, hts, hlk, hK, hA, hL, hX⟩ := id X
  replace hf : (if 0 ≤ l0 ∧ l0 < K.2 2 then if 0 ≤ l3 ∧ l3 < 101 then if 0 ≤ l1 ∧ l1 < K.2 6 then zbind (f_Piece_barLength K l1 F B) (fun r27 F27 B27 => zbind (f_Layout_widen K l0 (B 2 l0 5 l3) r27 F27 B27) (fun r28 F28 B28 => if 0 ≤ l3 ∧ l3 < 100 then f_Layout_setColumns_108 rec27 K K.1 ((zup4 B28 2 l0 6 l3 6) 2 l0 5 l3) l3 l0 l1 l2 F28 (zup4 B28 2 l0 6 l3 6) else none)) else none else none else none) = some (r, F9, B9) := hf
  refine lv_aload_n hx hb (D_42 W_prog_4_method_3_code_64 14 rfl rfl) rfl (lv_at hl 1 rfl) ?_
  refine lv_aload_n hx hb (D_42 W_prog_4_method_3_code_64 15 rfl rfl) rfl (lv_at hl 1 rfl) ?_
  obtain ⟨g24, hf⟩ := gif hf
  refine zget (ci := 2) (C := RX2) (T := TX2) (v := .ref (ad 2 l0 (5 + 1))) (k := 5) hx hb hts inW_2 hown hK hZ g24.1 g24.2 rfl (by decide) k_6_222 rfl (D_180 W_prog_4_method_3_code_64 16 rfl rfl rfl) ?_
  refine lv_iload_n hx hb (D_29 W_prog_4_method_3_code_64 19 rfl rfl) rfl (lv_at hl 0 rfl) ?_
  obtain ⟨g25, hf⟩ := gif hf
  refine zald (ci := 2) (k := 5) hx hb hK rfl hZ g24.1 g24.2 rfl (Nat.le_of_ble_eq_true rfl) g25.1 g25.2 (D_46 W_prog_4_method_3_code_64 20 rfl rfl) ?_
  refine lv_aload_n hx hb (D_43 W_prog_4_method_3_code_64 21 rfl rfl) rfl (lv_at hl 2 rfl) ?_
  obtain ⟨g26, hf⟩ := gif hf
  obtain ⟨r27, F27, B27, hc27, hf⟩ := gbind hf
  refine va_calll (va_runV (As := []) (rest := [.int (iI (B 2 l0 5 l3)), .ref (ad 2 l0 0)]) ⟨hx, hb, hml, hown, hts⟩ (c_Piece_barLength (l := l) hc27) (cwV 0 hts (gdV k_7_39 k_4_190 k_4_191 k_1_15 k_4_192) rfl rfl rfl (by decide +kernel) ⟨Nat.le_of_ble_eq_true rfl, Nat.le_of_ble_eq_true rfl⟩) (zPV X hZ hS (ci := 6) g26.1 g26.2 (r := (RX6, TX6, 14)) rfl []) rfl rfl hl.1 rfl (lv_room (Nat.le_of_ble_eq_true rfl)) (D_182 W_prog_4_method_3_code_64 22 rfl rfl rfl) ⟨Nat.le_of_ble_eq_true rfl, Nat.le_of_ble_eq_true rfl⟩) hS (fun q _ h => zAin X hS q h) (zAin X hS) (fun p27 u27 t27 H27 locs27 ht27 hv27 hw27 hB27 hz27 hk27 hS27 => ?_)
  have hZ27 := zBack X ht27 hB27
  subst hw27
  obtain ⟨r28, F28, B28, hc28, hf⟩ := gbind hf
  refine va_callv (va_runV (As := [.int (iI (B 2 l0 5 l3)), .long (lI r27)]) (rest := []) ⟨hx, hb, hml, hown, hts⟩ (c_Layout_widen (l := l) hc28) (cwV 2 hts (gdV k_7_40 k_7_42 ks_82 k_1_21 k_7_43) rfl rfl rfl (by decide +kernel) ⟨Nat.le_of_ble_eq_true rfl, Nat.le_of_ble_eq_true rfl⟩) (zPV X hZ27 hS27 (ci := 2) g24.1 g24.2 (r := (RX2, TX2, 13)) rfl [.int (iI (B 2 l0 5 l3)), .long (lI r27)]) rfl rfl hl.1 rfl (lv_room (Nat.le_of_ble_eq_true rfl)) (D_182 W_prog_4_method_3_code_64 25 rfl rfl rfl) ⟨Nat.le_of_ble_eq_true rfl, Nat.le_of_ble_eq_true rfl⟩) hS27 (fun q _ h => zAin X hS27 q h) (zAin X hS27) (fun u28 t28 H28 locs28 ht28 hv28 hw28 hB28 hz28 hk28 hS28 => ?_)
  have hZ28 := zBack X ht28 hB28
  refine lv_aload_n hx hb (D_42 W_prog_4_method_3_code_64 28 rfl rfl) rfl (lv_at hl 1 rfl) ?_
  refine zget (ci := 2) (C := RX2) (T := TX2) (v := .ref (ad 2 l0 (6 + 1))) (k := 6) hx hb hts inW_2 hown hK hZ28 g24.1 g24.2 rfl (by decide) k_6_223 rfl (D_180 W_prog_4_method_3_code_64 29 rfl rfl rfl) ?_
  refine lv_iload_n hx hb (D_29 W_prog_4_method_3_code_96 0 rfl rfl) rfl (lv_at hl 0 rfl) ?_
  refine lv_bipush (v := iI 6) hx hb (D_16 W_prog_4_method_3_code_96 1 rfl rfl rfl) (by decide) ?_
  obtain ⟨g29, hf⟩ := gif hf
  refine zast (ci := 2) (k := 6) hx hb hK rfl hZ28 hS28 g24.1 g24.2 rfl (Nat.le_of_ble_eq_true rfl) g29.1 g29.2 (D_79 W_prog_4_method_3_code_96 3 rfl rfl) (fun H30 locs30 hZ30 hS30 => ?_)
  refine lv_aload_n hx hb (D_42 W_prog_4_method_3_code_96 4 rfl rfl) rfl (lv_at hl 1 rfl) ?_
  refine zget (ci := 2) (C := RX2) (T := TX2) (v := .ref (ad 2 l0 (5 + 1))) (k := 5) hx hb hts inW_2 hown hK hZ30 g24.1 g24.2 rfl (by decide) k_6_222 rfl (D_180 W_prog_4_method_3_code_96 5 rfl rfl rfl) ?_
  refine lv_iload_n hx hb (D_29 W_prog_4_method_3_code_96 8 rfl rfl) rfl (lv_at hl 0 rfl) ?_
  refine zald (ci := 2) (k := 5) hx hb hK rfl hZ30 g24.1 g24.2 rfl (Nat.le_of_ble_eq_true rfl) g25.1 g25.2 (D_46 W_prog_4_method_3_code_96 9 rfl rfl) ?_
  refine lv_istore (lv' := [(4, .int (iI ((zup4 B28 2 l0 6 l3 6) 2 l0 5 l3))), (3, .int (iI l3)), (0, .ref (ad 2 l0 0)), (1, .ref (ad 6 l1 0)), (2, .int (iI l2))]) hx hb (D_54 W_prog_4_method_3_code_96 10 rfl rfl) hl (by decide) rfl (fun ls hl => ?_)
  exact b_Layout_setColumns_108 X hrec27 hf hZ30 hS30 (lv_sub hl [0, 1, 2, 3, 4] rfl)

def f_Layout_setColumns_45 (rec27 : Int → Int → Int → Int → zF → zB → zO) (K : zK) : Nat → Int → Int → Int → Int → Int → zF → zB → zO
  | 0, _, _, _, _, _, _, _ => none
  | n + 1, l4, l3, l0, l1, l2, F, B => if r32 l4 then (if 3200 ≤ l4 then f_Layout_setColumns_78 rec27 K l3 l0 l1 l2 F B else if 0 ≤ l0 ∧ l0 < K.2 2 then zbind (f_Layout_addColumn K l0 l1 l3 F B) (fun r20 F20 B20 => if r32 r20 then (if r20 = 0 then f_Layout_setColumns_78 rec27 K l3 l0 l1 l2 F20 B20 else f_Layout_setColumns_45 rec27 K n (l4 + 1) l3 l0 l1 l2 (zup3 F20 2 l0 4 ((F20 2 l0 4) + 1)) B20) else none) else none) else none
set_option maxHeartbeats 4000000 in
set_option maxRecDepth 100000 in
theorem b_Layout_setColumns_45 {D : va_G} {ca : Nat → ClassId} {ad : Nat → Int → Nat → Nat} {L : List Nat} {aS vS : Nat → Nat} {A : Nat → Prop} {p : Program} {l : Launch} {e : Env} {s : State} {m : MethodId} {args : Array Value} {below : List Frame} {meth : Method} {c : Code} {K : zK} {r : Int} {F9 : zF} {B9 : zB} (X : zX D ca L aS vS A p s m args meth c prog_4_method_3_code 5 (Option.none : Option Jvm.ClassFile.FieldType) "StaveHouse$Layout") {rec27 : Int → Int → Int → Int → zF → zB → zO} (hrec27 : ∀ {l3 : Int} {l0 : Int} {l1 : Int} {l2 : Int} {F : zF} {B : zB} {H : Heap} {locs : List Loc} {ls : Array Slot}, rec27 l3 l0 l1 l2 F B = some (r, F9, B9) → zH D ca ad lnC K.2 L F B A H → va_S A s.heap H locs → lv_has ls 5 [(3, .int (iI l3)), (0, .ref (ad 2 l0 0)), (1, .ref (ad 6 l1 0)), (2, .int (iI l2))] → W p l e ({ frames := 3, cells := 0, slots := 0, locals := 77 } : Room) s m args below meth c H locs 0 0 (MQ below (Q_Layout_setColumns K D ca ad L r F9 B9 A) args s 0 0 A) (F0 m 27 ls [])) : ∀ {n : Nat} {l4 : Int} {l3 : Int} {l0 : Int} {l1 : Int} {l2 : Int} {F : zF} {B : zB} {H : Heap} {locs : List Loc} {ls : Array Slot}, f_Layout_setColumns_45 rec27 K n l4 l3 l0 l1 l2 F B = some (r, F9, B9) → zH D ca ad lnC K.2 L F B A H → va_S A s.heap H locs → lv_has ls 5 [(4, .int (iI l4)), (3, .int (iI l3)), (0, .ref (ad 2 l0 0)), (1, .ref (ad 6 l1 0)), (2, .int (iI l2))] → W p l e ({ frames := 3, cells := 0, slots := 0, locals := 77 } : Room) s m args below meth c H locs 0 0 (MQ below (Q_Layout_setColumns K D ca ad L r F9 B9 A) args s 0 0 A) (F0 m 45 ls []) := by
  obtain ⟨hx, hb, hr, hml, hown, hts, hlk, hK, hA, hL, hX⟩ := id X
  intro n
  induction n with
  | zero =>
    intros
    rename_i hf _ _ _
    cases hf
  | succ n ih =>
    intro l4 l3 l0 l1 l2 F B H locs ls hf hZ hS hl
    replace hf : (if r32 l4 then (if 3200 ≤ l4 then f_Layout_setColumns_78 rec27 K l3 l0 l1 l2 F B else if 0 ≤ l0 ∧ l0 < K.2 2 then zbind (f_Layout_addColumn K l0 l1 l3 F B) (fun r20 F20 B20 => if r32 r20 then (if r20 = 0 then f_Layout_setColumns_78 rec27 K l3 l0 l1 l2 F20 B20 else f_Layout_setColumns_45 rec27 K n (l4 + 1) l3 l0 l1 l2 (zup3 F20 2 l0 4 ((F20 2 l0 4) + 1)) B20) else none) else none) else none) = some (r, F9, B9) := hf
    refine lv_iload hx hb (D_21 W_prog_4_method_3_code_32 13 rfl rfl) (lv_at hl 0 rfl) ?_
    refine lv_sipush (v := iI 3200) hx hb (D_17 W_prog_4_method_3_code_32 15 rfl rfl rfl) (by decide) ?_
    obtain ⟨g17, hf⟩ := gif hf
    refine zge (tgt := 78) hx hb g17 (by decide) (D_162 W_prog_4_method_3_code_32 18 rfl rfl rfl) (by decide) (fun h18 => ?_) (fun h18 => ?_)
    · replace hf := gpos hf h18
      exact b_Layout_setColumns_78 X hrec27 hf hZ hS (lv_sub hl [1, 2, 3, 4] rfl)
    · replace hf := gneg hf h18
      refine lv_aload_n hx hb (D_42 W_prog_4_method_3_code_32 21 rfl rfl) rfl (lv_at hl 2 rfl) ?_
      refine lv_aload_n hx hb (D_43 W_prog_4_method_3_code_32 22 rfl rfl) rfl (lv_at hl 3 rfl) ?_
      refine lv_iload_n hx hb (D_29 W_prog_4_method_3_code_32 23 rfl rfl) rfl (lv_at hl 1 rfl) ?_
      obtain ⟨g19, hf⟩ := gif hf
      obtain ⟨r20, F20, B20, hc20, hf⟩ := gbind hf
      refine va_calli (va_runV (As := [.ref (ad 6 l1 0), .int (iI l3)]) (rest := []) ⟨hx, hb, hml, hown, hts⟩ (c_Layout_addColumn (l := l) hc20) (cwV 2 hts (gdV k_7_26 k_7_28 ks_80 k_1_21 k_7_29) rfl rfl rfl (by decide +kernel) ⟨Nat.le_of_ble_eq_true rfl, Nat.le_of_ble_eq_true rfl⟩) (zPV X hZ hS (ci := 2) g19.1 g19.2 (r := (RX2, TX2, 13)) rfl [.ref (ad 6 l1 0), .int (iI l3)]) rfl rfl hl.1 rfl (lv_room (Nat.le_of_ble_eq_true rfl)) (D_182 W_prog_4_method_3_code_32 24 rfl rfl rfl) ⟨Nat.le_of_ble_eq_true rfl, Nat.le_of_ble_eq_true rfl⟩) hS (fun q _ h => zAin X hS q h) (zAin X hS) (fun p20 u20 t20 H20 locs20 ht20 hv20 hw20 hB20 hz20 hk20 hS20 => ?_)
      have hZ20 := zBack X ht20 hB20
      subst hw20
      obtain ⟨g21, hf⟩ := gif hf
      refine z0eq (tgt := 78) hx hb g21 (D_153 W_prog_4_method_3_code_32 27 rfl rfl rfl) (by decide) (fun h22 => ?_) (fun h22 => ?_)
      · replace hf := gpos hf h22
        exact b_Layout_setColumns_78 X hrec27 hf hZ20 hS20 (lv_sub hl [1, 2, 3, 4] rfl)
      · replace hf := gneg hf h22
        refine lv_aload_n hx hb (D_42 W_prog_4_method_3_code_32 30 rfl rfl) rfl (lv_at hl 2 rfl) ?_
        refine lv_dup hx hb (D_89 W_prog_4_method_3_code_32 31 rfl rfl) rfl ?_
        refine zget (ci := 2) (C := RX2) (T := TX2) (v := .int (iI (F20 2 l0 4))) (k := 4) hx hb hts inW_2 hown hK hZ20 g19.1 g19.2 rfl (by decide) k_6_221 rfl (D_180 W_prog_4_method_3_code_64 0 rfl rfl rfl) ?_
        refine lv_iconst (v := iI 1) hx hb (D_4 W_prog_4_method_3_code_64 3 rfl rfl) rfl ?_
        refine zadd hx hb (D_96 W_prog_4_method_3_code_64 4 rfl rfl) ?_
        refine zput (ci := 2) (C := RX2) (T := TX2) (k := 4) (v := ((F20 2 l0 4) + 1)) (w := .int (iI ((F20 2 l0 4) + 1))) hx hb hts inW_2 tyX2 tyX2_ok nmX2 hown hK hZ20 hS20 g19.1 g19.2 rfl (by decide) k_6_221 rfl (fun G h => congrArg (fun q => Value.int (iI q)) h) rfl rfl (zno (by decide)) (D_181 W_prog_4_method_3_code_64 5 rfl rfl rfl) (fun H23 locs23 hZ23 hS23 => ?_)
        refine lv_iinc (v := iI (l4 + 1)) (lv' := [(4, .int (iI (l4 + 1))), (3, .int (iI l3)), (0, .ref (ad 2 l0 0)), (1, .ref (ad 6 l1 0)), (2, .int (iI l2))]) hx hb d_4_3_72 hl (k := 0) rfl (iI_add _ 1) (by decide) rfl (fun ls hl => ?_)
        refine lv_goto (tgt := 45) hx hb (D_167 W_prog_4_method_3_code_64 11 rfl rfl rfl) (by decide) ?_
        exact ih hf hZ23 hS23 (lv_sub hl [0, 1, 2, 3, 4] rfl)

def f_Layout_setColumns_27 (K : zK) : Nat → Int → Int → Int → Int → zF → zB → zO
  | 0, _, _, _, _, _, _ => none
  | n + 1, l3, l0, l1, l2, F, B => if r32 l3 then if r32 l2 then (if l2 ≤ l3 then if 0 ≤ l0 ∧ l0 < K.2 2 then if 0 ≤ l2 ∧ l2 < 101 then some (0, F, (zup4 B 2 l0 5 l2 (F 2 l0 4))) else none else none else if 0 ≤ l0 ∧ l0 < K.2 2 then if 0 ≤ l3 ∧ l3 < 101 then f_Layout_setColumns_45 (f_Layout_setColumns_27 K n) K K.1 0 l3 l0 l1 l2 F (zup4 B 2 l0 5 l3 (F 2 l0 4)) else none else none) else none else none
set_option maxHeartbeats 4000000 in
set_option maxRecDepth 100000 in
theorem b_Layout_setColumns_27 {D : va_G} {ca : Nat → ClassId} {ad : Nat → Int → Nat → Nat} {L : List Nat} {aS vS : Nat → Nat} {A : Nat → Prop} {p : Program} {l : Launch} {e : Env} {s : State} {m : MethodId} {args : Array Value} {below : List Frame} {meth : Method} {c : Code} {K : zK} {r : Int} {F9 : zF} {B9 : zB} (X : zX D ca L aS vS A p s m args meth c prog_4_method_3_code 5 (Option.none : Option Jvm.ClassFile.FieldType) "StaveHouse$Layout") : ∀ {n : Nat} {l3 : Int} {l0 : Int} {l1 : Int} {l2 : Int} {F : zF} {B : zB} {H : Heap} {locs : List Loc} {ls : Array Slot}, f_Layout_setColumns_27 K n l3 l0 l1 l2 F B = some (r, F9, B9) → zH D ca ad lnC K.2 L F B A H → va_S A s.heap H locs → lv_has ls 5 [(3, .int (iI l3)), (0, .ref (ad 2 l0 0)), (1, .ref (ad 6 l1 0)), (2, .int (iI l2))] → W p l e ({ frames := 3, cells := 0, slots := 0, locals := 77 } : Room) s m args below meth c H locs 0 0 (MQ below (Q_Layout_setColumns K D ca ad L r F9 B9 A) args s 0 0 A) (F0 m 27 ls []) := by
  obtain ⟨hx, hb, hr, hml, hown, hts, hlk, hK, hA, hL, hX⟩ := id X
  intro n
  induction n with
  | zero =>
    intros
    rename_i hf _ _ _
    cases hf
  | succ n ih =>
    intro l3 l0 l1 l2 F B H locs ls hf hZ hS hl
    replace hf : (if r32 l3 then if r32 l2 then (if l2 ≤ l3 then if 0 ≤ l0 ∧ l0 < K.2 2 then if 0 ≤ l2 ∧ l2 < 101 then some (0, F, (zup4 B 2 l0 5 l2 (F 2 l0 4))) else none else none else if 0 ≤ l0 ∧ l0 < K.2 2 then if 0 ≤ l3 ∧ l3 < 101 then f_Layout_setColumns_45 (f_Layout_setColumns_27 K n) K K.1 0 l3 l0 l1 l2 F (zup4 B 2 l0 5 l3 (F 2 l0 4)) else none else none) else none else none) = some (r, F9, B9) := hf
    refine lv_iload_n hx hb (D_29 W_prog_4_method_3_code_0 27 rfl rfl) rfl (lv_at hl 0 rfl) ?_
    refine lv_iload_n hx hb (D_28 W_prog_4_method_3_code_0 28 rfl rfl) rfl (lv_at hl 3 rfl) ?_
    obtain ⟨g8, hf⟩ := gif hf
    obtain ⟨g9, hf⟩ := gif hf
    refine zge (tgt := 145) hx hb g8 g9 (D_162 W_prog_4_method_3_code_0 29 rfl rfl rfl) (by decide) (fun h10 => ?_) (fun h10 => ?_)
    · replace hf := gpos hf h10
      refine lv_aload_n hx hb (D_42 W_prog_4_method_3_code_128 17 rfl rfl) rfl (lv_at hl 1 rfl) ?_
      obtain ⟨g11, hf⟩ := gif hf
      refine zget (ci := 2) (C := RX2) (T := TX2) (v := .ref (ad 2 l0 (5 + 1))) (k := 5) hx hb hts inW_2 hown hK hZ g11.1 g11.2 rfl (by decide) k_6_222 rfl (D_180 W_prog_4_method_3_code_128 18 rfl rfl rfl) ?_
      refine lv_iload_n hx hb (D_28 W_prog_4_method_3_code_128 21 rfl rfl) rfl (lv_at hl 3 rfl) ?_
      refine lv_aload_n hx hb (D_42 W_prog_4_method_3_code_128 22 rfl rfl) rfl (lv_at hl 1 rfl) ?_
      refine zget (ci := 2) (C := RX2) (T := TX2) (v := .int (iI (F 2 l0 4))) (k := 4) hx hb hts inW_2 hown hK hZ g11.1 g11.2 rfl (by decide) k_6_221 rfl (D_180 W_prog_4_method_3_code_128 23 rfl rfl rfl) ?_
      obtain ⟨g12, hf⟩ := gif hf
      refine zast (ci := 2) (k := 5) hx hb hK rfl hZ hS g11.1 g11.2 rfl (Nat.le_of_ble_eq_true rfl) g12.1 g12.2 (D_79 W_prog_4_method_3_code_128 26 rfl rfl) (fun H13 locs13 hZ13 hS13 => ?_)
      cases hf
      exact W.vret hx hb hr (fun t ht hW => ⟨⟨(), rfl, trivial, by rw [ht]; exact hZ13, va_K.moved hW.alike hK⟩, hS13.F ht⟩) hS13.2.2 (D_177 W_prog_4_method_3_code_128 27 rfl rfl) hlk
    · replace hf := gneg hf h10
      refine lv_aload_n hx hb (D_42 W_prog_4_method_3_code_32 0 rfl rfl) rfl (lv_at hl 1 rfl) ?_
      obtain ⟨g14, hf⟩ := gif hf
      refine zget (ci := 2) (C := RX2) (T := TX2) (v := .ref (ad 2 l0 (5 + 1))) (k := 5) hx hb hts inW_2 hown hK hZ g14.1 g14.2 rfl (by decide) k_6_222 rfl (D_180 W_prog_4_method_3_code_32 1 rfl rfl rfl) ?_
      refine lv_iload_n hx hb (D_29 W_prog_4_method_3_code_32 4 rfl rfl) rfl (lv_at hl 0 rfl) ?_
      refine lv_aload_n hx hb (D_42 W_prog_4_method_3_code_32 5 rfl rfl) rfl (lv_at hl 1 rfl) ?_
      refine zget (ci := 2) (C := RX2) (T := TX2) (v := .int (iI (F 2 l0 4))) (k := 4) hx hb hts inW_2 hown hK hZ g14.1 g14.2 rfl (by decide) k_6_221 rfl (D_180 W_prog_4_method_3_code_32 6 rfl rfl rfl) ?_
      obtain ⟨g15, hf⟩ := gif hf
      refine zast (ci := 2) (k := 5) hx hb hK rfl hZ hS g14.1 g14.2 rfl (Nat.le_of_ble_eq_true rfl) g15.1 g15.2 (D_79 W_prog_4_method_3_code_32 9 rfl rfl) (fun H16 locs16 hZ16 hS16 => ?_)
      refine lv_iconst (v := iI 0) hx hb (D_3 W_prog_4_method_3_code_32 10 rfl rfl) rfl ?_
      refine lv_istore (lv' := [(4, .int (iI 0)), (3, .int (iI l3)), (0, .ref (ad 2 l0 0)), (1, .ref (ad 6 l1 0)), (2, .int (iI l2))]) hx hb (D_54 W_prog_4_method_3_code_32 11 rfl rfl) hl (by decide) rfl (fun ls hl => ?_)
      exact b_Layout_setColumns_45 X ih hf hZ16 hS16 (lv_sub hl [0, 1, 2, 3, 4] rfl)

def f_Layout_setColumns_7 (K : zK) : Nat → Int → Int → Int → Int → zF → zB → zO
  | 0, _, _, _, _, _, _ => none
  | n + 1, l3, l0, l1, l2, F, B => if r32 l3 then (if 4 ≤ l3 then f_Layout_setColumns_27 K K.1 0 l0 l1 l2 F B else if 0 ≤ l0 ∧ l0 < K.2 2 then if 0 ≤ l3 ∧ l3 < 4 then f_Layout_setColumns_7 K n (l3 + 1) l0 l1 l2 F (zup4 B 2 l0 12 l3 0) else none else none) else none
set_option maxHeartbeats 4000000 in
set_option maxRecDepth 100000 in
theorem b_Layout_setColumns_7 {D : va_G} {ca : Nat → ClassId} {ad : Nat → Int → Nat → Nat} {L : List Nat} {aS vS : Nat → Nat} {A : Nat → Prop} {p : Program} {l : Launch} {e : Env} {s : State} {m : MethodId} {args : Array Value} {below : List Frame} {meth : Method} {c : Code} {K : zK} {r : Int} {F9 : zF} {B9 : zB} (X : zX D ca L aS vS A p s m args meth c prog_4_method_3_code 5 (Option.none : Option Jvm.ClassFile.FieldType) "StaveHouse$Layout") : ∀ {n : Nat} {l3 : Int} {l0 : Int} {l1 : Int} {l2 : Int} {F : zF} {B : zB} {H : Heap} {locs : List Loc} {ls : Array Slot}, f_Layout_setColumns_7 K n l3 l0 l1 l2 F B = some (r, F9, B9) → zH D ca ad lnC K.2 L F B A H → va_S A s.heap H locs → lv_has ls 5 [(3, .int (iI l3)), (0, .ref (ad 2 l0 0)), (1, .ref (ad 6 l1 0)), (2, .int (iI l2))] → W p l e ({ frames := 3, cells := 0, slots := 0, locals := 77 } : Room) s m args below meth c H locs 0 0 (MQ below (Q_Layout_setColumns K D ca ad L r F9 B9 A) args s 0 0 A) (F0 m 7 ls []) := by
  obtain ⟨hx, hb, hr, hml, hown, hts, hlk, hK, hA, hL, hX⟩ := id X
  intro n
  induction n with
  | zero =>
    intros
    rename_i hf _ _ _
    cases hf
  | succ n ih =>
    intro l3 l0 l1 l2 F B H locs ls hf hZ hS hl
    replace hf : (if r32 l3 then (if 4 ≤ l3 then f_Layout_setColumns_27 K K.1 0 l0 l1 l2 F B else if 0 ≤ l0 ∧ l0 < K.2 2 then if 0 ≤ l3 ∧ l3 < 4 then f_Layout_setColumns_7 K n (l3 + 1) l0 l1 l2 F (zup4 B 2 l0 12 l3 0) else none else none) else none) = some (r, F9, B9) := hf
    refine lv_iload_n hx hb (D_29 W_prog_4_method_3_code_0 7 rfl rfl) rfl (lv_at hl 0 rfl) ?_
    refine lv_iconst (v := iI 4) hx hb (D_7 W_prog_4_method_3_code_0 8 rfl rfl) rfl ?_
    obtain ⟨g3, hf⟩ := gif hf
    refine zge (tgt := 25) hx hb g3 (by decide) (D_162 W_prog_4_method_3_code_0 9 rfl rfl rfl) (by decide) (fun h4 => ?_) (fun h4 => ?_)
    · replace hf := gpos hf h4
      refine lv_iconst (v := iI 0) hx hb (D_3 W_prog_4_method_3_code_0 25 rfl rfl) rfl ?_
      refine lv_istore_n (lv' := [(3, .int (iI 0)), (0, .ref (ad 2 l0 0)), (1, .ref (ad 6 l1 0)), (2, .int (iI l2))]) hx hb (D_62 W_prog_4_method_3_code_0 26 rfl rfl) rfl hl (by decide) rfl (fun ls hl => ?_)
      exact b_Layout_setColumns_27 X hf hZ hS (lv_sub hl [0, 1, 2, 3] rfl)
    · replace hf := gneg hf h4
      refine lv_aload_n hx hb (D_42 W_prog_4_method_3_code_0 12 rfl rfl) rfl (lv_at hl 1 rfl) ?_
      obtain ⟨g5, hf⟩ := gif hf
      refine zget (ci := 2) (C := RX2) (T := TX2) (v := .ref (ad 2 l0 (12 + 1))) (k := 12) hx hb hts inW_2 hown hK hZ g5.1 g5.2 rfl (by decide) k_6_229 rfl (D_180 W_prog_4_method_3_code_0 13 rfl rfl rfl) ?_
      refine lv_iload_n hx hb (D_29 W_prog_4_method_3_code_0 16 rfl rfl) rfl (lv_at hl 0 rfl) ?_
      refine lv_iconst (v := iI 0) hx hb (D_3 W_prog_4_method_3_code_0 17 rfl rfl) rfl ?_
      obtain ⟨g6, hf⟩ := gif hf
      refine zast (ci := 2) (k := 12) hx hb hK rfl hZ hS g5.1 g5.2 rfl (Nat.le_of_ble_eq_true rfl) g6.1 g6.2 (D_79 W_prog_4_method_3_code_0 18 rfl rfl) (fun H7 locs7 hZ7 hS7 => ?_)
      refine lv_iinc (v := iI (l3 + 1)) (lv' := [(3, .int (iI (l3 + 1))), (0, .ref (ad 2 l0 0)), (1, .ref (ad 6 l1 0)), (2, .int (iI l2))]) hx hb d_4_3_19 hl (k := 0) rfl (iI_add _ 1) (by decide) rfl (fun ls hl => ?_)
      refine lv_goto (tgt := 7) hx hb (D_167 W_prog_4_method_3_code_0 22 rfl rfl rfl) (by decide) ?_
      exact ih hf hZ7 hS7 (lv_sub hl [0, 1, 2, 3] rfl)

def f_Layout_setColumns (K : zK) (l0 : Int) (l1 : Int) (l2 : Int) (F : zF) (B : zB) : zO := if 0 ≤ l0 ∧ l0 < K.2 2 then f_Layout_setColumns_7 K K.1 0 l0 l1 l2 (zup3 F 2 l0 4 0) B else none
set_option maxHeartbeats 4000000 in
set_option maxRecDepth 100000 in
theorem c_Layout_setColumns {l : Launch} {D : va_G} {ca : Nat → ClassId} {ad : Nat → Int → Nat → Nat} {L : List Nat} {aS vS : Nat → Nat} {sz : Nat} {K : zK}  {l0 : Int} {l1 : Int} {l2 : Int} {F F9 : zF} {B B9 : zB} {r : Int} (hf : f_Layout_setColumns K l0 l1 l2 F B = some (r, F9, B9)) : Met l ({ cls := "StaveHouse$Layout", name := "setColumns", desc := "(LStaveHouse$Piece;I)V" } : Jvm.MethodName) (Cond.code ({ cls := "StaveHouse$Layout", name := "setColumns", desc := "(LStaveHouse$Piece;I)V" } : Jvm.MethodName) prog_4_method_3_code 5 (Option.none : Option Jvm.ClassFile.FieldType) :: wAll) ({ frames := 3, cells := 0, slots := 0, locals := 77 } : Room) (va_Pc [.ref (ad 2 l0 0), .ref (ad 6 l1 0), .int (iI l2)] (zPre D ca ad lnC K.2 L aS vS F B sz)) (Q_Layout_setColumns K D ca ad L r F9 B9 (zA L sz)) 0 0 (zA L sz) := by
  refine zMet (Qc := Q_Layout_setColumns K D ca ad L r F9 B9) (lv := [(0, .ref (ad 2 l0 0)), (1, .ref (ad 6 l1 0)), (2, .int (iI l2))]) (by decide) (Nat.le_of_ble_eq_true rfl) rfl (fun A p e s m below meth c ls X hZ hS hl => ?_)
  obtain ⟨hx, hb, hr, hml, hown, hts, hlk, hK, hA, hL, hX⟩ := id X
  replace hf : (if 0 ≤ l0 ∧ l0 < K.2 2 then f_Layout_setColumns_7 K K.1 0 l0 l1 l2 (zup3 F 2 l0 4 0) B else none) = some (r, F9, B9) := hf
  refine lv_aload_n hx hb (D_42 W_prog_4_method_3_code_0 0 rfl rfl) rfl (lv_at hl 0 rfl) ?_
  refine lv_iconst (v := iI 0) hx hb (D_3 W_prog_4_method_3_code_0 1 rfl rfl) rfl ?_
  obtain ⟨g1, hf⟩ := gif hf
  refine zput (ci := 2) (C := RX2) (T := TX2) (k := 4) (v := 0) (w := .int (iI 0)) hx hb hts inW_2 tyX2 tyX2_ok nmX2 hown hK hZ hS g1.1 g1.2 rfl (by decide) k_6_221 rfl (fun G h => congrArg (fun q => Value.int (iI q)) h) rfl rfl (zno (by decide)) (D_181 W_prog_4_method_3_code_0 2 rfl rfl rfl) (fun H2 locs2 hZ2 hS2 => ?_)
  refine lv_iconst (v := iI 0) hx hb (D_3 W_prog_4_method_3_code_0 5 rfl rfl) rfl ?_
  refine lv_istore_n (lv' := [(3, .int (iI 0)), (0, .ref (ad 2 l0 0)), (1, .ref (ad 6 l1 0)), (2, .int (iI l2))]) hx hb (D_62 W_prog_4_method_3_code_0 6 rfl rfl) rfl hl (by decide) rfl (fun ls hl => ?_)
  exact b_Layout_setColumns_7 X hf hZ2 hS2 (lv_sub hl [0, 1, 2, 3] rfl)

abbrev Q_ByteRow_putText (K : zK) (D : va_G) (ca : Nat → ClassId) (ad : Nat → Int → Nat → Nat) (L : List Nat) (r : Int) (F : zF) (B : zB) (A : Nat → Prop) : Array Value → State → Outcome → State → Prop := va_Qv (S := Unit) (fun _ => True) (fun _ => zPo D ca ad lnC K.2 L F B A) A
def f_ByteRow_putText_2 (K : zK) : Nat → Int → Int → Nat → zF → zB → zO
  | 0, _, _, _, _, _ => none
  | n + 1, l2, l0, l1, F, B => if l1 < strL.length then zbind (f_CString_length K l1 F B) (fun r2 F2 B2 => if r32 l2 then if r32 r2 then (if r2 ≤ l2 then some (0, F2, B2) else zbind (f_CString_charAt K l1 l2 F2 B2) (fun r6 F6 B6 => if 0 ≤ l0 ∧ l0 < K.2 0 then zbind (f_ByteRow_put K l0 r6 F6 B6) (fun r8 F8 B8 => f_ByteRow_putText_2 K n (l2 + 1) l0 l1 F8 B8) else none)) else none else none) else none
set_option maxHeartbeats 4000000 in
set_option maxRecDepth 100000 in
theorem b_ByteRow_putText_2 {D : va_G} {ca : Nat → ClassId} {ad : Nat → Int → Nat → Nat} {L : List Nat} {aS vS : Nat → Nat} {A : Nat → Prop} {p : Program} {l : Launch} {e : Env} {s : State} {m : MethodId} {args : Array Value} {below : List Frame} {meth : Method} {c : Code} {K : zK} {r : Int} {F9 : zF} {B9 : zB} (X : zX D ca L aS vS A p s m args meth c prog_2_method_5_code 3 (Option.none : Option Jvm.ClassFile.FieldType) "StaveHouse$ByteRow") : ∀ {n : Nat} {l2 : Int} {l0 : Int} {l1 : Nat} {F : zF} {B : zB} {H : Heap} {locs : List Loc} {ls : Array Slot}, f_ByteRow_putText_2 K n l2 l0 l1 F B = some (r, F9, B9) → zH D ca ad lnC K.2 L F B A H → va_S A s.heap H locs → lv_has ls 3 [(2, .int (iI l2)), (0, .ref (ad 0 l0 0)), (1, .ref (aS l1))] → W p l e ({ frames := 4, cells := 0, slots := 0, locals := 85 } : Room) s m args below meth c H locs 0 0 (MQ below (Q_ByteRow_putText K D ca ad L r F9 B9 A) args s 0 0 A) (F0 m 2 ls []) := by
  obtain ⟨hx, hb, hr, hml, hown, hts, hlk, hK, hA, hL, hX⟩ := id X
  intro n
  induction n with
  | zero =>
    intros
    rename_i hf _ _ _
    cases hf
  | succ n ih =>
    intro l2 l0 l1 F B H locs ls hf hZ hS hl
    replace hf : (if l1 < strL.length then zbind (f_CString_length K l1 F B) (fun r2 F2 B2 => if r32 l2 then if r32 r2 then (if r2 ≤ l2 then some (0, F2, B2) else zbind (f_CString_charAt K l1 l2 F2 B2) (fun r6 F6 B6 => if 0 ≤ l0 ∧ l0 < K.2 0 then zbind (f_ByteRow_put K l0 r6 F6 B6) (fun r8 F8 B8 => f_ByteRow_putText_2 K n (l2 + 1) l0 l1 F8 B8) else none)) else none else none) else none) = some (r, F9, B9) := hf
    refine lv_iload_n hx hb (D_28 W_prog_2_method_5_code_0 2 rfl rfl) rfl (lv_at hl 0 rfl) ?_
    refine lv_aload_n hx hb (D_43 W_prog_2_method_5_code_0 3 rfl rfl) rfl (lv_at hl 2 rfl) ?_
    obtain ⟨g1, hf⟩ := gif hf
    obtain ⟨r2, F2, B2, hc2, hf⟩ := gbind hf
    refine va_calli (va_runV (As := []) (rest := [.int (iI l2)]) ⟨hx, hb, hml, hown, hts⟩ (c_CString_length (l := l) hc2) (cwV 0 hts (gdV k_7_132 k_3_82 k_3_83 k_1_11 k_3_84) rfl rfl rfl (by decide +kernel) ⟨Nat.le_of_ble_eq_true rfl, Nat.le_of_ble_eq_true rfl⟩) ⟨zBlind, zsrecv hX g1 hS, zAt X hZ hS [.ref (aS l1)]⟩ rfl rfl hl.1 rfl (lv_room (Nat.le_of_ble_eq_true rfl)) (D_182 W_prog_2_method_5_code_0 4 rfl rfl rfl) ⟨Nat.le_of_ble_eq_true rfl, Nat.le_of_ble_eq_true rfl⟩) hS (fun q _ h => zAin X hS q h) (zAin X hS) (fun p2 u2 t2 H2 locs2 ht2 hv2 hw2 hB2 hz2 hk2 hS2 => ?_)
    have hZ2 := zBack X ht2 hB2
    subst hw2
    obtain ⟨g3, hf⟩ := gif hf
    obtain ⟨g4, hf⟩ := gif hf
    refine zge (tgt := 25) hx hb g3 g4 (D_162 W_prog_2_method_5_code_0 7 rfl rfl rfl) (by decide) (fun h5 => ?_) (fun h5 => ?_)
    · replace hf := gpos hf h5
      cases hf
      exact W.vret hx hb hr (fun t ht hW => ⟨⟨(), rfl, trivial, by rw [ht]; exact hZ2, va_K.moved hW.alike hK⟩, hS2.F ht⟩) hS2.2.2 (D_177 W_prog_2_method_5_code_0 25 rfl rfl) hlk
    · replace hf := gneg hf h5
      refine lv_aload_n hx hb (D_42 W_prog_2_method_5_code_0 10 rfl rfl) rfl (lv_at hl 1 rfl) ?_
      refine lv_aload_n hx hb (D_43 W_prog_2_method_5_code_0 11 rfl rfl) rfl (lv_at hl 2 rfl) ?_
      refine lv_iload_n hx hb (D_28 W_prog_2_method_5_code_0 12 rfl rfl) rfl (lv_at hl 0 rfl) ?_
      obtain ⟨r6, F6, B6, hc6, hf⟩ := gbind hf
      refine va_calli (va_runV (As := [.int (iI l2)]) (rest := [.ref (ad 0 l0 0)]) ⟨hx, hb, hml, hown, hts⟩ (c_CString_charAt (l := l) hc6) (cwV 1 hts (gdV k_7_133 k_7_134 k_7_135 k_1_11 k_7_136) rfl rfl rfl (by decide +kernel) ⟨Nat.le_of_ble_eq_true rfl, Nat.le_of_ble_eq_true rfl⟩) ⟨zBlind, zsrecv hX g1 hS2, zAt X hZ2 hS2 [.ref (aS l1), .int (iI l2)]⟩ rfl rfl hl.1 rfl (lv_room (Nat.le_of_ble_eq_true rfl)) (D_182 W_prog_2_method_5_code_0 13 rfl rfl rfl) ⟨Nat.le_of_ble_eq_true rfl, Nat.le_of_ble_eq_true rfl⟩) hS2 (fun q _ h => zAin X hS2 q h) (zAin X hS2) (fun p6 u6 t6 H6 locs6 ht6 hv6 hw6 hB6 hz6 hk6 hS6 => ?_)
      have hZ6 := zBack X ht6 hB6
      subst hw6
      obtain ⟨g7, hf⟩ := gif hf
      obtain ⟨r8, F8, B8, hc8, hf⟩ := gbind hf
      refine va_callv (va_runV (As := [.int (iI r6)]) (rest := []) ⟨hx, hb, hml, hown, hts⟩ (c_ByteRow_put (l := l) hc8) (cwV 1 hts (gdV k_7_153 k_2_171 k_2_172 k_1_2 k_2_173) rfl rfl rfl (by decide +kernel) ⟨Nat.le_of_ble_eq_true rfl, Nat.le_of_ble_eq_true rfl⟩) (zPV X hZ6 hS6 (ci := 0) g7.1 g7.2 (r := (RX0, TX0, 3)) rfl [.int (iI r6)]) rfl rfl hl.1 rfl (lv_room (Nat.le_of_ble_eq_true rfl)) (D_182 W_prog_2_method_5_code_0 16 rfl rfl rfl) ⟨Nat.le_of_ble_eq_true rfl, Nat.le_of_ble_eq_true rfl⟩) hS6 (fun q _ h => zAin X hS6 q h) (zAin X hS6) (fun u8 t8 H8 locs8 ht8 hv8 hw8 hB8 hz8 hk8 hS8 => ?_)
      have hZ8 := zBack X ht8 hB8
      refine lv_iinc (v := iI (l2 + 1)) (lv' := [(2, .int (iI (l2 + 1))), (0, .ref (ad 0 l0 0)), (1, .ref (aS l1))]) hx hb d_2_5_19 hl (k := 0) rfl (iI_add _ 1) (by decide) rfl (fun ls hl => ?_)
      refine lv_goto (tgt := 2) hx hb (D_167 W_prog_2_method_5_code_0 22 rfl rfl rfl) (by decide) ?_
      exact ih hf hZ8 hS8 (lv_sub hl [0, 1, 2] rfl)

def f_ByteRow_putText (K : zK) (l0 : Int) (l1 : Nat) (F : zF) (B : zB) : zO := f_ByteRow_putText_2 K K.1 0 l0 l1 F B
set_option maxHeartbeats 4000000 in
set_option maxRecDepth 100000 in
theorem c_ByteRow_putText {l : Launch} {D : va_G} {ca : Nat → ClassId} {ad : Nat → Int → Nat → Nat} {L : List Nat} {aS vS : Nat → Nat} {sz : Nat} {K : zK}  {l0 : Int} {l1 : Nat} {F F9 : zF} {B B9 : zB} {r : Int} (hf : f_ByteRow_putText K l0 l1 F B = some (r, F9, B9)) : Met l ({ cls := "StaveHouse$ByteRow", name := "putText", desc := "(Ljava/lang/String;)V" } : Jvm.MethodName) (Cond.code ({ cls := "StaveHouse$ByteRow", name := "putText", desc := "(Ljava/lang/String;)V" } : Jvm.MethodName) prog_2_method_5_code 3 (Option.none : Option Jvm.ClassFile.FieldType) :: wAll) ({ frames := 4, cells := 0, slots := 0, locals := 85 } : Room) (va_Pc [.ref (ad 0 l0 0), .ref (aS l1)] (zPre D ca ad lnC K.2 L aS vS F B sz)) (Q_ByteRow_putText K D ca ad L r F9 B9 (zA L sz)) 0 0 (zA L sz) := by
  refine zMet (Qc := Q_ByteRow_putText K D ca ad L r F9 B9) (lv := [(0, .ref (ad 0 l0 0)), (1, .ref (aS l1))]) (by decide) (Nat.le_of_ble_eq_true rfl) rfl (fun A p e s m below meth c ls X hZ hS hl => ?_)
  obtain ⟨hx, hb, hr, hml, hown, hts, hlk, hK, hA, hL, hX⟩ := id X
  replace hf : (f_ByteRow_putText_2 K K.1 0 l0 l1 F B) = some (r, F9, B9) := hf
  refine lv_iconst (v := iI 0) hx hb (D_3 W_prog_2_method_5_code_0 0 rfl rfl) rfl ?_
  refine lv_istore_n (lv' := [(2, .int (iI 0)), (0, .ref (ad 0 l0 0)), (1, .ref (aS l1))]) hx hb (D_61 W_prog_2_method_5_code_0 1 rfl rfl) rfl hl (by decide) rfl (fun ls hl => ?_)
  exact b_ByteRow_putText_2 X hf hZ hS (lv_sub hl [0, 1, 2] rfl)

abbrev Q_Performance_beginTrack (K : zK) (D : va_G) (ca : Nat → ClassId) (ad : Nat → Int → Nat → Nat) (L : List Nat) (r : Int) (F : zF) (B : zB) (A : Nat → Prop) : Array Value → State → Outcome → State → Prop := va_Qi (S := Unit) (fun p _ => p = iI r) (fun _ => zPo D ca ad lnC K.2 L F B A) A
def f_Performance_beginTrack (K : zK) (l0 : Int) (F : zF) (B : zB) : zO := if 0 ≤ l0 ∧ l0 < K.2 0 then zbind (f_ByteRow_putText K l0 2 F B) (fun r2 F2 B2 => zbind (f_ByteRow_putWide K l0 0 4 F2 B2) (fun r3 F3 B3 => some (F3 0 l0 1, F3, B3))) else none
set_option maxHeartbeats 4000000 in
set_option maxRecDepth 100000 in
theorem c_Performance_beginTrack {l : Launch} {D : va_G} {ca : Nat → ClassId} {ad : Nat → Int → Nat → Nat} {L : List Nat} {aS vS : Nat → Nat} {sz : Nat} {K : zK}  {l0 : Int} {F F9 : zF} {B B9 : zB} {r : Int} (hf : f_Performance_beginTrack K l0 F B = some (r, F9, B9)) : Met l ({ cls := "StaveHouse$Performance", name := "beginTrack", desc := "(LStaveHouse$ByteRow;)I" } : Jvm.MethodName) (Cond.code ({ cls := "StaveHouse$Performance", name := "beginTrack", desc := "(LStaveHouse$ByteRow;)I" } : Jvm.MethodName) prog_7_method_18_code 1 (Option.some Jvm.ClassFile.FieldType.int) :: wAll) ({ frames := 5, cells := 0, slots := 0, locals := 107 } : Room) (va_Pc [.ref (ad 0 l0 0)] (zPre D ca ad lnC K.2 L aS vS F B sz)) (Q_Performance_beginTrack K D ca ad L r F9 B9 (zA L sz)) 0 0 (zA L sz) := by
  refine zMet (Qc := Q_Performance_beginTrack K D ca ad L r F9 B9) (lv := [(0, .ref (ad 0 l0 0))]) (by decide) (Nat.le_of_ble_eq_true rfl) rfl (fun A p e s m below meth c ls X hZ hS hl => ?_)
  obtain ⟨hx, hb, hr, hml, hown, hts, hlk, hK, hA, hL, hX⟩ := id X
  replace hf : (if 0 ≤ l0 ∧ l0 < K.2 0 then zbind (f_ByteRow_putText K l0 2 F B) (fun r2 F2 B2 => zbind (f_ByteRow_putWide K l0 0 4 F2 B2) (fun r3 F3 B3 => some (F3 0 l0 1, F3, B3))) else none) = some (r, F9, B9) := hf
  refine lv_aload_n hx hb (D_42 W_prog_7_method_18_code_0 0 rfl rfl) rfl (lv_at hl 0 rfl) ?_
  refine va_ldcS hx hb hown (hX.2.2.2.2.1 2 _ rfl).1 (D_18 W_prog_7_method_18_code_0 1 rfl rfl) ?_
  obtain ⟨g1, hf⟩ := gif hf
  obtain ⟨r2, F2, B2, hc2, hf⟩ := gbind hf
  refine va_callv (va_runV (As := [.ref (aS 2)]) (rest := []) ⟨hx, hb, hml, hown, hts⟩ (c_ByteRow_putText (l := l) hc2) (cwV 1 hts (gdV k_7_128 k_7_129 k_7_130 k_1_2 k_7_131) rfl rfl rfl (by decide +kernel) ⟨Nat.le_of_ble_eq_true rfl, Nat.le_of_ble_eq_true rfl⟩) (zPV X hZ hS (ci := 0) g1.1 g1.2 (r := (RX0, TX0, 3)) rfl [.ref (aS 2)]) rfl rfl hl.1 rfl (lv_room (Nat.le_of_ble_eq_true rfl)) (D_182 W_prog_7_method_18_code_0 3 rfl rfl rfl) ⟨Nat.le_of_ble_eq_true rfl, Nat.le_of_ble_eq_true rfl⟩) hS (fun q _ h => zAin X hS q h) (zAin X hS) (fun u2 t2 H2 locs2 ht2 hv2 hw2 hB2 hz2 hk2 hS2 => ?_)
  have hZ2 := zBack X ht2 hB2
  refine lv_aload_n hx hb (D_42 W_prog_7_method_18_code_0 6 rfl rfl) rfl (lv_at hl 0 rfl) ?_
  refine lv_iconst (v := iI 0) hx hb (D_3 W_prog_7_method_18_code_0 7 rfl rfl) rfl ?_
  refine lv_iconst (v := iI 4) hx hb (D_7 W_prog_7_method_18_code_0 8 rfl rfl) rfl ?_
  obtain ⟨r3, F3, B3, hc3, hf⟩ := gbind hf
  refine va_callv (va_runV (As := [.int (iI 0), .int (iI 4)]) (rest := []) ⟨hx, hb, hml, hown, hts⟩ (c_ByteRow_putWide (l := l) hc3) (cwV 2 hts (gdV k_7_154 k_7_155 k_7_156 k_1_2 k_7_157) rfl rfl rfl (by decide +kernel) ⟨Nat.le_of_ble_eq_true rfl, Nat.le_of_ble_eq_true rfl⟩) (zPV X hZ2 hS2 (ci := 0) g1.1 g1.2 (r := (RX0, TX0, 3)) rfl [.int (iI 0), .int (iI 4)]) rfl rfl hl.1 rfl (lv_room (Nat.le_of_ble_eq_true rfl)) (D_182 W_prog_7_method_18_code_0 9 rfl rfl rfl) ⟨Nat.le_of_ble_eq_true rfl, Nat.le_of_ble_eq_true rfl⟩) hS2 (fun q _ h => zAin X hS2 q h) (zAin X hS2) (fun u3 t3 H3 locs3 ht3 hv3 hw3 hB3 hz3 hk3 hS3 => ?_)
  have hZ3 := zBack X ht3 hB3
  refine lv_aload_n hx hb (D_42 W_prog_7_method_18_code_0 12 rfl rfl) rfl (lv_at hl 0 rfl) ?_
  refine zget (ci := 0) (C := RX0) (T := TX0) (v := .int (iI (F3 0 l0 1))) (k := 1) hx hb hts inW_0 hown hK hZ3 g1.1 g1.2 rfl (by decide) k_1_47 rfl (D_180 W_prog_7_method_18_code_0 13 rfl rfl rfl) ?_
  cases hf
  exact W.iret hx hb hr (fun t ht hW => ⟨⟨_, (), rfl, rfl, by rw [ht]; exact hZ3, va_K.moved hW.alike hK⟩, hS3.F ht⟩) hS3.2.2 (D_172 W_prog_7_method_18_code_0 16 rfl rfl) hlk

abbrev Q_Performance_writeVoice (K : zK) (D : va_G) (ca : Nat → ClassId) (ad : Nat → Int → Nat → Nat) (L : List Nat) (r : Int) (F : zF) (B : zB) (A : Nat → Prop) : Array Value → State → Outcome → State → Prop := va_Qv (S := Unit) (fun _ => True) (fun _ => zPo D ca ad lnC K.2 L F B A) A
def f_Performance_writeVoice_56 (K : zK) : Nat → Int → Int → Int → Int → Int → Int → zF → zB → zO
  | 0, _, _, _, _, _, _, _, _ => none
  | n + 1, l6, l4, l0, l1, l2, l3, F, B => if r32 l6 then (if l6 < 0 then if 0 ≤ l3 ∧ l3 < K.2 0 then zbind (f_ByteRow_put K l3 0 F B) (fun r11 F11 B11 => zbind (f_ByteRow_put K l3 (192 + l2) F11 B11) (fun r12 F12 B12 => if 0 ≤ l1 ∧ l1 < K.2 4 then zbind (f_ByteRow_put K l3 (F12 4 l1 2) F12 B12) (fun r14 F14 B14 => if 0 ≤ l0 ∧ l0 < K.2 5 then zbind (f_Performance_writeStrokes K l0 l2 l3 F14 B14) (fun r16 F16 B16 => zbind (f_Performance_endTrack K l3 l4 F16 B16) (fun r17 F17 B17 => some (0, F17, B17))) else none) else none)) else none else if 0 ≤ l1 ∧ l1 < K.2 4 then if 0 ≤ l3 ∧ l3 < K.2 0 then zbind (f_ByteRow_put K l3 (zlushr (F 4 l1 0) (8 * l6)) F B) (fun r20 F20 B20 => f_Performance_writeVoice_56 K n (l6 - 1) l4 l0 l1 l2 l3 F20 B20) else none else none) else none
set_option maxHeartbeats 4000000 in
set_option maxRecDepth 100000 in
theorem b_Performance_writeVoice_56 {D : va_G} {ca : Nat → ClassId} {ad : Nat → Int → Nat → Nat} {L : List Nat} {aS vS : Nat → Nat} {A : Nat → Prop} {p : Program} {l : Launch} {e : Env} {s : State} {m : MethodId} {args : Array Value} {below : List Frame} {meth : Method} {c : Code} {K : zK} {r : Int} {F9 : zF} {B9 : zB} (X : zX D ca L aS vS A p s m args meth c prog_7_method_22_code 7 (Option.none : Option Jvm.ClassFile.FieldType) "StaveHouse$Performance") : ∀ {n : Nat} {l6 : Int} {l4 : Int} {l0 : Int} {l1 : Int} {l2 : Int} {l3 : Int} {F : zF} {B : zB} {H : Heap} {locs : List Loc} {ls : Array Slot}, f_Performance_writeVoice_56 K n l6 l4 l0 l1 l2 l3 F B = some (r, F9, B9) → zH D ca ad lnC K.2 L F B A H → va_S A s.heap H locs → lv_has ls 7 [(6, .int (iI l6)), (4, .int (iI l4)), (0, .ref (ad 5 l0 0)), (1, .ref (ad 4 l1 0)), (2, .int (iI l2)), (3, .ref (ad 0 l3 0))] → W p l e ({ frames := 6, cells := 0, slots := 0, locals := 127 } : Room) s m args below meth c H locs 0 0 (MQ below (Q_Performance_writeVoice K D ca ad L r F9 B9 A) args s 0 0 A) (F0 m 56 ls []) := by
  obtain ⟨hx, hb, hr, hml, hown, hts, hlk, hK, hA, hL, hX⟩ := id X
  intro n
  induction n with
  | zero =>
    intros
    rename_i hf _ _ _
    cases hf
  | succ n ih =>
    intro l6 l4 l0 l1 l2 l3 F B H locs ls hf hZ hS hl
    replace hf : (if r32 l6 then (if l6 < 0 then if 0 ≤ l3 ∧ l3 < K.2 0 then zbind (f_ByteRow_put K l3 0 F B) (fun r11 F11 B11 => zbind (f_ByteRow_put K l3 (192 + l2) F11 B11) (fun r12 F12 B12 => if 0 ≤ l1 ∧ l1 < K.2 4 then zbind (f_ByteRow_put K l3 (F12 4 l1 2) F12 B12) (fun r14 F14 B14 => if 0 ≤ l0 ∧ l0 < K.2 5 then zbind (f_Performance_writeStrokes K l0 l2 l3 F14 B14) (fun r16 F16 B16 => zbind (f_Performance_endTrack K l3 l4 F16 B16) (fun r17 F17 B17 => some (0, F17, B17))) else none) else none)) else none else if 0 ≤ l1 ∧ l1 < K.2 4 then if 0 ≤ l3 ∧ l3 < K.2 0 then zbind (f_ByteRow_put K l3 (zlushr (F 4 l1 0) (8 * l6)) F B) (fun r20 F20 B20 => f_Performance_writeVoice_56 K n (l6 - 1) l4 l0 l1 l2 l3 F20 B20) else none else none) else none) = some (r, F9, B9) := hf
    refine lv_iload hx hb (D_21 W_prog_7_method_22_code_32 24 rfl rfl) (lv_at hl 0 rfl) ?_
    obtain ⟨g8, hf⟩ := gif hf
    refine z0lt (tgt := 82) hx hb g8 (D_155 W_prog_7_method_22_code_32 26 rfl rfl rfl) (by decide) (fun h9 => ?_) (fun h9 => ?_)
    · replace hf := gpos hf h9
      refine lv_aload_n hx hb (D_45 W_prog_7_method_22_code_64 18 rfl rfl) rfl (lv_at hl 5 rfl) ?_
      refine lv_iconst (v := iI 0) hx hb (D_3 W_prog_7_method_22_code_64 19 rfl rfl) rfl ?_
      obtain ⟨g10, hf⟩ := gif hf
      obtain ⟨r11, F11, B11, hc11, hf⟩ := gbind hf
      refine va_callv (va_runV (As := [.int (iI 0)]) (rest := []) ⟨hx, hb, hml, hown, hts⟩ (c_ByteRow_put (l := l) hc11) (cwV 1 hts (gdV k_7_168 k_2_171 k_2_172 k_1_2 k_2_173) rfl rfl rfl (by decide +kernel) ⟨Nat.le_of_ble_eq_true rfl, Nat.le_of_ble_eq_true rfl⟩) (zPV X hZ hS (ci := 0) g10.1 g10.2 (r := (RX0, TX0, 3)) rfl [.int (iI 0)]) rfl rfl hl.1 rfl (lv_room (Nat.le_of_ble_eq_true rfl)) (D_182 W_prog_7_method_22_code_64 20 rfl rfl rfl) ⟨Nat.le_of_ble_eq_true rfl, Nat.le_of_ble_eq_true rfl⟩) hS (fun q _ h => zAin X hS q h) (zAin X hS) (fun u11 t11 H11 locs11 ht11 hv11 hw11 hB11 hz11 hk11 hS11 => ?_)
      have hZ11 := zBack X ht11 hB11
      refine lv_aload_n hx hb (D_45 W_prog_7_method_22_code_64 23 rfl rfl) rfl (lv_at hl 5 rfl) ?_
      refine lv_sipush (v := iI 192) hx hb (D_17 W_prog_7_method_22_code_64 24 rfl rfl rfl) (by decide) ?_
      refine lv_iload_n hx hb (D_28 W_prog_7_method_22_code_64 27 rfl rfl) rfl (lv_at hl 4 rfl) ?_
      refine zadd hx hb (D_96 W_prog_7_method_22_code_64 28 rfl rfl) ?_
      obtain ⟨r12, F12, B12, hc12, hf⟩ := gbind hf
      refine va_callv (va_runV (As := [.int (iI (192 + l2))]) (rest := []) ⟨hx, hb, hml, hown, hts⟩ (c_ByteRow_put (l := l) hc12) (cwV 1 hts (gdV k_7_168 k_2_171 k_2_172 k_1_2 k_2_173) rfl rfl rfl (by decide +kernel) ⟨Nat.le_of_ble_eq_true rfl, Nat.le_of_ble_eq_true rfl⟩) (zPV X hZ11 hS11 (ci := 0) g10.1 g10.2 (r := (RX0, TX0, 3)) rfl [.int (iI (192 + l2))]) rfl rfl hl.1 rfl (lv_room (Nat.le_of_ble_eq_true rfl)) (D_182 W_prog_7_method_22_code_64 29 rfl rfl rfl) ⟨Nat.le_of_ble_eq_true rfl, Nat.le_of_ble_eq_true rfl⟩) hS11 (fun q _ h => zAin X hS11 q h) (zAin X hS11) (fun u12 t12 H12 locs12 ht12 hv12 hw12 hB12 hz12 hk12 hS12 => ?_)
      have hZ12 := zBack X ht12 hB12
      refine lv_aload_n hx hb (D_45 W_prog_7_method_22_code_96 0 rfl rfl) rfl (lv_at hl 5 rfl) ?_
      refine lv_aload_n hx hb (D_43 W_prog_7_method_22_code_96 1 rfl rfl) rfl (lv_at hl 3 rfl) ?_
      obtain ⟨g13, hf⟩ := gif hf
      refine zget (ci := 4) (C := RX4) (T := TX4) (v := .int (iI (F12 4 l1 2))) (k := 2) hx hb hts inW_4 hown hK hZ12 g13.1 g13.2 rfl (by decide) k_4_124 rfl (D_180 W_prog_7_method_22_code_96 2 rfl rfl rfl) ?_
      obtain ⟨r14, F14, B14, hc14, hf⟩ := gbind hf
      refine va_callv (va_runV (As := [.int (iI (F12 4 l1 2))]) (rest := []) ⟨hx, hb, hml, hown, hts⟩ (c_ByteRow_put (l := l) hc14) (cwV 1 hts (gdV k_7_168 k_2_171 k_2_172 k_1_2 k_2_173) rfl rfl rfl (by decide +kernel) ⟨Nat.le_of_ble_eq_true rfl, Nat.le_of_ble_eq_true rfl⟩) (zPV X hZ12 hS12 (ci := 0) g10.1 g10.2 (r := (RX0, TX0, 3)) rfl [.int (iI (F12 4 l1 2))]) rfl rfl hl.1 rfl (lv_room (Nat.le_of_ble_eq_true rfl)) (D_182 W_prog_7_method_22_code_96 5 rfl rfl rfl) ⟨Nat.le_of_ble_eq_true rfl, Nat.le_of_ble_eq_true rfl⟩) hS12 (fun q _ h => zAin X hS12 q h) (zAin X hS12) (fun u14 t14 H14 locs14 ht14 hv14 hw14 hB14 hz14 hk14 hS14 => ?_)
      have hZ14 := zBack X ht14 hB14
      refine lv_aload_n hx hb (D_42 W_prog_7_method_22_code_96 8 rfl rfl) rfl (lv_at hl 2 rfl) ?_
      refine lv_iload_n hx hb (D_28 W_prog_7_method_22_code_96 9 rfl rfl) rfl (lv_at hl 4 rfl) ?_
      refine lv_aload_n hx hb (D_45 W_prog_7_method_22_code_96 10 rfl rfl) rfl (lv_at hl 5 rfl) ?_
      obtain ⟨g15, hf⟩ := gif hf
      obtain ⟨r16, F16, B16, hc16, hf⟩ := gbind hf
      refine va_callv (va_runV (As := [.int (iI l2), .ref (ad 0 l3 0)]) (rest := []) ⟨hx, hb, hml, hown, hts⟩ (c_Performance_writeStrokes (l := l) hc16) (cwV 2 hts (gdV k_7_187 k_7_189 ks_91 k_1_20 k_7_190) rfl rfl rfl (by decide +kernel) ⟨Nat.le_of_ble_eq_true rfl, Nat.le_of_ble_eq_true rfl⟩) (zPV X hZ14 hS14 (ci := 5) g15.1 g15.2 (r := (RX5, TX5, 14)) rfl [.int (iI l2), .ref (ad 0 l3 0)]) rfl rfl hl.1 rfl (lv_room (Nat.le_of_ble_eq_true rfl)) (D_182 W_prog_7_method_22_code_96 11 rfl rfl rfl) ⟨Nat.le_of_ble_eq_true rfl, Nat.le_of_ble_eq_true rfl⟩) hS14 (fun q _ h => zAin X hS14 q h) (zAin X hS14) (fun u16 t16 H16 locs16 ht16 hv16 hw16 hB16 hz16 hk16 hS16 => ?_)
      have hZ16 := zBack X ht16 hB16
      refine lv_aload_n hx hb (D_45 W_prog_7_method_22_code_96 14 rfl rfl) rfl (lv_at hl 5 rfl) ?_
      refine lv_iload hx hb (D_21 W_prog_7_method_22_code_96 15 rfl rfl) (lv_at hl 1 rfl) ?_
      obtain ⟨r17, F17, B17, hc17, hf⟩ := gbind hf
      refine va_callv (va_runS (As := [.ref (ad 0 l3 0), .int (iI l4)]) (rest := []) ⟨hx, hb, hml, hown, hts⟩ (c_Performance_endTrack (l := l) hc17) (va_cwS 2 hts (gdS k_7_176 k_7_177 k_1_20 k_7_178) rfl rfl rfl (by decide +kernel) ⟨Nat.le_of_ble_eq_true rfl, Nat.le_of_ble_eq_true rfl⟩) (zPS X hZ16 hS16 [.ref (ad 0 l3 0), .int (iI l4)]) rfl rfl hl.1 rfl (lv_room (Nat.le_of_ble_eq_true rfl)) (D_184 W_prog_7_method_22_code_96 17 rfl rfl rfl) ⟨Nat.le_of_ble_eq_true rfl, Nat.le_of_ble_eq_true rfl⟩) hS16 (fun q _ h => zAin X hS16 q h) (zAin X hS16) (fun u17 t17 H17 locs17 ht17 hv17 hw17 hB17 hz17 hk17 hS17 => ?_)
      have hZ17 := zBack X ht17 hB17
      cases hf
      exact W.vret hx hb hr (fun t ht hW => ⟨⟨(), rfl, trivial, by rw [ht]; exact hZ17, va_K.moved hW.alike hK⟩, hS17.F ht⟩) hS17.2.2 (D_177 W_prog_7_method_22_code_96 20 rfl rfl) hlk
    · replace hf := gneg hf h9
      refine lv_aload_n hx hb (D_45 W_prog_7_method_22_code_32 29 rfl rfl) rfl (lv_at hl 5 rfl) ?_
      refine lv_aload_n hx hb (D_43 W_prog_7_method_22_code_32 30 rfl rfl) rfl (lv_at hl 3 rfl) ?_
      obtain ⟨g18, hf⟩ := gif hf
      refine zget (ci := 4) (C := RX4) (T := TX4) (v := .long (lI (F 4 l1 0))) (k := 0) hx hb hts inW_4 hown hK hZ g18.1 g18.2 rfl (by decide) k_4_118 rfl (D_180 W_prog_7_method_22_code_32 31 rfl rfl rfl) ?_
      refine lv_bipush (v := iI 8) hx hb (D_16 W_prog_7_method_22_code_64 2 rfl rfl rfl) (by decide) ?_
      refine lv_iload hx hb (D_21 W_prog_7_method_22_code_64 4 rfl rfl) (lv_at hl 0 rfl) ?_
      refine zmul hx hb (D_104 W_prog_7_method_22_code_64 6 rfl rfl) ?_
      refine zlushr_r hx hb (D_125 W_prog_7_method_22_code_64 7 rfl rfl) ?_
      refine zl2iw hx hb (D_136 W_prog_7_method_22_code_64 8 rfl rfl) ?_
      obtain ⟨g19, hf⟩ := gif hf
      obtain ⟨r20, F20, B20, hc20, hf⟩ := gbind hf
      refine va_callv (va_runV (As := [.int (iI (zlushr (F 4 l1 0) (8 * l6)))]) (rest := []) ⟨hx, hb, hml, hown, hts⟩ (c_ByteRow_put (l := l) hc20) (cwV 1 hts (gdV k_7_168 k_2_171 k_2_172 k_1_2 k_2_173) rfl rfl rfl (by decide +kernel) ⟨Nat.le_of_ble_eq_true rfl, Nat.le_of_ble_eq_true rfl⟩) (zPV X hZ hS (ci := 0) g19.1 g19.2 (r := (RX0, TX0, 3)) rfl [.int (iI (zlushr (F 4 l1 0) (8 * l6)))]) rfl rfl hl.1 rfl (lv_room (Nat.le_of_ble_eq_true rfl)) (D_182 W_prog_7_method_22_code_64 9 rfl rfl rfl) ⟨Nat.le_of_ble_eq_true rfl, Nat.le_of_ble_eq_true rfl⟩) hS (fun q _ h => zAin X hS q h) (zAin X hS) (fun u20 t20 H20 locs20 ht20 hv20 hw20 hB20 hz20 hk20 hS20 => ?_)
      have hZ20 := zBack X ht20 hB20
      refine lv_iinc (v := iI (l6 - 1)) (lv' := [(6, .int (iI (l6 - 1))), (4, .int (iI l4)), (0, .ref (ad 5 l0 0)), (1, .ref (ad 4 l1 0)), (2, .int (iI l2)), (3, .ref (ad 0 l3 0))]) hx hb d_7_22_76 hl (k := 0) rfl (by rw [show Int32.ofInt (-1) = iI (-1) from rfl, iI_add]; congr 1) (by decide) rfl (fun ls hl => ?_)
      refine lv_goto (tgt := 56) hx hb (D_167 W_prog_7_method_22_code_64 15 rfl rfl rfl) (by decide) ?_
      exact ih hf hZ20 hS20 (lv_sub hl [0, 1, 2, 3, 4, 5] rfl)

def f_Performance_writeVoice_43 (K : zK) (l5 : Int) (l4 : Int) (l0 : Int) (l1 : Int) (l2 : Int) (l3 : Int) (F : zF) (B : zB) : zO := zbind (f_Performance_putMeta K l3 3 l5 F B) (fun r7 F7 B7 => f_Performance_writeVoice_56 K K.1 (l5 - 1) l4 l0 l1 l2 l3 F7 B7)
set_option maxHeartbeats 4000000 in
set_option maxRecDepth 100000 in
theorem b_Performance_writeVoice_43 {D : va_G} {ca : Nat → ClassId} {ad : Nat → Int → Nat → Nat} {L : List Nat} {aS vS : Nat → Nat} {A : Nat → Prop} {p : Program} {l : Launch} {e : Env} {s : State} {m : MethodId} {args : Array Value} {below : List Frame} {meth : Method} {c : Code} {K : zK} {r : Int} {F9 : zF} {B9 : zB} (X : zX D ca L aS vS A p s m args meth c prog_7_method_22_code 7 (Option.none : Option Jvm.ClassFile.FieldType) "StaveHouse$Performance") {l5 : Int} {l4 : Int} {l0 : Int} {l1 : Int} {l2 : Int} {l3 : Int} {F : zF} {B : zB} {H : Heap} {locs : List Loc} {ls : Array Slot} (hf : f_Performance_writeVoice_43 K l5 l4 l0 l1 l2 l3 F B = some (r, F9, B9)) (hZ : zH D ca ad lnC K.2 L F B A H) (hS : va_S A s.heap H locs) (hl : lv_has ls 7 [(5, .int (iI l5)), (4, .int (iI l4)), (0, .ref (ad 5 l0 0)), (1, .ref (ad 4 l1 0)), (2, .int (iI l2)), (3, .ref (ad 0 l3 0))]) : W p l e ({ frames := 6, cells := 0, slots := 0, locals := 127 } : Room) s m args below meth c H locs 0 0 (MQ below (Q_Performance_writeVoice K D ca ad L r F9 B9 A) args s 0 0 A) (F0 m 43 ls []) := by
  obtain ⟨hx, hb, hr, hml, hown, hts, hlk, hK, hA, hL, hX⟩ := id X
  replace hf : (zbind (f_Performance_putMeta K l3 3 l5 F B) (fun r7 F7 B7 => f_Performance_writeVoice_56 K K.1 (l5 - 1) l4 l0 l1 l2 l3 F7 B7)) = some (r, F9, B9) := hf
  refine lv_aload_n hx hb (D_45 W_prog_7_method_22_code_32 11 rfl rfl) rfl (lv_at hl 5 rfl) ?_
  refine lv_iconst (v := iI 3) hx hb (D_6 W_prog_7_method_22_code_32 12 rfl rfl) rfl ?_
  refine lv_iload hx hb (D_21 W_prog_7_method_22_code_32 13 rfl rfl) (lv_at hl 0 rfl) ?_
  obtain ⟨r7, F7, B7, hc7, hf⟩ := gbind hf
  refine va_callv (va_runS (As := [.ref (ad 0 l3 0), .int (iI 3), .int (iI l5)]) (rest := []) ⟨hx, hb, hml, hown, hts⟩ (c_Performance_putMeta (l := l) hc7) (va_cwS 3 hts (gdS k_7_165 k_7_166 k_1_20 k_7_167) rfl rfl rfl (by decide +kernel) ⟨Nat.le_of_ble_eq_true rfl, Nat.le_of_ble_eq_true rfl⟩) (zPS X hZ hS [.ref (ad 0 l3 0), .int (iI 3), .int (iI l5)]) rfl rfl hl.1 rfl (lv_room (Nat.le_of_ble_eq_true rfl)) (D_184 W_prog_7_method_22_code_32 15 rfl rfl rfl) ⟨Nat.le_of_ble_eq_true rfl, Nat.le_of_ble_eq_true rfl⟩) hS (fun q _ h => zAin X hS q h) (zAin X hS) (fun u7 t7 H7 locs7 ht7 hv7 hw7 hB7 hz7 hk7 hS7 => ?_)
  have hZ7 := zBack X ht7 hB7
  refine lv_iload hx hb (D_21 W_prog_7_method_22_code_32 18 rfl rfl) (lv_at hl 0 rfl) ?_
  refine lv_iconst (v := iI 1) hx hb (D_4 W_prog_7_method_22_code_32 20 rfl rfl) rfl ?_
  refine zsub hx hb (D_100 W_prog_7_method_22_code_32 21 rfl rfl) ?_
  refine lv_istore (lv' := [(6, .int (iI (l5 - 1))), (5, .int (iI l5)), (4, .int (iI l4)), (0, .ref (ad 5 l0 0)), (1, .ref (ad 4 l1 0)), (2, .int (iI l2)), (3, .ref (ad 0 l3 0))]) hx hb (D_54 W_prog_7_method_22_code_32 22 rfl rfl) hl (by decide) rfl (fun ls hl => ?_)
  exact b_Performance_writeVoice_56 X hf hZ7 hS7 (lv_sub hl [0, 2, 3, 4, 5, 6] rfl)

def f_Performance_writeVoice_12 (K : zK) : Nat → Int → Int → Int → Int → Int → Int → Int → zF → zB → zO
  | 0, _, _, _, _, _, _, _, _, _ => none
  | n + 1, l6, l5, l4, l0, l1, l2, l3, F, B => if r32 l6 then (if 8 ≤ l6 then f_Performance_writeVoice_43 K l5 l4 l0 l1 l2 l3 F B else if 0 ≤ l1 ∧ l1 < K.2 4 then if r64 (zlushr (F 4 l1 0) (8 * l6)) then (if (zcmp (zlushr (F 4 l1 0) (8 * l6)) 0) = 0 then f_Performance_writeVoice_43 K l5 l4 l0 l1 l2 l3 F B else f_Performance_writeVoice_12 K n (l6 + 1) (l5 + 1) l4 l0 l1 l2 l3 F B) else none else none) else none
set_option maxHeartbeats 4000000 in
set_option maxRecDepth 100000 in
theorem b_Performance_writeVoice_12 {D : va_G} {ca : Nat → ClassId} {ad : Nat → Int → Nat → Nat} {L : List Nat} {aS vS : Nat → Nat} {A : Nat → Prop} {p : Program} {l : Launch} {e : Env} {s : State} {m : MethodId} {args : Array Value} {below : List Frame} {meth : Method} {c : Code} {K : zK} {r : Int} {F9 : zF} {B9 : zB} (X : zX D ca L aS vS A p s m args meth c prog_7_method_22_code 7 (Option.none : Option Jvm.ClassFile.FieldType) "StaveHouse$Performance") : ∀ {n : Nat} {l6 : Int} {l5 : Int} {l4 : Int} {l0 : Int} {l1 : Int} {l2 : Int} {l3 : Int} {F : zF} {B : zB} {H : Heap} {locs : List Loc} {ls : Array Slot}, f_Performance_writeVoice_12 K n l6 l5 l4 l0 l1 l2 l3 F B = some (r, F9, B9) → zH D ca ad lnC K.2 L F B A H → va_S A s.heap H locs → lv_has ls 7 [(6, .int (iI l6)), (5, .int (iI l5)), (4, .int (iI l4)), (0, .ref (ad 5 l0 0)), (1, .ref (ad 4 l1 0)), (2, .int (iI l2)), (3, .ref (ad 0 l3 0))] → W p l e ({ frames := 6, cells := 0, slots := 0, locals := 127 } : Room) s m args below meth c H locs 0 0 (MQ below (Q_Performance_writeVoice K D ca ad L r F9 B9 A) args s 0 0 A) (F0 m 12 ls []) := by
  obtain ⟨hx, hb, hr, hml, hown, hts, hlk, hK, hA, hL, hX⟩ := id X
  intro n
  induction n with
  | zero =>
    intros
    rename_i hf _ _ _
    cases hf
  | succ n ih =>
    intro l6 l5 l4 l0 l1 l2 l3 F B H locs ls hf hZ hS hl
    replace hf : (if r32 l6 then (if 8 ≤ l6 then f_Performance_writeVoice_43 K l5 l4 l0 l1 l2 l3 F B else if 0 ≤ l1 ∧ l1 < K.2 4 then if r64 (zlushr (F 4 l1 0) (8 * l6)) then (if (zcmp (zlushr (F 4 l1 0) (8 * l6)) 0) = 0 then f_Performance_writeVoice_43 K l5 l4 l0 l1 l2 l3 F B else f_Performance_writeVoice_12 K n (l6 + 1) (l5 + 1) l4 l0 l1 l2 l3 F B) else none else none) else none) = some (r, F9, B9) := hf
    refine lv_iload hx hb (D_21 W_prog_7_method_22_code_0 12 rfl rfl) (lv_at hl 0 rfl) ?_
    refine lv_bipush (v := iI 8) hx hb (D_16 W_prog_7_method_22_code_0 14 rfl rfl rfl) (by decide) ?_
    obtain ⟨g2, hf⟩ := gif hf
    refine zge (tgt := 43) hx hb g2 (by decide) (D_162 W_prog_7_method_22_code_0 16 rfl rfl rfl) (by decide) (fun h3 => ?_) (fun h3 => ?_)
    · replace hf := gpos hf h3
      exact b_Performance_writeVoice_43 X hf hZ hS (lv_sub hl [1, 2, 3, 4, 5, 6] rfl)
    · replace hf := gneg hf h3
      refine lv_aload_n hx hb (D_43 W_prog_7_method_22_code_0 19 rfl rfl) rfl (lv_at hl 4 rfl) ?_
      obtain ⟨g4, hf⟩ := gif hf
      refine zget (ci := 4) (C := RX4) (T := TX4) (v := .long (lI (F 4 l1 0))) (k := 0) hx hb hts inW_4 hown hK hZ g4.1 g4.2 rfl (by decide) k_4_118 rfl (D_180 W_prog_7_method_22_code_0 20 rfl rfl rfl) ?_
      refine lv_bipush (v := iI 8) hx hb (D_16 W_prog_7_method_22_code_0 23 rfl rfl rfl) (by decide) ?_
      refine lv_iload hx hb (D_21 W_prog_7_method_22_code_0 25 rfl rfl) (lv_at hl 0 rfl) ?_
      refine zmul hx hb (D_104 W_prog_7_method_22_code_0 27 rfl rfl) ?_
      refine zlushr_r hx hb (D_125 W_prog_7_method_22_code_0 28 rfl rfl) ?_
      refine lv_lconst (v := lI 0) hx hb (D_9 W_prog_7_method_22_code_0 29 rfl rfl) (by decide) ?_
      obtain ⟨g5, hf⟩ := gif hf
      refine zcmp_r hx hb g5 (by decide) (D_148 W_prog_7_method_22_code_0 30 rfl rfl) ?_
      refine z0eq (tgt := 43) hx hb zcmp_32 (D_153 W_prog_7_method_22_code_0 31 rfl rfl rfl) (by decide) (fun h6 => ?_) (fun h6 => ?_)
      · replace hf := gpos hf h6
        exact b_Performance_writeVoice_43 X hf hZ hS (lv_sub hl [1, 2, 3, 4, 5, 6] rfl)
      · replace hf := gneg hf h6
        refine lv_iinc (v := iI (l5 + 1)) (lv' := [(5, .int (iI (l5 + 1))), (6, .int (iI l6)), (4, .int (iI l4)), (0, .ref (ad 5 l0 0)), (1, .ref (ad 4 l1 0)), (2, .int (iI l2)), (3, .ref (ad 0 l3 0))]) hx hb d_7_22_34 hl (k := 1) rfl (iI_add _ 1) (by decide) rfl (fun ls hl => ?_)
        refine lv_iinc (v := iI (l6 + 1)) (lv' := [(6, .int (iI (l6 + 1))), (5, .int (iI (l5 + 1))), (4, .int (iI l4)), (0, .ref (ad 5 l0 0)), (1, .ref (ad 4 l1 0)), (2, .int (iI l2)), (3, .ref (ad 0 l3 0))]) hx hb d_7_22_37 hl (k := 1) rfl (iI_add _ 1) (by decide) rfl (fun ls hl => ?_)
        refine lv_goto (tgt := 12) hx hb (D_167 W_prog_7_method_22_code_32 8 rfl rfl rfl) (by decide) ?_
        exact ih hf hZ hS (lv_sub hl [0, 1, 2, 3, 4, 5, 6] rfl)

def f_Performance_writeVoice (K : zK) (l0 : Int) (l1 : Int) (l2 : Int) (l3 : Int) (F : zF) (B : zB) : zO := zbind (f_Performance_beginTrack K l3 F B) (fun r1 F1 B1 => f_Performance_writeVoice_12 K K.1 0 0 r1 l0 l1 l2 l3 F1 B1)
set_option maxHeartbeats 4000000 in
set_option maxRecDepth 100000 in
theorem c_Performance_writeVoice {l : Launch} {D : va_G} {ca : Nat → ClassId} {ad : Nat → Int → Nat → Nat} {L : List Nat} {aS vS : Nat → Nat} {sz : Nat} {K : zK}  {l0 : Int} {l1 : Int} {l2 : Int} {l3 : Int} {F F9 : zF} {B B9 : zB} {r : Int} (hf : f_Performance_writeVoice K l0 l1 l2 l3 F B = some (r, F9, B9)) : Met l ({ cls := "StaveHouse$Performance", name := "writeVoice", desc := "(LStaveHouse$Part;ILStaveHouse$ByteRow;)V" } : Jvm.MethodName) (Cond.code ({ cls := "StaveHouse$Performance", name := "writeVoice", desc := "(LStaveHouse$Part;ILStaveHouse$ByteRow;)V" } : Jvm.MethodName) prog_7_method_22_code 7 (Option.none : Option Jvm.ClassFile.FieldType) :: wAll) ({ frames := 6, cells := 0, slots := 0, locals := 127 } : Room) (va_Pc [.ref (ad 5 l0 0), .ref (ad 4 l1 0), .int (iI l2), .ref (ad 0 l3 0)] (zPre D ca ad lnC K.2 L aS vS F B sz)) (Q_Performance_writeVoice K D ca ad L r F9 B9 (zA L sz)) 0 0 (zA L sz) := by
  refine zMet (Qc := Q_Performance_writeVoice K D ca ad L r F9 B9) (lv := [(0, .ref (ad 5 l0 0)), (1, .ref (ad 4 l1 0)), (2, .int (iI l2)), (3, .ref (ad 0 l3 0))]) (by decide) (Nat.le_of_ble_eq_true rfl) rfl (fun A p e s m below meth c ls X hZ hS hl => ?_)
  obtain ⟨hx, hb, hr, hml, hown, hts, hlk, hK, hA, hL, hX⟩ := id X
  replace hf : (zbind (f_Performance_beginTrack K l3 F B) (fun r1 F1 B1 => f_Performance_writeVoice_12 K K.1 0 0 r1 l0 l1 l2 l3 F1 B1)) = some (r, F9, B9) := hf
  refine lv_aload_n hx hb (D_45 W_prog_7_method_22_code_0 0 rfl rfl) rfl (lv_at hl 3 rfl) ?_
  obtain ⟨r1, F1, B1, hc1, hf⟩ := gbind hf
  refine va_calli (va_runS (As := [.ref (ad 0 l3 0)]) (rest := []) ⟨hx, hb, hml, hown, hts⟩ (c_Performance_beginTrack (l := l) hc1) (va_cwS 1 hts (gdS k_7_161 k_7_162 k_1_20 k_7_163) rfl rfl rfl (by decide +kernel) ⟨Nat.le_of_ble_eq_true rfl, Nat.le_of_ble_eq_true rfl⟩) (zPS X hZ hS [.ref (ad 0 l3 0)]) rfl rfl hl.1 rfl (lv_room (Nat.le_of_ble_eq_true rfl)) (D_184 W_prog_7_method_22_code_0 1 rfl rfl rfl) ⟨Nat.le_of_ble_eq_true rfl, Nat.le_of_ble_eq_true rfl⟩) hS (fun q _ h => zAin X hS q h) (zAin X hS) (fun p1 u1 t1 H1 locs1 ht1 hv1 hw1 hB1 hz1 hk1 hS1 => ?_)
  have hZ1 := zBack X ht1 hB1
  subst hw1
  refine lv_istore (lv' := [(4, .int (iI r1)), (0, .ref (ad 5 l0 0)), (1, .ref (ad 4 l1 0)), (2, .int (iI l2)), (3, .ref (ad 0 l3 0))]) hx hb (D_54 W_prog_7_method_22_code_0 4 rfl rfl) hl (by decide) rfl (fun ls hl => ?_)
  refine lv_iconst (v := iI 0) hx hb (D_3 W_prog_7_method_22_code_0 6 rfl rfl) rfl ?_
  refine lv_istore (lv' := [(5, .int (iI 0)), (4, .int (iI r1)), (0, .ref (ad 5 l0 0)), (1, .ref (ad 4 l1 0)), (2, .int (iI l2)), (3, .ref (ad 0 l3 0))]) hx hb (D_54 W_prog_7_method_22_code_0 7 rfl rfl) hl (by decide) rfl (fun ls hl => ?_)
  refine lv_iconst (v := iI 0) hx hb (D_3 W_prog_7_method_22_code_0 9 rfl rfl) rfl ?_
  refine lv_istore (lv' := [(6, .int (iI 0)), (5, .int (iI 0)), (4, .int (iI r1)), (0, .ref (ad 5 l0 0)), (1, .ref (ad 4 l1 0)), (2, .int (iI l2)), (3, .ref (ad 0 l3 0))]) hx hb (D_54 W_prog_7_method_22_code_0 10 rfl rfl) hl (by decide) rfl (fun ls hl => ?_)
  exact b_Performance_writeVoice_12 X hf hZ1 hS1 (lv_sub hl [0, 1, 2, 3, 4, 5, 6] rfl)

abbrev Q_SoundFile_loadHead (K : zK) (D : va_G) (ca : Nat → ClassId) (ad : Nat → Int → Nat → Nat) (L : List Nat) (r : Int) (F : zF) (B : zB) (A : Nat → Prop) : Array Value → State → Outcome → State → Prop := va_Qv (S := Unit) (fun _ => True) (fun _ => zPo D ca ad lnC K.2 L F B A) A
def f_SoundFile_loadHead_58 (K : zK) (l3 : Int) (l0 : Int) (F : zF) (B : zB) : zO := if 0 ≤ l0 ∧ l0 < K.2 8 then zbind (f_SoundFile_takeOnly K l0 0 0 F B) (fun r16 F16 B16 => zbind (f_SoundFile_takeOnly K l0 0 1 F16 B16) (fun r17 F17 B17 => zbind (f_SoundFile_takeBounded K l0 2 1 8 F17 B17) (fun r18 F18 B18 => zbind (f_SoundFile_takeBounded K l0 2 1 960 F18 (zup4 B18 8 l0 0 0 r18)) (fun r20 F20 B20 => zbind (f_SoundFile_skip K l0 (l3 - 6) F20 (zup4 B20 8 l0 0 1 r20)) (fun r22 F22 B22 => some (0, F22, B22)))))) else none
set_option maxHeartbeats 4000000 in
set_option maxRecDepth 100000 in
theorem b_SoundFile_loadHead_58 {D : va_G} {ca : Nat → ClassId} {ad : Nat → Int → Nat → Nat} {L : List Nat} {aS vS : Nat → Nat} {A : Nat → Prop} {p : Program} {l : Launch} {e : Env} {s : State} {m : MethodId} {args : Array Value} {below : List Frame} {meth : Method} {c : Code} {K : zK} {r : Int} {F9 : zF} {B9 : zB} (X : zX D ca L aS vS A p s m args meth c prog_10_method_12_code 5 (Option.none : Option Jvm.ClassFile.FieldType) "StaveHouse$SoundFile") {l3 : Int} {l0 : Int} {F : zF} {B : zB} {H : Heap} {locs : List Loc} {ls : Array Slot} (hf : f_SoundFile_loadHead_58 K l3 l0 F B = some (r, F9, B9)) (hZ : zH D ca ad lnC K.2 L F B A H) (hS : va_S A s.heap H locs) (hl : lv_has ls 5 [(3, .long (lI l3)), (0, .ref (ad 8 l0 0))]) : W p l e ({ frames := 4, cells := 0, slots := 0, locals := 94 } : Room) s m args below meth c H locs 0 0 (MQ below (Q_SoundFile_loadHead K D ca ad L r F9 B9 A) args s 0 0 A) (F0 m 58 ls []) := by
  obtain ⟨hx, hb, hr, hml, hown, hts, hlk, hK, hA, hL, hX⟩ := id X
  replace hf : (if 0 ≤ l0 ∧ l0 < K.2 8 then zbind (f_SoundFile_takeOnly K l0 0 0 F B) (fun r16 F16 B16 => zbind (f_SoundFile_takeOnly K l0 0 1 F16 B16) (fun r17 F17 B17 => zbind (f_SoundFile_takeBounded K l0 2 1 8 F17 B17) (fun r18 F18 B18 => zbind (f_SoundFile_takeBounded K l0 2 1 960 F18 (zup4 B18 8 l0 0 0 r18)) (fun r20 F20 B20 => zbind (f_SoundFile_skip K l0 (l3 - 6) F20 (zup4 B20 8 l0 0 1 r20)) (fun r22 F22 B22 => some (0, F22, B22)))))) else none) = some (r, F9, B9) := hf
  refine lv_aload_n hx hb (D_42 W_prog_10_method_12_code_32 26 rfl rfl) rfl (lv_at hl 1 rfl) ?_
  refine lv_iconst (v := iI 0) hx hb (D_3 W_prog_10_method_12_code_32 27 rfl rfl) rfl ?_
  refine lv_iconst (v := iI 0) hx hb (D_3 W_prog_10_method_12_code_32 28 rfl rfl) rfl ?_
  obtain ⟨g15, hf⟩ := gif hf
  obtain ⟨r16, F16, B16, hc16, hf⟩ := gbind hf
  refine va_callv (va_runV (As := [.int (iI 0), .int (iI 0)]) (rest := []) ⟨hx, hb, hml, hown, hts⟩ (c_SoundFile_takeOnly (l := l) hc16) (cwV 2 hts (gdV k_8_45 k_8_47 ks_94 k_1_23 k_8_48) rfl rfl rfl (by decide +kernel) ⟨Nat.le_of_ble_eq_true rfl, Nat.le_of_ble_eq_true rfl⟩) (zPV X hZ hS (ci := 8) g15.1 g15.2 (r := (RX8, TX8, 15)) rfl [.int (iI 0), .int (iI 0)]) rfl rfl hl.1 rfl (lv_room (Nat.le_of_ble_eq_true rfl)) (D_182 W_prog_10_method_12_code_32 29 rfl rfl rfl) ⟨Nat.le_of_ble_eq_true rfl, Nat.le_of_ble_eq_true rfl⟩) hS (fun q _ h => zAin X hS q h) (zAin X hS) (fun u16 t16 H16 locs16 ht16 hv16 hw16 hB16 hz16 hk16 hS16 => ?_)
  have hZ16 := zBack X ht16 hB16
  refine lv_aload_n hx hb (D_42 W_prog_10_method_12_code_64 0 rfl rfl) rfl (lv_at hl 1 rfl) ?_
  refine lv_iconst (v := iI 0) hx hb (D_3 W_prog_10_method_12_code_64 1 rfl rfl) rfl ?_
  refine lv_iconst (v := iI 1) hx hb (D_4 W_prog_10_method_12_code_64 2 rfl rfl) rfl ?_
  obtain ⟨r17, F17, B17, hc17, hf⟩ := gbind hf
  refine va_callv (va_runV (As := [.int (iI 0), .int (iI 1)]) (rest := []) ⟨hx, hb, hml, hown, hts⟩ (c_SoundFile_takeOnly (l := l) hc17) (cwV 2 hts (gdV k_8_45 k_8_47 ks_94 k_1_23 k_8_48) rfl rfl rfl (by decide +kernel) ⟨Nat.le_of_ble_eq_true rfl, Nat.le_of_ble_eq_true rfl⟩) (zPV X hZ16 hS16 (ci := 8) g15.1 g15.2 (r := (RX8, TX8, 15)) rfl [.int (iI 0), .int (iI 1)]) rfl rfl hl.1 rfl (lv_room (Nat.le_of_ble_eq_true rfl)) (D_182 W_prog_10_method_12_code_64 3 rfl rfl rfl) ⟨Nat.le_of_ble_eq_true rfl, Nat.le_of_ble_eq_true rfl⟩) hS16 (fun q _ h => zAin X hS16 q h) (zAin X hS16) (fun u17 t17 H17 locs17 ht17 hv17 hw17 hB17 hz17 hk17 hS17 => ?_)
  have hZ17 := zBack X ht17 hB17
  refine lv_aload_n hx hb (D_42 W_prog_10_method_12_code_64 6 rfl rfl) rfl (lv_at hl 1 rfl) ?_
  refine zget (ci := 8) (C := RX8) (T := TX8) (v := .ref (ad 8 l0 (0 + 1))) (k := 0) hx hb hts inW_8 hown hK hZ17 g15.1 g15.2 rfl (by decide) k_7_217 rfl (D_180 W_prog_10_method_12_code_64 7 rfl rfl rfl) ?_
  refine lv_iconst (v := iI 0) hx hb (D_3 W_prog_10_method_12_code_64 10 rfl rfl) rfl ?_
  refine lv_aload_n hx hb (D_42 W_prog_10_method_12_code_64 11 rfl rfl) rfl (lv_at hl 1 rfl) ?_
  refine lv_iconst (v := iI 2) hx hb (D_5 W_prog_10_method_12_code_64 12 rfl rfl) rfl ?_
  refine lv_lconst (v := lI 1) hx hb (D_10 W_prog_10_method_12_code_64 13 rfl rfl) (by decide) ?_
  refine lv_ldc2 hx hb hown (hts _ k_8_64) (D_20 W_prog_10_method_12_code_64 14 rfl rfl rfl) ?_
  refine W.eq (g2 := F0 m 81 ls [.long (lI 8), .long (lI 1), .int (iI 2), .ref (ad 8 l0 0), .int (iI 0), .ref (ad 8 l0 (0 + 1))]) rfl ?_
  obtain ⟨r18, F18, B18, hc18, hf⟩ := gbind hf
  refine va_calli (va_runV (As := [.int (iI 2), .long (lI 1), .long (lI 8)]) (rest := [.int (iI 0), .ref (ad 8 l0 (0 + 1))]) ⟨hx, hb, hml, hown, hts⟩ (c_SoundFile_takeBounded (l := l) hc18) (cwV 3 hts (gdV k_8_65 k_8_67 ks_98 k_1_23 k_8_68) rfl rfl rfl (by decide +kernel) ⟨Nat.le_of_ble_eq_true rfl, Nat.le_of_ble_eq_true rfl⟩) (zPV X hZ17 hS17 (ci := 8) g15.1 g15.2 (r := (RX8, TX8, 15)) rfl [.int (iI 2), .long (lI 1), .long (lI 8)]) rfl rfl hl.1 rfl (lv_room (Nat.le_of_ble_eq_true rfl)) (D_182 W_prog_10_method_12_code_64 17 rfl rfl rfl) ⟨Nat.le_of_ble_eq_true rfl, Nat.le_of_ble_eq_true rfl⟩) hS17 (fun q _ h => zAin X hS17 q h) (zAin X hS17) (fun p18 u18 t18 H18 locs18 ht18 hv18 hw18 hB18 hz18 hk18 hS18 => ?_)
  have hZ18 := zBack X ht18 hB18
  subst hw18
  refine zast (ci := 8) (k := 0) hx hb hK rfl hZ18 hS18 g15.1 g15.2 rfl (Nat.le_of_ble_eq_true rfl) (by decide) (show (0 : Int) < 7 by decide) (D_79 W_prog_10_method_12_code_64 20 rfl rfl) (fun H19 locs19 hZ19 hS19 => ?_)
  refine lv_aload_n hx hb (D_42 W_prog_10_method_12_code_64 21 rfl rfl) rfl (lv_at hl 1 rfl) ?_
  refine zget (ci := 8) (C := RX8) (T := TX8) (v := .ref (ad 8 l0 (0 + 1))) (k := 0) hx hb hts inW_8 hown hK hZ19 g15.1 g15.2 rfl (by decide) k_7_217 rfl (D_180 W_prog_10_method_12_code_64 22 rfl rfl rfl) ?_
  refine lv_iconst (v := iI 1) hx hb (D_4 W_prog_10_method_12_code_64 25 rfl rfl) rfl ?_
  refine lv_aload_n hx hb (D_42 W_prog_10_method_12_code_64 26 rfl rfl) rfl (lv_at hl 1 rfl) ?_
  refine lv_iconst (v := iI 2) hx hb (D_5 W_prog_10_method_12_code_64 27 rfl rfl) rfl ?_
  refine lv_lconst (v := lI 1) hx hb (D_10 W_prog_10_method_12_code_64 28 rfl rfl) (by decide) ?_
  refine lv_ldc2 hx hb hown (hts _ k_8_69) (D_20 W_prog_10_method_12_code_64 29 rfl rfl rfl) ?_
  refine W.eq (g2 := F0 m 96 ls [.long (lI 960), .long (lI 1), .int (iI 2), .ref (ad 8 l0 0), .int (iI 1), .ref (ad 8 l0 (0 + 1))]) rfl ?_
  obtain ⟨r20, F20, B20, hc20, hf⟩ := gbind hf
  refine va_calli (va_runV (As := [.int (iI 2), .long (lI 1), .long (lI 960)]) (rest := [.int (iI 1), .ref (ad 8 l0 (0 + 1))]) ⟨hx, hb, hml, hown, hts⟩ (c_SoundFile_takeBounded (l := l) hc20) (cwV 3 hts (gdV k_8_65 k_8_67 ks_98 k_1_23 k_8_68) rfl rfl rfl (by decide +kernel) ⟨Nat.le_of_ble_eq_true rfl, Nat.le_of_ble_eq_true rfl⟩) (zPV X hZ19 hS19 (ci := 8) g15.1 g15.2 (r := (RX8, TX8, 15)) rfl [.int (iI 2), .long (lI 1), .long (lI 960)]) rfl rfl hl.1 rfl (lv_room (Nat.le_of_ble_eq_true rfl)) (D_182 W_prog_10_method_12_code_96 0 rfl rfl rfl) ⟨Nat.le_of_ble_eq_true rfl, Nat.le_of_ble_eq_true rfl⟩) hS19 (fun q _ h => zAin X hS19 q h) (zAin X hS19) (fun p20 u20 t20 H20 locs20 ht20 hv20 hw20 hB20 hz20 hk20 hS20 => ?_)
  have hZ20 := zBack X ht20 hB20
  subst hw20
  refine zast (ci := 8) (k := 0) hx hb hK rfl hZ20 hS20 g15.1 g15.2 rfl (Nat.le_of_ble_eq_true rfl) (by decide) (show (1 : Int) < 7 by decide) (D_79 W_prog_10_method_12_code_96 3 rfl rfl) (fun H21 locs21 hZ21 hS21 => ?_)
  refine lv_aload_n hx hb (D_42 W_prog_10_method_12_code_96 4 rfl rfl) rfl (lv_at hl 1 rfl) ?_
  refine lv_lload_n hx hb (D_33 W_prog_10_method_12_code_96 5 rfl rfl) rfl (lv_at hl 0 rfl) ?_
  refine lv_ldc2 hx hb hown (hts _ k_8_63) (D_20 W_prog_10_method_12_code_96 6 rfl rfl rfl) ?_
  refine W.eq (g2 := F0 m 105 ls [.long (lI 6), .long (lI l3), .ref (ad 8 l0 0)]) rfl ?_
  refine zlsub hx hb (D_101 W_prog_10_method_12_code_96 9 rfl rfl) ?_
  obtain ⟨r22, F22, B22, hc22, hf⟩ := gbind hf
  refine va_callv (va_runV (As := [.long (lI (l3 - 6))]) (rest := []) ⟨hx, hb, hml, hown, hts⟩ (c_SoundFile_skip (l := l) hc22) (cwV 1 hts (gdV k_8_70 k_8_72 ks_99 k_1_23 k_8_73) rfl rfl rfl (by decide +kernel) ⟨Nat.le_of_ble_eq_true rfl, Nat.le_of_ble_eq_true rfl⟩) (zPV X hZ21 hS21 (ci := 8) g15.1 g15.2 (r := (RX8, TX8, 15)) rfl [.long (lI (l3 - 6))]) rfl rfl hl.1 rfl (lv_room (Nat.le_of_ble_eq_true rfl)) (D_182 W_prog_10_method_12_code_96 10 rfl rfl rfl) ⟨Nat.le_of_ble_eq_true rfl, Nat.le_of_ble_eq_true rfl⟩) hS21 (fun q _ h => zAin X hS21 q h) (zAin X hS21) (fun u22 t22 H22 locs22 ht22 hv22 hw22 hB22 hz22 hk22 hS22 => ?_)
  have hZ22 := zBack X ht22 hB22
  cases hf
  exact W.vret hx hb hr (fun t ht hW => ⟨⟨(), rfl, trivial, by rw [ht]; exact hZ22, va_K.moved hW.alike hK⟩, hS22.F ht⟩) hS22.2.2 (D_177 W_prog_10_method_12_code_96 13 rfl rfl) hlk

def f_SoundFile_loadHead_5 (K : zK) : Nat → Int → Nat → Int → zF → zB → zO
  | 0, _, _, _, _, _ => none
  | n + 1, l2, l1, l0, F, B => if l1 < strL.length then zbind (f_CString_length K l1 F B) (fun r2 F2 B2 => if r32 l2 then if r32 r2 then (if r2 ≤ l2 then if 0 ≤ l0 ∧ l0 < K.2 8 then zbind (f_SoundFile_takeWide K l0 4 F2 B2) (fun r7 F7 B7 => if r64 r7 then (if 0 ≤ (zcmp r7 6) then f_SoundFile_loadHead_58 K r7 l0 F7 B7 else zbind (f_SoundFile_refuse K l0 3 (F2 8 l0 5) F7 B7) (fun r10 F10 B10 => f_SoundFile_loadHead_58 K r7 l0 F10 B10)) else none) else none else zbind (f_CString_charAt K l1 l2 F2 B2) (fun r11 F11 B11 => zbind (f_CString_charAt K l1 l2 F11 B11) (fun r12 F12 B12 => if 0 ≤ l0 ∧ l0 < K.2 8 then zbind (f_SoundFile_takeOnly K l0 r11 r12 F12 B12) (fun r14 F14 B14 => f_SoundFile_loadHead_5 K n (l2 + 1) l1 l0 F14 B14) else none))) else none else none) else none
set_option maxHeartbeats 4000000 in
set_option maxRecDepth 100000 in
theorem b_SoundFile_loadHead_5 {D : va_G} {ca : Nat → ClassId} {ad : Nat → Int → Nat → Nat} {L : List Nat} {aS vS : Nat → Nat} {A : Nat → Prop} {p : Program} {l : Launch} {e : Env} {s : State} {m : MethodId} {args : Array Value} {below : List Frame} {meth : Method} {c : Code} {K : zK} {r : Int} {F9 : zF} {B9 : zB} (X : zX D ca L aS vS A p s m args meth c prog_10_method_12_code 5 (Option.none : Option Jvm.ClassFile.FieldType) "StaveHouse$SoundFile") : ∀ {n : Nat} {l2 : Int} {l1 : Nat} {l0 : Int} {F : zF} {B : zB} {H : Heap} {locs : List Loc} {ls : Array Slot}, f_SoundFile_loadHead_5 K n l2 l1 l0 F B = some (r, F9, B9) → zH D ca ad lnC K.2 L F B A H → va_S A s.heap H locs → lv_has ls 5 [(2, .int (iI l2)), (1, .ref (aS l1)), (0, .ref (ad 8 l0 0))] → W p l e ({ frames := 4, cells := 0, slots := 0, locals := 94 } : Room) s m args below meth c H locs 0 0 (MQ below (Q_SoundFile_loadHead K D ca ad L r F9 B9 A) args s 0 0 A) (F0 m 5 ls []) := by
  obtain ⟨hx, hb, hr, hml, hown, hts, hlk, hK, hA, hL, hX⟩ := id X
  intro n
  induction n with
  | zero =>
    intros
    rename_i hf _ _ _
    cases hf
  | succ n ih =>
    intro l2 l1 l0 F B H locs ls hf hZ hS hl
    replace hf : (if l1 < strL.length then zbind (f_CString_length K l1 F B) (fun r2 F2 B2 => if r32 l2 then if r32 r2 then (if r2 ≤ l2 then if 0 ≤ l0 ∧ l0 < K.2 8 then zbind (f_SoundFile_takeWide K l0 4 F2 B2) (fun r7 F7 B7 => if r64 r7 then (if 0 ≤ (zcmp r7 6) then f_SoundFile_loadHead_58 K r7 l0 F7 B7 else zbind (f_SoundFile_refuse K l0 3 (F2 8 l0 5) F7 B7) (fun r10 F10 B10 => f_SoundFile_loadHead_58 K r7 l0 F10 B10)) else none) else none else zbind (f_CString_charAt K l1 l2 F2 B2) (fun r11 F11 B11 => zbind (f_CString_charAt K l1 l2 F11 B11) (fun r12 F12 B12 => if 0 ≤ l0 ∧ l0 < K.2 8 then zbind (f_SoundFile_takeOnly K l0 r11 r12 F12 B12) (fun r14 F14 B14 => f_SoundFile_loadHead_5 K n (l2 + 1) l1 l0 F14 B14) else none))) else none else none) else none) = some (r, F9, B9) := hf
    refine lv_iload_n hx hb (D_28 W_prog_10_method_12_code_0 5 rfl rfl) rfl (lv_at hl 0 rfl) ?_
    refine lv_aload_n hx hb (D_43 W_prog_10_method_12_code_0 6 rfl rfl) rfl (lv_at hl 1 rfl) ?_
    obtain ⟨g1, hf⟩ := gif hf
    obtain ⟨r2, F2, B2, hc2, hf⟩ := gbind hf
    refine va_calli (va_runV (As := []) (rest := [.int (iI l2)]) ⟨hx, hb, hml, hown, hts⟩ (c_CString_length (l := l) hc2) (cwV 0 hts (gdV k_8_43 k_3_82 k_3_83 k_1_11 k_3_84) rfl rfl rfl (by decide +kernel) ⟨Nat.le_of_ble_eq_true rfl, Nat.le_of_ble_eq_true rfl⟩) ⟨zBlind, zsrecv hX g1 hS, zAt X hZ hS [.ref (aS l1)]⟩ rfl rfl hl.1 rfl (lv_room (Nat.le_of_ble_eq_true rfl)) (D_182 W_prog_10_method_12_code_0 7 rfl rfl rfl) ⟨Nat.le_of_ble_eq_true rfl, Nat.le_of_ble_eq_true rfl⟩) hS (fun q _ h => zAin X hS q h) (zAin X hS) (fun p2 u2 t2 H2 locs2 ht2 hv2 hw2 hB2 hz2 hk2 hS2 => ?_)
    have hZ2 := zBack X ht2 hB2
    subst hw2
    obtain ⟨g3, hf⟩ := gif hf
    obtain ⟨g4, hf⟩ := gif hf
    refine zge (tgt := 33) hx hb g3 g4 (D_162 W_prog_10_method_12_code_0 10 rfl rfl rfl) (by decide) (fun h5 => ?_) (fun h5 => ?_)
    · replace hf := gpos hf h5
      refine lv_aload_n hx hb (D_42 W_prog_10_method_12_code_32 1 rfl rfl) rfl (lv_at hl 2 rfl) ?_
      obtain ⟨g6, hf⟩ := gif hf
      refine zget (ci := 8) (C := RX8) (T := TX8) (v := .int (iI (F2 8 l0 5))) (k := 5) hx hb hts inW_8 hown hK hZ2 g6.1 g6.2 rfl (by decide) k_7_229 rfl (D_180 W_prog_10_method_12_code_32 2 rfl rfl rfl) ?_
      refine lv_istore_n (lv' := [(2, .int (iI (F2 8 l0 5))), (1, .ref (aS l1)), (0, .ref (ad 8 l0 0))]) hx hb (D_61 W_prog_10_method_12_code_32 5 rfl rfl) rfl hl (by decide) rfl (fun ls hl => ?_)
      refine lv_aload_n hx hb (D_42 W_prog_10_method_12_code_32 6 rfl rfl) rfl (lv_at hl 2 rfl) ?_
      refine lv_iconst (v := iI 4) hx hb (D_7 W_prog_10_method_12_code_32 7 rfl rfl) rfl ?_
      obtain ⟨r7, F7, B7, hc7, hf⟩ := gbind hf
      refine va_calll (va_runV (As := [.int (iI 4)]) (rest := []) ⟨hx, hb, hml, hown, hts⟩ (c_SoundFile_takeWide (l := l) hc7) (cwV 1 hts (gdV k_8_58 k_8_60 ks_97 k_1_23 k_8_61) rfl rfl rfl (by decide +kernel) ⟨Nat.le_of_ble_eq_true rfl, Nat.le_of_ble_eq_true rfl⟩) (zPV X hZ2 hS2 (ci := 8) g6.1 g6.2 (r := (RX8, TX8, 15)) rfl [.int (iI 4)]) rfl rfl hl.1 rfl (lv_room (Nat.le_of_ble_eq_true rfl)) (D_182 W_prog_10_method_12_code_32 8 rfl rfl rfl) ⟨Nat.le_of_ble_eq_true rfl, Nat.le_of_ble_eq_true rfl⟩) hS2 (fun q _ h => zAin X hS2 q h) (zAin X hS2) (fun p7 u7 t7 H7 locs7 ht7 hv7 hw7 hB7 hz7 hk7 hS7 => ?_)
      have hZ7 := zBack X ht7 hB7
      subst hw7
      refine lv_lstore_n (lv' := [(3, .long (lI r7)), (2, .int (iI (F2 8 l0 5))), (1, .ref (aS l1)), (0, .ref (ad 8 l0 0))]) hx hb (D_66 W_prog_10_method_12_code_32 11 rfl rfl) rfl hl (by decide) rfl (fun ls hl => ?_)
      refine lv_lload_n hx hb (D_33 W_prog_10_method_12_code_32 12 rfl rfl) rfl (lv_at hl 0 rfl) ?_
      refine lv_ldc2 hx hb hown (hts _ k_8_63) (D_20 W_prog_10_method_12_code_32 13 rfl rfl rfl) ?_
      refine W.eq (g2 := F0 m 48 ls [.long (lI 6), .long (lI r7)]) rfl ?_
      obtain ⟨g8, hf⟩ := gif hf
      refine zcmp_r hx hb g8 (by decide) (D_148 W_prog_10_method_12_code_32 16 rfl rfl) ?_
      refine z0ge (tgt := 58) hx hb zcmp_32 (D_156 W_prog_10_method_12_code_32 17 rfl rfl rfl) (by decide) (fun h9 => ?_) (fun h9 => ?_)
      · replace hf := gpos hf h9
        exact b_SoundFile_loadHead_58 X hf hZ7 hS7 (lv_sub hl [0, 3] rfl)
      · replace hf := gneg hf h9
        refine lv_aload_n hx hb (D_42 W_prog_10_method_12_code_32 20 rfl rfl) rfl (lv_at hl 3 rfl) ?_
        refine lv_iconst (v := iI 3) hx hb (D_6 W_prog_10_method_12_code_32 21 rfl rfl) rfl ?_
        refine lv_iload_n hx hb (D_28 W_prog_10_method_12_code_32 22 rfl rfl) rfl (lv_at hl 1 rfl) ?_
        obtain ⟨r10, F10, B10, hc10, hf⟩ := gbind hf
        refine va_callv (va_runV (As := [.int (iI 3), .int (iI (F2 8 l0 5))]) (rest := []) ⟨hx, hb, hml, hown, hts⟩ (c_SoundFile_refuse (l := l) hc10) (cwV 2 hts (gdV k_8_53 k_8_55 ks_96 k_1_23 k_8_56) rfl rfl rfl (by decide +kernel) ⟨Nat.le_of_ble_eq_true rfl, Nat.le_of_ble_eq_true rfl⟩) (zPV X hZ7 hS7 (ci := 8) g6.1 g6.2 (r := (RX8, TX8, 15)) rfl [.int (iI 3), .int (iI (F2 8 l0 5))]) rfl rfl hl.1 rfl (lv_room (Nat.le_of_ble_eq_true rfl)) (D_182 W_prog_10_method_12_code_32 23 rfl rfl rfl) ⟨Nat.le_of_ble_eq_true rfl, Nat.le_of_ble_eq_true rfl⟩) hS7 (fun q _ h => zAin X hS7 q h) (zAin X hS7) (fun u10 t10 H10 locs10 ht10 hv10 hw10 hB10 hz10 hk10 hS10 => ?_)
        have hZ10 := zBack X ht10 hB10
        exact b_SoundFile_loadHead_58 X hf hZ10 hS10 (lv_sub hl [0, 3] rfl)
    · replace hf := gneg hf h5
      refine lv_aload_n hx hb (D_42 W_prog_10_method_12_code_0 13 rfl rfl) rfl (lv_at hl 2 rfl) ?_
      refine lv_aload_n hx hb (D_43 W_prog_10_method_12_code_0 14 rfl rfl) rfl (lv_at hl 1 rfl) ?_
      refine lv_iload_n hx hb (D_28 W_prog_10_method_12_code_0 15 rfl rfl) rfl (lv_at hl 0 rfl) ?_
      obtain ⟨r11, F11, B11, hc11, hf⟩ := gbind hf
      refine va_calli (va_runV (As := [.int (iI l2)]) (rest := [.ref (ad 8 l0 0)]) ⟨hx, hb, hml, hown, hts⟩ (c_CString_charAt (l := l) hc11) (cwV 1 hts (gdV k_8_44 k_7_134 k_7_135 k_1_11 k_7_136) rfl rfl rfl (by decide +kernel) ⟨Nat.le_of_ble_eq_true rfl, Nat.le_of_ble_eq_true rfl⟩) ⟨zBlind, zsrecv hX g1 hS2, zAt X hZ2 hS2 [.ref (aS l1), .int (iI l2)]⟩ rfl rfl hl.1 rfl (lv_room (Nat.le_of_ble_eq_true rfl)) (D_182 W_prog_10_method_12_code_0 16 rfl rfl rfl) ⟨Nat.le_of_ble_eq_true rfl, Nat.le_of_ble_eq_true rfl⟩) hS2 (fun q _ h => zAin X hS2 q h) (zAin X hS2) (fun p11 u11 t11 H11 locs11 ht11 hv11 hw11 hB11 hz11 hk11 hS11 => ?_)
      have hZ11 := zBack X ht11 hB11
      subst hw11
      refine lv_aload_n hx hb (D_43 W_prog_10_method_12_code_0 19 rfl rfl) rfl (lv_at hl 1 rfl) ?_
      refine lv_iload_n hx hb (D_28 W_prog_10_method_12_code_0 20 rfl rfl) rfl (lv_at hl 0 rfl) ?_
      obtain ⟨r12, F12, B12, hc12, hf⟩ := gbind hf
      refine va_calli (va_runV (As := [.int (iI l2)]) (rest := [.int (iI r11), .ref (ad 8 l0 0)]) ⟨hx, hb, hml, hown, hts⟩ (c_CString_charAt (l := l) hc12) (cwV 1 hts (gdV k_8_44 k_7_134 k_7_135 k_1_11 k_7_136) rfl rfl rfl (by decide +kernel) ⟨Nat.le_of_ble_eq_true rfl, Nat.le_of_ble_eq_true rfl⟩) ⟨zBlind, zsrecv hX g1 hS11, zAt X hZ11 hS11 [.ref (aS l1), .int (iI l2)]⟩ rfl rfl hl.1 rfl (lv_room (Nat.le_of_ble_eq_true rfl)) (D_182 W_prog_10_method_12_code_0 21 rfl rfl rfl) ⟨Nat.le_of_ble_eq_true rfl, Nat.le_of_ble_eq_true rfl⟩) hS11 (fun q _ h => zAin X hS11 q h) (zAin X hS11) (fun p12 u12 t12 H12 locs12 ht12 hv12 hw12 hB12 hz12 hk12 hS12 => ?_)
      have hZ12 := zBack X ht12 hB12
      subst hw12
      obtain ⟨g13, hf⟩ := gif hf
      obtain ⟨r14, F14, B14, hc14, hf⟩ := gbind hf
      refine va_callv (va_runV (As := [.int (iI r11), .int (iI r12)]) (rest := []) ⟨hx, hb, hml, hown, hts⟩ (c_SoundFile_takeOnly (l := l) hc14) (cwV 2 hts (gdV k_8_45 k_8_47 ks_94 k_1_23 k_8_48) rfl rfl rfl (by decide +kernel) ⟨Nat.le_of_ble_eq_true rfl, Nat.le_of_ble_eq_true rfl⟩) (zPV X hZ12 hS12 (ci := 8) g13.1 g13.2 (r := (RX8, TX8, 15)) rfl [.int (iI r11), .int (iI r12)]) rfl rfl hl.1 rfl (lv_room (Nat.le_of_ble_eq_true rfl)) (D_182 W_prog_10_method_12_code_0 24 rfl rfl rfl) ⟨Nat.le_of_ble_eq_true rfl, Nat.le_of_ble_eq_true rfl⟩) hS12 (fun q _ h => zAin X hS12 q h) (zAin X hS12) (fun u14 t14 H14 locs14 ht14 hv14 hw14 hB14 hz14 hk14 hS14 => ?_)
      have hZ14 := zBack X ht14 hB14
      refine lv_iinc (v := iI (l2 + 1)) (lv' := [(2, .int (iI (l2 + 1))), (1, .ref (aS l1)), (0, .ref (ad 8 l0 0))]) hx hb d_10_12_27 hl (k := 0) rfl (iI_add _ 1) (by decide) rfl (fun ls hl => ?_)
      refine lv_goto (tgt := 5) hx hb (D_167 W_prog_10_method_12_code_0 30 rfl rfl rfl) (by decide) ?_
      exact ih hf hZ14 hS14 (lv_sub hl [0, 1, 2] rfl)

def f_SoundFile_loadHead (K : zK) (l0 : Int) (F : zF) (B : zB) : zO := f_SoundFile_loadHead_5 K K.1 0 21 l0 F B
set_option maxHeartbeats 4000000 in
set_option maxRecDepth 100000 in
theorem c_SoundFile_loadHead {l : Launch} {D : va_G} {ca : Nat → ClassId} {ad : Nat → Int → Nat → Nat} {L : List Nat} {aS vS : Nat → Nat} {sz : Nat} {K : zK}  {l0 : Int} {F F9 : zF} {B B9 : zB} {r : Int} (hf : f_SoundFile_loadHead K l0 F B = some (r, F9, B9)) : Met l ({ cls := "StaveHouse$SoundFile", name := "loadHead", desc := "()V" } : Jvm.MethodName) (Cond.code ({ cls := "StaveHouse$SoundFile", name := "loadHead", desc := "()V" } : Jvm.MethodName) prog_10_method_12_code 5 (Option.none : Option Jvm.ClassFile.FieldType) :: wAll) ({ frames := 4, cells := 0, slots := 0, locals := 94 } : Room) (va_Pc [.ref (ad 8 l0 0)] (zPre D ca ad lnC K.2 L aS vS F B sz)) (Q_SoundFile_loadHead K D ca ad L r F9 B9 (zA L sz)) 0 0 (zA L sz) := by
  refine zMet (Qc := Q_SoundFile_loadHead K D ca ad L r F9 B9) (lv := [(0, .ref (ad 8 l0 0))]) (by decide) (Nat.le_of_ble_eq_true rfl) rfl (fun A p e s m below meth c ls X hZ hS hl => ?_)
  obtain ⟨hx, hb, hr, hml, hown, hts, hlk, hK, hA, hL, hX⟩ := id X
  replace hf : (f_SoundFile_loadHead_5 K K.1 0 21 l0 F B) = some (r, F9, B9) := hf
  refine va_ldcS hx hb hown (hX.2.2.2.2.1 21 _ rfl).1 (D_18 W_prog_10_method_12_code_0 0 rfl rfl) ?_
  refine lv_astore_n (lv' := [(1, .ref (aS 21)), (0, .ref (ad 8 l0 0))]) hx hb (D_76 W_prog_10_method_12_code_0 2 rfl rfl) rfl hl (by decide) rfl (fun ls hl => ?_)
  refine lv_iconst (v := iI 0) hx hb (D_3 W_prog_10_method_12_code_0 3 rfl rfl) rfl ?_
  refine lv_istore_n (lv' := [(2, .int (iI 0)), (1, .ref (aS 21)), (0, .ref (ad 8 l0 0))]) hx hb (D_61 W_prog_10_method_12_code_0 4 rfl rfl) rfl hl (by decide) rfl (fun ls hl => ?_)
  exact b_SoundFile_loadHead_5 X hf hZ hS (lv_sub hl [0, 1, 2] rfl)

