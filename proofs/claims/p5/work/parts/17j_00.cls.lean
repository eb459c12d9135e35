theorem k_5_57 : (Jvm.Cond.methodLink "StaveHouse$Part" (136 : Nat) ({ cls := "java/lang/Math", name := "min", desc := "(JJ)J" } : Jvm.MethodName)) ∈ wAll := wA_5 (j := 57) rfl rfl
theorem k_6_69 : (Jvm.Cond.fieldLink "StaveHouse$Performance" (44 : Nat) "StaveHouse$Performance" "latest" "I") ∈ wAll := wA_6 (j := 69) rfl rfl
theorem k_2_191 : (Jvm.Cond.fieldLink "StaveHouse$Performance" (47 : Nat) "StaveHouse$Piece" "partCount" "I") ∈ wAll := wA_2 (j := 191) rfl rfl
theorem k_4_27 : (Jvm.Cond.methodLink "StaveHouse$Parser" (304 : Nat) ({ cls := "java/lang/String", name := "length", desc := "()I" } : Jvm.MethodName)) ∈ wAll := wA_4 (j := 27) rfl rfl
theorem k_7_132 : (Jvm.Cond.methodLink "StaveHouse$ByteRow" (29 : Nat) ({ cls := "java/lang/String", name := "length", desc := "()I" } : Jvm.MethodName)) ∈ wAll := wA_7 (j := 132) rfl rfl
theorem k_8_43 : (Jvm.Cond.methodLink "StaveHouse$SoundFile" (98 : Nat) ({ cls := "java/lang/String", name := "length", desc := "()I" } : Jvm.MethodName)) ∈ wAll := wA_8 (j := 43) rfl rfl
theorem k_9_107 : (Jvm.Cond.methodLink "StaveHouse$Part" (231 : Nat) ({ cls := "StaveHouse$Part", name := "sameFraction", desc := "(LStaveHouse$Event;LStaveHouse$Event;LStaveHouse$Event;LStaveHouse$Event;)Z" } : Jvm.MethodName)) ∈ wAll := wA_9 (j := 107) rfl rfl
theorem k_9_108 : (Jvm.Cond.static ({ cls := "StaveHouse$Part", name := "sameFraction", desc := "(LStaveHouse$Event;LStaveHouse$Event;LStaveHouse$Event;LStaveHouse$Event;)Z" } : Jvm.MethodName)) ∈ wAll := wA_9 (j := 108) rfl rfl
theorem k_9_109 : (Jvm.Cond.code ({ cls := "StaveHouse$Part", name := "sameFraction", desc := "(LStaveHouse$Event;LStaveHouse$Event;LStaveHouse$Event;LStaveHouse$Event;)Z" } : Jvm.MethodName) prog_6_method_29_code (8 : Nat) (Option.some Jvm.ClassFile.FieldType.boolean)) ∈ wAll := wA_9 (j := 109) rfl rfl
theorem k_8_63 : (Jvm.Cond.constantLong "StaveHouse$SoundFile" (110 : Nat) (6 : Int64)) ∈ wAll := wA_8 (j := 63) rfl rfl
theorem k_8_44 : (Jvm.Cond.methodLink "StaveHouse$SoundFile" (103 : Nat) ({ cls := "java/lang/String", name := "charAt", desc := "(I)C" } : Jvm.MethodName)) ∈ wAll := wA_8 (j := 44) rfl rfl
theorem k_9_52 : (Jvm.Cond.methodLink "StaveHouse$Study" (171 : Nat) ({ cls := "StaveHouse$Study", name := "tonesAbove", desc := "(II)I" } : Jvm.MethodName)) ∈ wAll := wA_9 (j := 52) rfl rfl
theorem k_9_54 : (Jvm.Cond.instanceMethod ({ cls := "StaveHouse$Study", name := "tonesAbove", desc := "(II)I" } : Jvm.MethodName)) ∈ wAll := wA_9 (j := 54) rfl rfl
theorem ks_127 : (Jvm.Cond.selects "StaveHouse$Study" ({ cls := "StaveHouse$Study", name := "tonesAbove", desc := "(II)I" } : Jvm.MethodName) ({ cls := "StaveHouse$Study", name := "tonesAbove", desc := "(II)I" } : Jvm.MethodName)) ∈ wAll := wA_s (j := 127) rfl rfl
theorem k_9_55 : (Jvm.Cond.code ({ cls := "StaveHouse$Study", name := "tonesAbove", desc := "(II)I" } : Jvm.MethodName) prog_11_method_16_code (5 : Nat) (Option.some Jvm.ClassFile.FieldType.int)) ∈ wAll := wA_9 (j := 55) rfl rfl
theorem k_9_61 : (Jvm.Cond.fieldLink "StaveHouse$Study" (174 : Nat) "StaveHouse$Study" "CHORD_TONES" "[I") ∈ wAll := wA_9 (j := 61) rfl rfl
theorem k_9_63 : (Jvm.Cond.fieldLink "StaveHouse$Study" (177 : Nat) "StaveHouse$Study" "CHORD_KINDS" "[I") ∈ wAll := wA_9 (j := 63) rfl rfl
theorem k_9_97 : (Jvm.Cond.methodLink "StaveHouse$Event" (36 : Nat) ({ cls := "StaveHouse$Event", name := "top", desc := "()I" } : Jvm.MethodName)) ∈ wAll := wA_9 (j := 97) rfl rfl
theorem k_6_18 : (Jvm.Cond.instanceMethod ({ cls := "StaveHouse$Event", name := "top", desc := "()I" } : Jvm.MethodName)) ∈ wAll := wA_6 (j := 18) rfl rfl
theorem k_6_19 : (Jvm.Cond.selects "StaveHouse$Event" ({ cls := "StaveHouse$Event", name := "top", desc := "()I" } : Jvm.MethodName) ({ cls := "StaveHouse$Event", name := "top", desc := "()I" } : Jvm.MethodName)) ∈ wAll := wA_6 (j := 19) rfl rfl
theorem k_6_20 : (Jvm.Cond.code ({ cls := "StaveHouse$Event", name := "top", desc := "()I" } : Jvm.MethodName) prog_3_method_8_code (3 : Nat) (Option.some Jvm.ClassFile.FieldType.int)) ∈ wAll := wA_6 (j := 20) rfl rfl
theorem k_9_93 : (Jvm.Cond.methodLink "StaveHouse$Part" (227 : Nat) ({ cls := "StaveHouse$Event", name := "topStep", desc := "()I" } : Jvm.MethodName)) ∈ wAll := wA_9 (j := 93) rfl rfl
theorem k_9_94 : (Jvm.Cond.instanceMethod ({ cls := "StaveHouse$Event", name := "topStep", desc := "()I" } : Jvm.MethodName)) ∈ wAll := wA_9 (j := 94) rfl rfl
theorem k_9_95 : (Jvm.Cond.selects "StaveHouse$Event" ({ cls := "StaveHouse$Event", name := "topStep", desc := "()I" } : Jvm.MethodName) ({ cls := "StaveHouse$Event", name := "topStep", desc := "()I" } : Jvm.MethodName)) ∈ wAll := wA_9 (j := 95) rfl rfl
theorem k_9_96 : (Jvm.Cond.code ({ cls := "StaveHouse$Event", name := "topStep", desc := "()I" } : Jvm.MethodName) prog_3_method_9_code (2 : Nat) (Option.some Jvm.ClassFile.FieldType.int)) ∈ wAll := wA_9 (j := 96) rfl rfl
theorem k_3_71 : (Jvm.Cond.methodLink "java/lang/String" (633 : Nat) ({ cls := "java/lang/String", name := "indexOf", desc := "(II)I" } : Jvm.MethodName)) ∈ wAll := wA_3 (j := 71) rfl rfl
theorem k_3_72 : (Jvm.Cond.instanceMethod ({ cls := "java/lang/String", name := "indexOf", desc := "(II)I" } : Jvm.MethodName)) ∈ wAll := wA_3 (j := 72) rfl rfl
theorem k_3_73 : (Jvm.Cond.selects "java/lang/String" ({ cls := "java/lang/String", name := "indexOf", desc := "(II)I" } : Jvm.MethodName) ({ cls := "java/lang/String", name := "indexOf", desc := "(II)I" } : Jvm.MethodName)) ∈ wAll := wA_3 (j := 73) rfl rfl
theorem k_3_74 : (Jvm.Cond.code ({ cls := "java/lang/String", name := "indexOf", desc := "(II)I" } : Jvm.MethodName) prog_21_method_80_code (3 : Nat) (Option.some Jvm.ClassFile.FieldType.int)) ∈ wAll := wA_3 (j := 74) rfl rfl
theorem k_4_28 : (Jvm.Cond.methodLink "StaveHouse$Parser" (308 : Nat) ({ cls := "java/lang/String", name := "indexOf", desc := "(I)I" } : Jvm.MethodName)) ∈ wAll := wA_4 (j := 28) rfl rfl
theorem k_3_68 : (Jvm.Cond.instanceMethod ({ cls := "java/lang/String", name := "indexOf", desc := "(I)I" } : Jvm.MethodName)) ∈ wAll := wA_3 (j := 68) rfl rfl
theorem k_3_69 : (Jvm.Cond.selects "java/lang/String" ({ cls := "java/lang/String", name := "indexOf", desc := "(I)I" } : Jvm.MethodName) ({ cls := "java/lang/String", name := "indexOf", desc := "(I)I" } : Jvm.MethodName)) ∈ wAll := wA_3 (j := 69) rfl rfl
theorem k_3_70 : (Jvm.Cond.code ({ cls := "java/lang/String", name := "indexOf", desc := "(I)I" } : Jvm.MethodName) prog_21_method_79_code (2 : Nat) (Option.some Jvm.ClassFile.FieldType.int)) ∈ wAll := wA_3 (j := 70) rfl rfl
theorem k_5_60 : (Jvm.Cond.methodLink "StaveHouse$Part" (142 : Nat) ({ cls := "StaveHouse$Part", name := "writeTuplet", desc := "(IIJ)V" } : Jvm.MethodName)) ∈ wAll := wA_5 (j := 60) rfl rfl
theorem k_5_62 : (Jvm.Cond.instanceMethod ({ cls := "StaveHouse$Part", name := "writeTuplet", desc := "(IIJ)V" } : Jvm.MethodName)) ∈ wAll := wA_5 (j := 62) rfl rfl
theorem ks_50 : (Jvm.Cond.selects "StaveHouse$Part" ({ cls := "StaveHouse$Part", name := "writeTuplet", desc := "(IIJ)V" } : Jvm.MethodName) ({ cls := "StaveHouse$Part", name := "writeTuplet", desc := "(IIJ)V" } : Jvm.MethodName)) ∈ wAll := wA_s (j := 50) rfl rfl
theorem k_5_63 : (Jvm.Cond.code ({ cls := "StaveHouse$Part", name := "writeTuplet", desc := "(IIJ)V" } : Jvm.MethodName) prog_6_method_12_code (11 : Nat) (Option.none : Option Jvm.ClassFile.FieldType)) ∈ wAll := wA_5 (j := 63) rfl rfl
theorem k_5_82 : (Jvm.Cond.methodLink "StaveHouse$Part" (154 : Nat) ({ cls := "StaveHouse$Part", name := "writeCut", desc := "(LStaveHouse$Piece;IJJ)V" } : Jvm.MethodName)) ∈ wAll := wA_5 (j := 82) rfl rfl
theorem k_5_84 : (Jvm.Cond.instanceMethod ({ cls := "StaveHouse$Part", name := "writeCut", desc := "(LStaveHouse$Piece;IJJ)V" } : Jvm.MethodName)) ∈ wAll := wA_5 (j := 84) rfl rfl
theorem ks_52 : (Jvm.Cond.selects "StaveHouse$Part" ({ cls := "StaveHouse$Part", name := "writeCut", desc := "(LStaveHouse$Piece;IJJ)V" } : Jvm.MethodName) ({ cls := "StaveHouse$Part", name := "writeCut", desc := "(LStaveHouse$Piece;IJJ)V" } : Jvm.MethodName)) ∈ wAll := wA_s (j := 52) rfl rfl
theorem k_5_85 : (Jvm.Cond.code ({ cls := "StaveHouse$Part", name := "writeCut", desc := "(LStaveHouse$Piece;IJJ)V" } : Jvm.MethodName) prog_6_method_11_code (16 : Nat) (Option.none : Option Jvm.ClassFile.FieldType)) ∈ wAll := wA_5 (j := 85) rfl rfl
theorem k_6_17 : (Jvm.Cond.methodLink "StaveHouse$Study" (102 : Nat) ({ cls := "StaveHouse$Event", name := "top", desc := "()I" } : Jvm.MethodName)) ∈ wAll := wA_6 (j := 17) rfl rfl
theorem k_6_116 : (Jvm.Cond.methodLink "StaveHouse$Performance" (61 : Nat) ({ cls := "StaveHouse$Performance", name := "isTrilled", desc := "(LStaveHouse$Part;I)Z" } : Jvm.MethodName)) ∈ wAll := wA_6 (j := 116) rfl rfl
theorem k_6_117 : (Jvm.Cond.static ({ cls := "StaveHouse$Performance", name := "isTrilled", desc := "(LStaveHouse$Part;I)Z" } : Jvm.MethodName)) ∈ wAll := wA_6 (j := 117) rfl rfl
theorem k_6_118 : (Jvm.Cond.code ({ cls := "StaveHouse$Performance", name := "isTrilled", desc := "(LStaveHouse$Part;I)Z" } : Jvm.MethodName) prog_7_method_3_code (3 : Nat) (Option.some Jvm.ClassFile.FieldType.boolean)) ∈ wAll := wA_6 (j := 118) rfl rfl
theorem k_6_142 : (Jvm.Cond.methodLink "StaveHouse$Performance" (69 : Nat) ({ cls := "StaveHouse$Performance", name := "soundAll", desc := "(LStaveHouse$Part;II)V" } : Jvm.MethodName)) ∈ wAll := wA_6 (j := 142) rfl rfl
theorem k_6_144 : (Jvm.Cond.instanceMethod ({ cls := "StaveHouse$Performance", name := "soundAll", desc := "(LStaveHouse$Part;II)V" } : Jvm.MethodName)) ∈ wAll := wA_6 (j := 144) rfl rfl
theorem ks_76 : (Jvm.Cond.selects "StaveHouse$Performance" ({ cls := "StaveHouse$Performance", name := "soundAll", desc := "(LStaveHouse$Part;II)V" } : Jvm.MethodName) ({ cls := "StaveHouse$Performance", name := "soundAll", desc := "(LStaveHouse$Part;II)V" } : Jvm.MethodName)) ∈ wAll := wA_s (j := 76) rfl rfl
theorem k_6_145 : (Jvm.Cond.code ({ cls := "StaveHouse$Performance", name := "soundAll", desc := "(LStaveHouse$Part;II)V" } : Jvm.MethodName) prog_7_method_7_code (9 : Nat) (Option.none : Option Jvm.ClassFile.FieldType)) ∈ wAll := wA_6 (j := 145) rfl rfl
theorem k_6_122 : (Jvm.Cond.methodLink "StaveHouse$Performance" (65 : Nat) ({ cls := "StaveHouse$Performance", name := "trill", desc := "(LStaveHouse$Piece;II)V" } : Jvm.MethodName)) ∈ wAll := wA_6 (j := 122) rfl rfl
theorem k_6_124 : (Jvm.Cond.instanceMethod ({ cls := "StaveHouse$Performance", name := "trill", desc := "(LStaveHouse$Piece;II)V" } : Jvm.MethodName)) ∈ wAll := wA_6 (j := 124) rfl rfl
theorem ks_74 : (Jvm.Cond.selects "StaveHouse$Performance" ({ cls := "StaveHouse$Performance", name := "trill", desc := "(LStaveHouse$Piece;II)V" } : Jvm.MethodName) ({ cls := "StaveHouse$Performance", name := "trill", desc := "(LStaveHouse$Piece;II)V" } : Jvm.MethodName)) ∈ wAll := wA_s (j := 74) rfl rfl
theorem k_6_125 : (Jvm.Cond.code ({ cls := "StaveHouse$Performance", name := "trill", desc := "(LStaveHouse$Piece;II)V" } : Jvm.MethodName) prog_7_method_10_code (11 : Nat) (Option.none : Option Jvm.ClassFile.FieldType)) ∈ wAll := wA_6 (j := 125) rfl rfl
theorem k_7_26 : (Jvm.Cond.methodLink "StaveHouse$Layout" (79 : Nat) ({ cls := "StaveHouse$Layout", name := "addColumn", desc := "(LStaveHouse$Piece;I)Z" } : Jvm.MethodName)) ∈ wAll := wA_7 (j := 26) rfl rfl
theorem k_7_28 : (Jvm.Cond.instanceMethod ({ cls := "StaveHouse$Layout", name := "addColumn", desc := "(LStaveHouse$Piece;I)Z" } : Jvm.MethodName)) ∈ wAll := wA_7 (j := 28) rfl rfl
theorem ks_80 : (Jvm.Cond.selects "StaveHouse$Layout" ({ cls := "StaveHouse$Layout", name := "addColumn", desc := "(LStaveHouse$Piece;I)Z" } : Jvm.MethodName) ({ cls := "StaveHouse$Layout", name := "addColumn", desc := "(LStaveHouse$Piece;I)Z" } : Jvm.MethodName)) ∈ wAll := wA_s (j := 80) rfl rfl
theorem k_7_29 : (Jvm.Cond.code ({ cls := "StaveHouse$Layout", name := "addColumn", desc := "(LStaveHouse$Piece;I)Z" } : Jvm.MethodName) prog_4_method_4_code (10 : Nat) (Option.some Jvm.ClassFile.FieldType.boolean)) ∈ wAll := wA_7 (j := 29) rfl rfl
theorem k_7_39 : (Jvm.Cond.methodLink "StaveHouse$Layout" (83 : Nat) ({ cls := "StaveHouse$Piece", name := "barLength", desc := "()J" } : Jvm.MethodName)) ∈ wAll := wA_7 (j := 39) rfl rfl
theorem k_7_40 : (Jvm.Cond.methodLink "StaveHouse$Layout" (87 : Nat) ({ cls := "StaveHouse$Layout", name := "widen", desc := "(IJ)V" } : Jvm.MethodName)) ∈ wAll := wA_7 (j := 40) rfl rfl
theorem k_7_42 : (Jvm.Cond.instanceMethod ({ cls := "StaveHouse$Layout", name := "widen", desc := "(IJ)V" } : Jvm.MethodName)) ∈ wAll := wA_7 (j := 42) rfl rfl
theorem ks_82 : (Jvm.Cond.selects "StaveHouse$Layout" ({ cls := "StaveHouse$Layout", name := "widen", desc := "(IJ)V" } : Jvm.MethodName) ({ cls := "StaveHouse$Layout", name := "widen", desc := "(IJ)V" } : Jvm.MethodName)) ∈ wAll := wA_s (j := 82) rfl rfl
theorem k_7_43 : (Jvm.Cond.code ({ cls := "StaveHouse$Layout", name := "widen", desc := "(IJ)V" } : Jvm.MethodName) prog_4_method_7_code (10 : Nat) (Option.none : Option Jvm.ClassFile.FieldType)) ∈ wAll := wA_7 (j := 43) rfl rfl
theorem k_7_133 : (Jvm.Cond.methodLink "StaveHouse$ByteRow" (35 : Nat) ({ cls := "java/lang/String", name := "charAt", desc := "(I)C" } : Jvm.MethodName)) ∈ wAll := wA_7 (j := 133) rfl rfl
theorem k_7_128 : (Jvm.Cond.methodLink "StaveHouse$Performance" (203 : Nat) ({ cls := "StaveHouse$ByteRow", name := "putText", desc := "(Ljava/lang/String;)V" } : Jvm.MethodName)) ∈ wAll := wA_7 (j := 128) rfl rfl
theorem k_7_129 : (Jvm.Cond.instanceMethod ({ cls := "StaveHouse$ByteRow", name := "putText", desc := "(Ljava/lang/String;)V" } : Jvm.MethodName)) ∈ wAll := wA_7 (j := 129) rfl rfl
theorem k_7_130 : (Jvm.Cond.selects "StaveHouse$ByteRow" ({ cls := "StaveHouse$ByteRow", name := "putText", desc := "(Ljava/lang/String;)V" } : Jvm.MethodName) ({ cls := "StaveHouse$ByteRow", name := "putText", desc := "(Ljava/lang/String;)V" } : Jvm.MethodName)) ∈ wAll := wA_7 (j := 130) rfl rfl
theorem k_7_131 : (Jvm.Cond.code ({ cls := "StaveHouse$ByteRow", name := "putText", desc := "(Ljava/lang/String;)V" } : Jvm.MethodName) prog_2_method_5_code (3 : Nat) (Option.none : Option Jvm.ClassFile.FieldType)) ∈ wAll := wA_7 (j := 131) rfl rfl
theorem k_7_154 : (Jvm.Cond.methodLink "StaveHouse$Performance" (209 : Nat) ({ cls := "StaveHouse$ByteRow", name := "putWide", desc := "(II)V" } : Jvm.MethodName)) ∈ wAll := wA_7 (j := 154) rfl rfl
theorem k_7_155 : (Jvm.Cond.instanceMethod ({ cls := "StaveHouse$ByteRow", name := "putWide", desc := "(II)V" } : Jvm.MethodName)) ∈ wAll := wA_7 (j := 155) rfl rfl
theorem k_7_156 : (Jvm.Cond.selects "StaveHouse$ByteRow" ({ cls := "StaveHouse$ByteRow", name := "putWide", desc := "(II)V" } : Jvm.MethodName) ({ cls := "StaveHouse$ByteRow", name := "putWide", desc := "(II)V" } : Jvm.MethodName)) ∈ wAll := wA_7 (j := 156) rfl rfl
theorem k_7_157 : (Jvm.Cond.code ({ cls := "StaveHouse$ByteRow", name := "putWide", desc := "(II)V" } : Jvm.MethodName) prog_2_method_7_code (4 : Nat) (Option.none : Option Jvm.ClassFile.FieldType)) ∈ wAll := wA_7 (j := 157) rfl rfl
theorem k_7_161 : (Jvm.Cond.methodLink "StaveHouse$Performance" (237 : Nat) ({ cls := "StaveHouse$Performance", name := "beginTrack", desc := "(LStaveHouse$ByteRow;)I" } : Jvm.MethodName)) ∈ wAll := wA_7 (j := 161) rfl rfl
theorem k_7_162 : (Jvm.Cond.static ({ cls := "StaveHouse$Performance", name := "beginTrack", desc := "(LStaveHouse$ByteRow;)I" } : Jvm.MethodName)) ∈ wAll := wA_7 (j := 162) rfl rfl
theorem k_7_163 : (Jvm.Cond.code ({ cls := "StaveHouse$Performance", name := "beginTrack", desc := "(LStaveHouse$ByteRow;)I" } : Jvm.MethodName) prog_7_method_18_code (1 : Nat) (Option.some Jvm.ClassFile.FieldType.int)) ∈ wAll := wA_7 (j := 163) rfl rfl
theorem k_4_118 : (Jvm.Cond.fieldLink "StaveHouse$Performance" (263 : Nat) "StaveHouse$Part" "word" "J") ∈ wAll := wA_4 (j := 118) rfl rfl
theorem k_7_187 : (Jvm.Cond.methodLink "StaveHouse$Performance" (269 : Nat) ({ cls := "StaveHouse$Performance", name := "writeStrokes", desc := "(ILStaveHouse$ByteRow;)V" } : Jvm.MethodName)) ∈ wAll := wA_7 (j := 187) rfl rfl
theorem k_7_189 : (Jvm.Cond.instanceMethod ({ cls := "StaveHouse$Performance", name := "writeStrokes", desc := "(ILStaveHouse$ByteRow;)V" } : Jvm.MethodName)) ∈ wAll := wA_7 (j := 189) rfl rfl
theorem ks_91 : (Jvm.Cond.selects "StaveHouse$Performance" ({ cls := "StaveHouse$Performance", name := "writeStrokes", desc := "(ILStaveHouse$ByteRow;)V" } : Jvm.MethodName) ({ cls := "StaveHouse$Performance", name := "writeStrokes", desc := "(ILStaveHouse$ByteRow;)V" } : Jvm.MethodName)) ∈ wAll := wA_s (j := 91) rfl rfl
theorem k_7_190 : (Jvm.Cond.code ({ cls := "StaveHouse$Performance", name := "writeStrokes", desc := "(ILStaveHouse$ByteRow;)V" } : Jvm.MethodName) prog_7_method_23_code (6 : Nat) (Option.none : Option Jvm.ClassFile.FieldType)) ∈ wAll := wA_7 (j := 190) rfl rfl
theorem k_7_176 : (Jvm.Cond.methodLink "StaveHouse$Performance" (259 : Nat) ({ cls := "StaveHouse$Performance", name := "endTrack", desc := "(LStaveHouse$ByteRow;I)V" } : Jvm.MethodName)) ∈ wAll := wA_7 (j := 176) rfl rfl
theorem k_7_177 : (Jvm.Cond.static ({ cls := "StaveHouse$Performance", name := "endTrack", desc := "(LStaveHouse$ByteRow;I)V" } : Jvm.MethodName)) ∈ wAll := wA_7 (j := 177) rfl rfl
theorem k_7_178 : (Jvm.Cond.code ({ cls := "StaveHouse$Performance", name := "endTrack", desc := "(LStaveHouse$ByteRow;I)V" } : Jvm.MethodName) prog_7_method_19_code (2 : Nat) (Option.none : Option Jvm.ClassFile.FieldType)) ∈ wAll := wA_7 (j := 178) rfl rfl
theorem k_8_45 : (Jvm.Cond.methodLink "StaveHouse$SoundFile" (107 : Nat) ({ cls := "StaveHouse$SoundFile", name := "takeOnly", desc := "(II)V" } : Jvm.MethodName)) ∈ wAll := wA_8 (j := 45) rfl rfl
theorem k_8_47 : (Jvm.Cond.instanceMethod ({ cls := "StaveHouse$SoundFile", name := "takeOnly", desc := "(II)V" } : Jvm.MethodName)) ∈ wAll := wA_8 (j := 47) rfl rfl
theorem ks_94 : (Jvm.Cond.selects "StaveHouse$SoundFile" ({ cls := "StaveHouse$SoundFile", name := "takeOnly", desc := "(II)V" } : Jvm.MethodName) ({ cls := "StaveHouse$SoundFile", name := "takeOnly", desc := "(II)V" } : Jvm.MethodName)) ∈ wAll := wA_s (j := 94) rfl rfl
theorem k_8_48 : (Jvm.Cond.code ({ cls := "StaveHouse$SoundFile", name := "takeOnly", desc := "(II)V" } : Jvm.MethodName) prog_10_method_6_code (4 : Nat) (Option.none : Option Jvm.ClassFile.FieldType)) ∈ wAll := wA_8 (j := 48) rfl rfl
theorem k_8_64 : (Jvm.Cond.constantLong "StaveHouse$SoundFile" (112 : Nat) (8 : Int64)) ∈ wAll := wA_8 (j := 64) rfl rfl
theorem k_8_65 : (Jvm.Cond.methodLink "StaveHouse$SoundFile" (114 : Nat) ({ cls := "StaveHouse$SoundFile", name := "takeBounded", desc := "(IJJ)I" } : Jvm.MethodName)) ∈ wAll := wA_8 (j := 65) rfl rfl
theorem k_8_67 : (Jvm.Cond.instanceMethod ({ cls := "StaveHouse$SoundFile", name := "takeBounded", desc := "(IJJ)I" } : Jvm.MethodName)) ∈ wAll := wA_8 (j := 67) rfl rfl
theorem ks_98 : (Jvm.Cond.selects "StaveHouse$SoundFile" ({ cls := "StaveHouse$SoundFile", name := "takeBounded", desc := "(IJJ)I" } : Jvm.MethodName) ({ cls := "StaveHouse$SoundFile", name := "takeBounded", desc := "(IJJ)I" } : Jvm.MethodName)) ∈ wAll := wA_s (j := 98) rfl rfl
theorem k_8_68 : (Jvm.Cond.code ({ cls := "StaveHouse$SoundFile", name := "takeBounded", desc := "(IJJ)I" } : Jvm.MethodName) prog_10_method_8_code (9 : Nat) (Option.some Jvm.ClassFile.FieldType.int)) ∈ wAll := wA_8 (j := 68) rfl rfl
theorem k_8_69 : (Jvm.Cond.constantLong "StaveHouse$SoundFile" (118 : Nat) (960 : Int64)) ∈ wAll := wA_8 (j := 69) rfl rfl
theorem W_prog_21_method_79_code_0 : chW prog_21_method_79_code 0 [42, 27, 3, 182, 2, 121, 172] := chW_of (by decide +kernel)
theorem d_21_79_0 : decode prog_21_method_79_code 0 = .ok (.aload_n 0, 1) := D_42 W_prog_21_method_79_code_0 0 rfl rfl
theorem d_21_79_1 : decode prog_21_method_79_code 1 = .ok (.iload_n 1, 1) := D_27 W_prog_21_method_79_code_0 1 rfl rfl
theorem d_21_79_2 : decode prog_21_method_79_code 2 = .ok (.iconst 0, 1) := D_3 W_prog_21_method_79_code_0 2 rfl rfl
theorem d_21_79_3 : decode prog_21_method_79_code 3 = .ok (.invokevirtual 633, 3) := D_182 W_prog_21_method_79_code_0 3 rfl rfl rfl
theorem W_prog_5_method_27_code_0 : chW prog_5_method_27_code 0 [3, 61, 28, 19, 1, 46, 182, 1, 48, 162, 0, 73, 42, 180, 0, 48, 180, 0, 108, 8, 160, 0, 62, 19, 1, 46, 42, 180, 0, 48, 180, 0, 173, 136, 146, 182] := chW_of (by decide +kernel)
theorem d_5_27_0 : decode prog_5_method_27_code 0 = .ok (.iconst 0, 1) := D_3 W_prog_5_method_27_code_0 0 rfl rfl
theorem d_5_27_1 : decode prog_5_method_27_code 1 = .ok (.istore_n 2, 1) := D_61 W_prog_5_method_27_code_0 1 rfl rfl
theorem d_5_27_2 : decode prog_5_method_27_code 2 = .ok (.iload_n 2, 1) := D_28 W_prog_5_method_27_code_0 2 rfl rfl
theorem d_5_27_3 : decode prog_5_method_27_code 3 = .ok (.ldc_w 302, 3) := D_19 W_prog_5_method_27_code_0 3 rfl rfl rfl
theorem d_5_27_6 : decode prog_5_method_27_code 6 = .ok (.invokevirtual 304, 3) := D_182 W_prog_5_method_27_code_0 6 rfl rfl rfl
theorem W_prog_6_method_10_code_0 : chW prog_6_method_10_code 0 [43, 182, 0, 55, 55, 7, 33, 55, 9, 33, 22, 5, 97, 55, 11, 3, 54, 13, 21, 13, 16, 100, 163, 0, 153, 22, 9, 22, 11, 148, 156, 0, 145, 22, 7, 9] := chW_of (by decide +kernel)
theorem d_6_10_0 : decode prog_6_method_10_code 0 = .ok (.aload_n 1, 1) := D_43 W_prog_6_method_10_code_0 0 rfl rfl
theorem d_6_10_1 : decode prog_6_method_10_code 1 = .ok (.invokevirtual 55, 3) := D_182 W_prog_6_method_10_code_0 1 rfl rfl rfl
theorem d_6_10_4 : decode prog_6_method_10_code 4 = .ok (.lstore 7, 2) := D_55 W_prog_6_method_10_code_0 4 rfl rfl
theorem d_6_10_6 : decode prog_6_method_10_code 6 = .ok (.lload_n 3, 1) := D_33 W_prog_6_method_10_code_0 6 rfl rfl
theorem d_6_10_7 : decode prog_6_method_10_code 7 = .ok (.lstore 9, 2) := D_55 W_prog_6_method_10_code_0 7 rfl rfl
theorem d_6_10_9 : decode prog_6_method_10_code 9 = .ok (.lload_n 3, 1) := D_33 W_prog_6_method_10_code_0 9 rfl rfl
theorem d_6_10_10 : decode prog_6_method_10_code 10 = .ok (.lload 5, 2) := D_22 W_prog_6_method_10_code_0 10 rfl rfl
theorem d_6_10_12 : decode prog_6_method_10_code 12 = .ok (.ladd, 1) := D_97 W_prog_6_method_10_code_0 12 rfl rfl
theorem d_6_10_13 : decode prog_6_method_10_code 13 = .ok (.lstore 11, 2) := D_55 W_prog_6_method_10_code_0 13 rfl rfl
theorem d_6_10_15 : decode prog_6_method_10_code 15 = .ok (.iconst 0, 1) := D_3 W_prog_6_method_10_code_0 15 rfl rfl
theorem d_6_10_16 : decode prog_6_method_10_code 16 = .ok (.istore 13, 2) := D_54 W_prog_6_method_10_code_0 16 rfl rfl
theorem d_6_10_18 : decode prog_6_method_10_code 18 = .ok (.iload 13, 2) := D_21 W_prog_6_method_10_code_0 18 rfl rfl
theorem d_6_10_20 : decode prog_6_method_10_code 20 = .ok (.bipush 100, 2) := D_16 W_prog_6_method_10_code_0 20 rfl rfl rfl
theorem d_6_10_22 : decode prog_6_method_10_code 22 = .ok (.if_icmp .gt 153, 3) := D_163 W_prog_6_method_10_code_0 22 rfl rfl rfl
theorem d_6_10_25 : decode prog_6_method_10_code 25 = .ok (.lload 9, 2) := D_22 W_prog_6_method_10_code_0 25 rfl rfl
theorem d_6_10_27 : decode prog_6_method_10_code 27 = .ok (.lload 11, 2) := D_22 W_prog_6_method_10_code_0 27 rfl rfl
theorem d_6_10_29 : decode prog_6_method_10_code 29 = .ok (.lcmp, 1) := D_148 W_prog_6_method_10_code_0 29 rfl rfl
theorem d_6_10_30 : decode prog_6_method_10_code 30 = .ok (.ifCond .ge 145, 3) := D_156 W_prog_6_method_10_code_0 30 rfl rfl rfl
theorem W_prog_6_method_10_code_32 : chW prog_6_method_10_code 32 [145, 22, 7, 9, 148, 158, 0, 138, 22, 9, 22, 7, 109, 136, 54, 14, 22, 11, 21, 14, 4, 96, 133, 22, 7, 105, 184, 0, 136, 55, 15, 28, 2, 159, 0, 19] := chW_of (by decide +kernel)
theorem d_6_10_33 : decode prog_6_method_10_code 33 = .ok (.lload 7, 2) := D_22 W_prog_6_method_10_code_32 1 rfl rfl
theorem d_6_10_35 : decode prog_6_method_10_code 35 = .ok (.lconst 0, 1) := D_9 W_prog_6_method_10_code_32 3 rfl rfl
theorem d_6_10_36 : decode prog_6_method_10_code 36 = .ok (.lcmp, 1) := D_148 W_prog_6_method_10_code_32 4 rfl rfl
theorem d_6_10_37 : decode prog_6_method_10_code 37 = .ok (.ifCond .le 138, 3) := D_158 W_prog_6_method_10_code_32 5 rfl rfl rfl
theorem d_6_10_40 : decode prog_6_method_10_code 40 = .ok (.lload 9, 2) := D_22 W_prog_6_method_10_code_32 8 rfl rfl
theorem d_6_10_42 : decode prog_6_method_10_code 42 = .ok (.lload 7, 2) := D_22 W_prog_6_method_10_code_32 10 rfl rfl
theorem d_6_10_44 : decode prog_6_method_10_code 44 = .ok (.ldiv, 1) := D_109 W_prog_6_method_10_code_32 12 rfl rfl
theorem d_6_10_45 : decode prog_6_method_10_code 45 = .ok (.l2i, 1) := D_136 W_prog_6_method_10_code_32 13 rfl rfl
theorem d_6_10_46 : decode prog_6_method_10_code 46 = .ok (.istore 14, 2) := D_54 W_prog_6_method_10_code_32 14 rfl rfl
theorem d_6_10_48 : decode prog_6_method_10_code 48 = .ok (.lload 11, 2) := D_22 W_prog_6_method_10_code_32 16 rfl rfl
theorem d_6_10_50 : decode prog_6_method_10_code 50 = .ok (.iload 14, 2) := D_21 W_prog_6_method_10_code_32 18 rfl rfl
theorem d_6_10_52 : decode prog_6_method_10_code 52 = .ok (.iconst 1, 1) := D_4 W_prog_6_method_10_code_32 20 rfl rfl
theorem d_6_10_53 : decode prog_6_method_10_code 53 = .ok (.iadd, 1) := D_96 W_prog_6_method_10_code_32 21 rfl rfl
theorem d_6_10_54 : decode prog_6_method_10_code 54 = .ok (.i2l, 1) := D_133 W_prog_6_method_10_code_32 22 rfl rfl
theorem d_6_10_55 : decode prog_6_method_10_code 55 = .ok (.lload 7, 2) := D_22 W_prog_6_method_10_code_32 23 rfl rfl
theorem d_6_10_57 : decode prog_6_method_10_code 57 = .ok (.lmul, 1) := D_105 W_prog_6_method_10_code_32 25 rfl rfl
theorem d_6_10_58 : decode prog_6_method_10_code 58 = .ok (.invokestatic 136, 3) := D_184 W_prog_6_method_10_code_32 26 rfl rfl rfl
theorem d_6_10_61 : decode prog_6_method_10_code 61 = .ok (.lstore 15, 2) := D_55 W_prog_6_method_10_code_32 29 rfl rfl
theorem d_6_10_63 : decode prog_6_method_10_code 63 = .ok (.iload_n 2, 1) := D_28 W_prog_6_method_10_code_32 31 rfl rfl
theorem W_prog_6_method_10_code_64 : chW prog_6_method_10_code 64 [2, 159, 0, 19, 42, 180, 0, 11, 28, 50, 180, 0, 90, 153, 0, 7, 4, 167, 0, 4, 3, 54, 17, 21, 17, 153, 0, 22, 42, 28, 21, 14, 22, 9, 21, 14] := chW_of (by decide +kernel)
theorem d_6_10_64 : decode prog_6_method_10_code 64 = .ok (.iconst (-1), 1) := D_2 W_prog_6_method_10_code_64 0 rfl rfl
theorem d_6_10_65 : decode prog_6_method_10_code 65 = .ok (.if_icmp .eq 19, 3) := D_159 W_prog_6_method_10_code_64 1 rfl rfl rfl
theorem d_6_10_68 : decode prog_6_method_10_code 68 = .ok (.aload_n 0, 1) := D_42 W_prog_6_method_10_code_64 4 rfl rfl
theorem d_6_10_69 : decode prog_6_method_10_code 69 = .ok (.getfield 11, 3) := D_180 W_prog_6_method_10_code_64 5 rfl rfl rfl
theorem d_6_10_72 : decode prog_6_method_10_code 72 = .ok (.iload_n 2, 1) := D_28 W_prog_6_method_10_code_64 8 rfl rfl
theorem d_6_10_73 : decode prog_6_method_10_code 73 = .ok (.aaload, 1) := D_50 W_prog_6_method_10_code_64 9 rfl rfl
theorem d_6_10_74 : decode prog_6_method_10_code 74 = .ok (.getfield 90, 3) := D_180 W_prog_6_method_10_code_64 10 rfl rfl rfl
theorem d_6_10_77 : decode prog_6_method_10_code 77 = .ok (.ifCond .eq 7, 3) := D_153 W_prog_6_method_10_code_64 13 rfl rfl rfl
theorem d_6_10_80 : decode prog_6_method_10_code 80 = .ok (.iconst 1, 1) := D_4 W_prog_6_method_10_code_64 16 rfl rfl
theorem d_6_10_81 : decode prog_6_method_10_code 81 = .ok (.goto 4, 3) := D_167 W_prog_6_method_10_code_64 17 rfl rfl rfl
theorem d_6_10_85 : decode prog_6_method_10_code 85 = .ok (.istore 17, 2) := D_54 W_prog_6_method_10_code_64 21 rfl rfl
theorem d_6_10_87 : decode prog_6_method_10_code 87 = .ok (.iload 17, 2) := D_21 W_prog_6_method_10_code_64 23 rfl rfl
theorem d_6_10_89 : decode prog_6_method_10_code 89 = .ok (.ifCond .eq 22, 3) := D_153 W_prog_6_method_10_code_64 25 rfl rfl rfl
theorem W_prog_6_method_10_code_96 : chW prog_6_method_10_code 96 [22, 9, 21, 14, 133, 22, 7, 105, 101, 182, 0, 142, 167, 0, 57, 28, 2, 159, 0, 15, 42, 180, 0, 11, 28, 50, 182, 0, 146, 153, 0, 27, 22, 15, 22, 9] := chW_of (by decide +kernel)
theorem d_6_10_111 : decode prog_6_method_10_code 111 = .ok (.iload_n 2, 1) := D_28 W_prog_6_method_10_code_96 15 rfl rfl
theorem d_6_10_112 : decode prog_6_method_10_code 112 = .ok (.iconst (-1), 1) := D_2 W_prog_6_method_10_code_96 16 rfl rfl
theorem d_6_10_113 : decode prog_6_method_10_code 113 = .ok (.if_icmp .eq 15, 3) := D_159 W_prog_6_method_10_code_96 17 rfl rfl rfl
theorem d_6_10_116 : decode prog_6_method_10_code 116 = .ok (.aload_n 0, 1) := D_42 W_prog_6_method_10_code_96 20 rfl rfl
theorem d_6_10_117 : decode prog_6_method_10_code 117 = .ok (.getfield 11, 3) := D_180 W_prog_6_method_10_code_96 21 rfl rfl rfl
theorem d_6_10_120 : decode prog_6_method_10_code 120 = .ok (.iload_n 2, 1) := D_28 W_prog_6_method_10_code_96 24 rfl rfl
theorem d_6_10_121 : decode prog_6_method_10_code 121 = .ok (.aaload, 1) := D_50 W_prog_6_method_10_code_96 25 rfl rfl
theorem d_6_10_122 : decode prog_6_method_10_code 122 = .ok (.invokevirtual 146, 3) := D_182 W_prog_6_method_10_code_96 26 rfl rfl rfl
theorem W_prog_11_method_6_code_0 : chW prog_11_method_6_code 0 [3, 62, 29, 43, 180, 0, 58, 162, 0, 136, 42, 43, 29, 28, 182, 0, 98, 58, 4, 42, 180, 0, 30, 29, 42, 180, 0, 23, 29, 46, 79, 42, 180, 0, 33, 29] := chW_of (by decide +kernel)
theorem d_11_6_0 : decode prog_11_method_6_code 0 = .ok (.iconst 0, 1) := D_3 W_prog_11_method_6_code_0 0 rfl rfl
theorem d_11_6_1 : decode prog_11_method_6_code 1 = .ok (.istore_n 3, 1) := D_62 W_prog_11_method_6_code_0 1 rfl rfl
theorem d_11_6_2 : decode prog_11_method_6_code 2 = .ok (.iload_n 3, 1) := D_29 W_prog_11_method_6_code_0 2 rfl rfl
theorem d_11_6_3 : decode prog_11_method_6_code 3 = .ok (.aload_n 1, 1) := D_43 W_prog_11_method_6_code_0 3 rfl rfl
theorem d_11_6_4 : decode prog_11_method_6_code 4 = .ok (.getfield 58, 3) := D_180 W_prog_11_method_6_code_0 4 rfl rfl rfl
theorem d_11_6_7 : decode prog_11_method_6_code 7 = .ok (.if_icmp .ge 136, 3) := D_162 W_prog_11_method_6_code_0 7 rfl rfl rfl
theorem W_prog_11_method_6_code_128 : chW prog_11_method_6_code 128 [10, 25, 4, 21, 5, 182, 0, 107, 79, 132, 3, 1, 167, 255, 118, 177] := chW_of (by decide +kernel)
theorem d_11_6_143 : decode prog_11_method_6_code 143 = .ok (.return_, 1) := D_177 W_prog_11_method_6_code_128 15 rfl rfl
theorem d_11_6_10 : decode prog_11_method_6_code 10 = .ok (.aload_n 0, 1) := D_42 W_prog_11_method_6_code_0 10 rfl rfl
theorem d_11_6_11 : decode prog_11_method_6_code 11 = .ok (.aload_n 1, 1) := D_43 W_prog_11_method_6_code_0 11 rfl rfl
theorem d_11_6_12 : decode prog_11_method_6_code 12 = .ok (.iload_n 3, 1) := D_29 W_prog_11_method_6_code_0 12 rfl rfl
theorem d_11_6_13 : decode prog_11_method_6_code 13 = .ok (.iload_n 2, 1) := D_28 W_prog_11_method_6_code_0 13 rfl rfl
theorem d_11_6_14 : decode prog_11_method_6_code 14 = .ok (.invokevirtual 98, 3) := D_182 W_prog_11_method_6_code_0 14 rfl rfl rfl
theorem W_prog_7_method_2_code_0 : chW prog_7_method_2_code 0 [42, 3, 181, 0, 36, 42, 3, 181, 0, 40, 42, 3, 181, 0, 44, 3, 61, 28, 43, 180, 0, 47, 162, 0, 69, 43, 180, 0, 52, 28, 50, 78, 3, 54, 4, 21] := chW_of (by decide +kernel)
theorem d_7_2_0 : decode prog_7_method_2_code 0 = .ok (.aload_n 0, 1) := D_42 W_prog_7_method_2_code_0 0 rfl rfl
theorem d_7_2_1 : decode prog_7_method_2_code 1 = .ok (.iconst 0, 1) := D_3 W_prog_7_method_2_code_0 1 rfl rfl
theorem d_7_2_2 : decode prog_7_method_2_code 2 = .ok (.putfield 36, 3) := D_181 W_prog_7_method_2_code_0 2 rfl rfl rfl
theorem d_7_2_5 : decode prog_7_method_2_code 5 = .ok (.aload_n 0, 1) := D_42 W_prog_7_method_2_code_0 5 rfl rfl
theorem d_7_2_6 : decode prog_7_method_2_code 6 = .ok (.iconst 0, 1) := D_3 W_prog_7_method_2_code_0 6 rfl rfl
theorem d_7_2_7 : decode prog_7_method_2_code 7 = .ok (.putfield 40, 3) := D_181 W_prog_7_method_2_code_0 7 rfl rfl rfl
theorem d_7_2_10 : decode prog_7_method_2_code 10 = .ok (.aload_n 0, 1) := D_42 W_prog_7_method_2_code_0 10 rfl rfl
theorem d_7_2_11 : decode prog_7_method_2_code 11 = .ok (.iconst 0, 1) := D_3 W_prog_7_method_2_code_0 11 rfl rfl
theorem d_7_2_12 : decode prog_7_method_2_code 12 = .ok (.putfield 44, 3) := D_181 W_prog_7_method_2_code_0 12 rfl rfl rfl
theorem d_7_2_15 : decode prog_7_method_2_code 15 = .ok (.iconst 0, 1) := D_3 W_prog_7_method_2_code_0 15 rfl rfl
theorem d_7_2_16 : decode prog_7_method_2_code 16 = .ok (.istore_n 2, 1) := D_61 W_prog_7_method_2_code_0 16 rfl rfl
theorem d_7_2_17 : decode prog_7_method_2_code 17 = .ok (.iload_n 2, 1) := D_28 W_prog_7_method_2_code_0 17 rfl rfl
theorem d_7_2_18 : decode prog_7_method_2_code 18 = .ok (.aload_n 1, 1) := D_43 W_prog_7_method_2_code_0 18 rfl rfl
theorem d_7_2_19 : decode prog_7_method_2_code 19 = .ok (.getfield 47, 3) := D_180 W_prog_7_method_2_code_0 19 rfl rfl rfl
theorem d_7_2_22 : decode prog_7_method_2_code 22 = .ok (.if_icmp .ge 69, 3) := D_162 W_prog_7_method_2_code_0 22 rfl rfl rfl
theorem W_prog_7_method_2_code_64 : chW prog_7_method_2_code 64 [4, 182, 0, 65, 167, 0, 11, 42, 45, 28, 21, 4, 182, 0, 69, 132, 4, 1, 167, 255, 209, 132, 2, 1, 167, 255, 185, 177] := chW_of (by decide +kernel)
theorem d_7_2_91 : decode prog_7_method_2_code 91 = .ok (.return_, 1) := D_177 W_prog_7_method_2_code_64 27 rfl rfl
theorem d_7_2_25 : decode prog_7_method_2_code 25 = .ok (.aload_n 1, 1) := D_43 W_prog_7_method_2_code_0 25 rfl rfl
theorem d_7_2_26 : decode prog_7_method_2_code 26 = .ok (.getfield 52, 3) := D_180 W_prog_7_method_2_code_0 26 rfl rfl rfl
theorem d_7_2_29 : decode prog_7_method_2_code 29 = .ok (.iload_n 2, 1) := D_28 W_prog_7_method_2_code_0 29 rfl rfl
theorem d_7_2_30 : decode prog_7_method_2_code 30 = .ok (.aaload, 1) := D_50 W_prog_7_method_2_code_0 30 rfl rfl
theorem d_7_2_31 : decode prog_7_method_2_code 31 = .ok (.astore_n 3, 1) := D_78 W_prog_7_method_2_code_0 31 rfl rfl
theorem W_prog_7_method_2_code_32 : chW prog_7_method_2_code 32 [3, 54, 4, 21, 4, 45, 180, 0, 56, 162, 0, 44, 42, 180, 0, 40, 154, 0, 37, 45, 21, 4, 184, 0, 61, 153, 0, 14, 42, 43, 28, 21, 4, 182, 0, 65] := chW_of (by decide +kernel)
theorem d_7_2_32 : decode prog_7_method_2_code 32 = .ok (.iconst 0, 1) := D_3 W_prog_7_method_2_code_32 0 rfl rfl
theorem d_7_2_33 : decode prog_7_method_2_code 33 = .ok (.istore 4, 2) := D_54 W_prog_7_method_2_code_32 1 rfl rfl
theorem d_7_2_35 : decode prog_7_method_2_code 35 = .ok (.iload 4, 2) := D_21 W_prog_7_method_2_code_32 3 rfl rfl
theorem d_7_2_37 : decode prog_7_method_2_code 37 = .ok (.aload_n 3, 1) := D_45 W_prog_7_method_2_code_32 5 rfl rfl
theorem d_7_2_38 : decode prog_7_method_2_code 38 = .ok (.getfield 56, 3) := D_180 W_prog_7_method_2_code_32 6 rfl rfl rfl
theorem d_7_2_41 : decode prog_7_method_2_code 41 = .ok (.if_icmp .ge 44, 3) := D_162 W_prog_7_method_2_code_32 9 rfl rfl rfl
theorem d_7_2_44 : decode prog_7_method_2_code 44 = .ok (.aload_n 0, 1) := D_42 W_prog_7_method_2_code_32 12 rfl rfl
theorem d_7_2_45 : decode prog_7_method_2_code 45 = .ok (.getfield 40, 3) := D_180 W_prog_7_method_2_code_32 13 rfl rfl rfl
theorem d_7_2_48 : decode prog_7_method_2_code 48 = .ok (.ifCond .ne 37, 3) := D_154 W_prog_7_method_2_code_32 16 rfl rfl rfl
theorem d_7_2_51 : decode prog_7_method_2_code 51 = .ok (.aload_n 3, 1) := D_45 W_prog_7_method_2_code_32 19 rfl rfl
theorem d_7_2_52 : decode prog_7_method_2_code 52 = .ok (.iload 4, 2) := D_21 W_prog_7_method_2_code_32 20 rfl rfl
theorem d_7_2_54 : decode prog_7_method_2_code 54 = .ok (.invokestatic 61, 3) := D_184 W_prog_7_method_2_code_32 22 rfl rfl rfl
theorem W_prog_4_method_3_code_0 : chW prog_4_method_3_code 0 [42, 3, 181, 0, 76, 3, 62, 29, 7, 162, 0, 16, 42, 180, 0, 43, 29, 3, 79, 132, 3, 1, 167, 255, 241, 3, 62, 29, 28, 162, 0, 116, 42, 180, 0, 22] := chW_of (by decide +kernel)
theorem d_4_3_0 : decode prog_4_method_3_code 0 = .ok (.aload_n 0, 1) := D_42 W_prog_4_method_3_code_0 0 rfl rfl
theorem d_4_3_1 : decode prog_4_method_3_code 1 = .ok (.iconst 0, 1) := D_3 W_prog_4_method_3_code_0 1 rfl rfl
theorem d_4_3_2 : decode prog_4_method_3_code 2 = .ok (.putfield 76, 3) := D_181 W_prog_4_method_3_code_0 2 rfl rfl rfl
theorem d_4_3_5 : decode prog_4_method_3_code 5 = .ok (.iconst 0, 1) := D_3 W_prog_4_method_3_code_0 5 rfl rfl
theorem d_4_3_6 : decode prog_4_method_3_code 6 = .ok (.istore_n 3, 1) := D_62 W_prog_4_method_3_code_0 6 rfl rfl
theorem d_4_3_7 : decode prog_4_method_3_code 7 = .ok (.iload_n 3, 1) := D_29 W_prog_4_method_3_code_0 7 rfl rfl
theorem d_4_3_8 : decode prog_4_method_3_code 8 = .ok (.iconst 4, 1) := D_7 W_prog_4_method_3_code_0 8 rfl rfl
theorem d_4_3_9 : decode prog_4_method_3_code 9 = .ok (.if_icmp .ge 16, 3) := D_162 W_prog_4_method_3_code_0 9 rfl rfl rfl
theorem d_4_3_25 : decode prog_4_method_3_code 25 = .ok (.iconst 0, 1) := D_3 W_prog_4_method_3_code_0 25 rfl rfl
theorem d_4_3_26 : decode prog_4_method_3_code 26 = .ok (.istore_n 3, 1) := D_62 W_prog_4_method_3_code_0 26 rfl rfl
theorem d_4_3_12 : decode prog_4_method_3_code 12 = .ok (.aload_n 0, 1) := D_42 W_prog_4_method_3_code_0 12 rfl rfl
theorem d_4_3_13 : decode prog_4_method_3_code 13 = .ok (.getfield 43, 3) := D_180 W_prog_4_method_3_code_0 13 rfl rfl rfl
theorem d_4_3_16 : decode prog_4_method_3_code 16 = .ok (.iload_n 3, 1) := D_29 W_prog_4_method_3_code_0 16 rfl rfl
theorem d_4_3_17 : decode prog_4_method_3_code 17 = .ok (.iconst 0, 1) := D_3 W_prog_4_method_3_code_0 17 rfl rfl
theorem d_4_3_18 : decode prog_4_method_3_code 18 = .ok (.iastore, 1) := D_79 W_prog_4_method_3_code_0 18 rfl rfl
theorem d_4_3_19 : decode prog_4_method_3_code 19 = .ok (.iinc 3 1, 3) := D_132 W_prog_4_method_3_code_0 19 rfl rfl rfl
theorem d_4_3_22 : decode prog_4_method_3_code 22 = .ok (.goto (-15), 3) := D_167 W_prog_4_method_3_code_0 22 rfl rfl rfl
theorem d_4_3_27 : decode prog_4_method_3_code 27 = .ok (.iload_n 3, 1) := D_29 W_prog_4_method_3_code_0 27 rfl rfl
theorem d_4_3_28 : decode prog_4_method_3_code 28 = .ok (.iload_n 2, 1) := D_28 W_prog_4_method_3_code_0 28 rfl rfl
theorem d_4_3_29 : decode prog_4_method_3_code 29 = .ok (.if_icmp .ge 116, 3) := D_162 W_prog_4_method_3_code_0 29 rfl rfl rfl
theorem W_prog_4_method_3_code_128 : chW prog_4_method_3_code 128 [21, 4, 46, 96, 79, 132, 4, 1, 167, 255, 228, 132, 3, 1, 167, 255, 141, 42, 180, 0, 22, 28, 42, 180, 0, 76, 79, 177] := chW_of (by decide +kernel)
theorem d_4_3_145 : decode prog_4_method_3_code 145 = .ok (.aload_n 0, 1) := D_42 W_prog_4_method_3_code_128 17 rfl rfl
theorem d_4_3_146 : decode prog_4_method_3_code 146 = .ok (.getfield 22, 3) := D_180 W_prog_4_method_3_code_128 18 rfl rfl rfl
theorem d_4_3_149 : decode prog_4_method_3_code 149 = .ok (.iload_n 2, 1) := D_28 W_prog_4_method_3_code_128 21 rfl rfl
theorem d_4_3_150 : decode prog_4_method_3_code 150 = .ok (.aload_n 0, 1) := D_42 W_prog_4_method_3_code_128 22 rfl rfl
theorem d_4_3_151 : decode prog_4_method_3_code 151 = .ok (.getfield 76, 3) := D_180 W_prog_4_method_3_code_128 23 rfl rfl rfl
theorem d_4_3_154 : decode prog_4_method_3_code 154 = .ok (.iastore, 1) := D_79 W_prog_4_method_3_code_128 26 rfl rfl
theorem d_4_3_155 : decode prog_4_method_3_code 155 = .ok (.return_, 1) := D_177 W_prog_4_method_3_code_128 27 rfl rfl
theorem W_prog_4_method_3_code_32 : chW prog_4_method_3_code 32 [42, 180, 0, 22, 29, 42, 180, 0, 76, 79, 3, 54, 4, 21, 4, 17, 12, 128, 162, 0, 28, 42, 43, 29, 182, 0, 79, 153, 0, 19, 42, 89, 180, 0, 76, 4] := chW_of (by decide +kernel)
theorem d_4_3_32 : decode prog_4_method_3_code 32 = .ok (.aload_n 0, 1) := D_42 W_prog_4_method_3_code_32 0 rfl rfl
theorem d_4_3_33 : decode prog_4_method_3_code 33 = .ok (.getfield 22, 3) := D_180 W_prog_4_method_3_code_32 1 rfl rfl rfl
theorem d_4_3_36 : decode prog_4_method_3_code 36 = .ok (.iload_n 3, 1) := D_29 W_prog_4_method_3_code_32 4 rfl rfl
theorem d_4_3_37 : decode prog_4_method_3_code 37 = .ok (.aload_n 0, 1) := D_42 W_prog_4_method_3_code_32 5 rfl rfl
theorem d_4_3_38 : decode prog_4_method_3_code 38 = .ok (.getfield 76, 3) := D_180 W_prog_4_method_3_code_32 6 rfl rfl rfl
theorem d_4_3_41 : decode prog_4_method_3_code 41 = .ok (.iastore, 1) := D_79 W_prog_4_method_3_code_32 9 rfl rfl
theorem d_4_3_42 : decode prog_4_method_3_code 42 = .ok (.iconst 0, 1) := D_3 W_prog_4_method_3_code_32 10 rfl rfl
theorem d_4_3_43 : decode prog_4_method_3_code 43 = .ok (.istore 4, 2) := D_54 W_prog_4_method_3_code_32 11 rfl rfl
theorem d_4_3_45 : decode prog_4_method_3_code 45 = .ok (.iload 4, 2) := D_21 W_prog_4_method_3_code_32 13 rfl rfl
theorem d_4_3_47 : decode prog_4_method_3_code 47 = .ok (.sipush 3200, 3) := D_17 W_prog_4_method_3_code_32 15 rfl rfl rfl
theorem d_4_3_50 : decode prog_4_method_3_code 50 = .ok (.if_icmp .ge 28, 3) := D_162 W_prog_4_method_3_code_32 18 rfl rfl rfl
theorem d_4_3_53 : decode prog_4_method_3_code 53 = .ok (.aload_n 0, 1) := D_42 W_prog_4_method_3_code_32 21 rfl rfl
theorem d_4_3_54 : decode prog_4_method_3_code 54 = .ok (.aload_n 1, 1) := D_43 W_prog_4_method_3_code_32 22 rfl rfl
theorem d_4_3_55 : decode prog_4_method_3_code 55 = .ok (.iload_n 3, 1) := D_29 W_prog_4_method_3_code_32 23 rfl rfl
theorem d_4_3_56 : decode prog_4_method_3_code 56 = .ok (.invokevirtual 79, 3) := D_182 W_prog_4_method_3_code_32 24 rfl rfl rfl
theorem W_prog_2_method_5_code_0 : chW prog_2_method_5_code 0 [3, 61, 28, 43, 182, 0, 29, 162, 0, 18, 42, 43, 28, 182, 0, 35, 182, 0, 39, 132, 2, 1, 167, 255, 236, 177] := chW_of (by decide +kernel)
theorem d_2_5_0 : decode prog_2_method_5_code 0 = .ok (.iconst 0, 1) := D_3 W_prog_2_method_5_code_0 0 rfl rfl
theorem d_2_5_1 : decode prog_2_method_5_code 1 = .ok (.istore_n 2, 1) := D_61 W_prog_2_method_5_code_0 1 rfl rfl
theorem d_2_5_2 : decode prog_2_method_5_code 2 = .ok (.iload_n 2, 1) := D_28 W_prog_2_method_5_code_0 2 rfl rfl
theorem d_2_5_3 : decode prog_2_method_5_code 3 = .ok (.aload_n 1, 1) := D_43 W_prog_2_method_5_code_0 3 rfl rfl
theorem d_2_5_4 : decode prog_2_method_5_code 4 = .ok (.invokevirtual 29, 3) := D_182 W_prog_2_method_5_code_0 4 rfl rfl rfl
theorem W_prog_7_method_18_code_0 : chW prog_7_method_18_code 0 [42, 18, 221, 182, 0, 203, 42, 3, 7, 182, 0, 209, 42, 180, 0, 223, 172] := chW_of (by decide +kernel)
theorem d_7_18_0 : decode prog_7_method_18_code 0 = .ok (.aload_n 0, 1) := D_42 W_prog_7_method_18_code_0 0 rfl rfl
theorem d_7_18_1 : decode prog_7_method_18_code 1 = .ok (.ldc 221, 2) := D_18 W_prog_7_method_18_code_0 1 rfl rfl
theorem d_7_18_3 : decode prog_7_method_18_code 3 = .ok (.invokevirtual 203, 3) := D_182 W_prog_7_method_18_code_0 3 rfl rfl rfl
theorem W_prog_7_method_22_code_0 : chW prog_7_method_22_code 0 [45, 184, 0, 237, 54, 4, 3, 54, 5, 3, 54, 6, 21, 6, 16, 8, 162, 0, 27, 43, 180, 1, 7, 16, 8, 21, 6, 104, 125, 9, 148, 153, 0, 12, 132, 5] := chW_of (by decide +kernel)
theorem d_7_22_0 : decode prog_7_method_22_code 0 = .ok (.aload_n 3, 1) := D_45 W_prog_7_method_22_code_0 0 rfl rfl
theorem d_7_22_1 : decode prog_7_method_22_code 1 = .ok (.invokestatic 237, 3) := D_184 W_prog_7_method_22_code_0 1 rfl rfl rfl
theorem W_prog_10_method_12_code_0 : chW prog_10_method_12_code 0 [18, 96, 76, 3, 61, 28, 43, 182, 0, 98, 162, 0, 23, 42, 43, 28, 182, 0, 103, 43, 28, 182, 0, 103, 182, 0, 107, 132, 2, 1, 167, 255, 231, 42, 180, 0] := chW_of (by decide +kernel)
theorem d_10_12_0 : decode prog_10_method_12_code 0 = .ok (.ldc 96, 2) := D_18 W_prog_10_method_12_code_0 0 rfl rfl
theorem d_10_12_2 : decode prog_10_method_12_code 2 = .ok (.astore_n 1, 1) := D_76 W_prog_10_method_12_code_0 2 rfl rfl
theorem d_10_12_3 : decode prog_10_method_12_code 3 = .ok (.iconst 0, 1) := D_3 W_prog_10_method_12_code_0 3 rfl rfl
theorem d_10_12_4 : decode prog_10_method_12_code 4 = .ok (.istore_n 2, 1) := D_61 W_prog_10_method_12_code_0 4 rfl rfl
theorem d_10_12_5 : decode prog_10_method_12_code 5 = .ok (.iload_n 2, 1) := D_28 W_prog_10_method_12_code_0 5 rfl rfl
theorem d_10_12_6 : decode prog_10_method_12_code 6 = .ok (.aload_n 1, 1) := D_43 W_prog_10_method_12_code_0 6 rfl rfl
theorem d_10_12_7 : decode prog_10_method_12_code 7 = .ok (.invokevirtual 98, 3) := D_182 W_prog_10_method_12_code_0 7 rfl rfl rfl
theorem W_prog_11_method_15_code_0 : chW prog_11_method_15_code 0 [3, 61, 28, 16, 7, 162, 0, 41, 28, 5, 112, 154, 0, 7, 4, 167, 0, 4, 3, 62, 42, 180, 0, 40, 27, 28, 96, 16, 7, 112, 46, 184, 0, 142, 29, 164] := chW_of (by decide +kernel)
theorem d_11_15_0 : decode prog_11_method_15_code 0 = .ok (.iconst 0, 1) := D_3 W_prog_11_method_15_code_0 0 rfl rfl
theorem d_11_15_1 : decode prog_11_method_15_code 1 = .ok (.istore_n 2, 1) := D_61 W_prog_11_method_15_code_0 1 rfl rfl
theorem d_11_15_2 : decode prog_11_method_15_code 2 = .ok (.iload_n 2, 1) := D_28 W_prog_11_method_15_code_0 2 rfl rfl
theorem d_11_15_3 : decode prog_11_method_15_code 3 = .ok (.bipush 7, 2) := D_16 W_prog_11_method_15_code_0 3 rfl rfl rfl
theorem d_11_15_5 : decode prog_11_method_15_code 5 = .ok (.if_icmp .ge 41, 3) := D_162 W_prog_11_method_15_code_0 5 rfl rfl rfl
theorem W_prog_11_method_15_code_32 : chW prog_11_method_15_code 32 [0, 142, 29, 164, 0, 5, 2, 172, 132, 2, 1, 167, 255, 215, 42, 180, 0, 40, 27, 46, 154, 0, 5, 2, 172, 17, 39, 16, 42, 27, 5, 182, 0, 171, 104, 16] := chW_of (by decide +kernel)
theorem d_11_15_46 : decode prog_11_method_15_code 46 = .ok (.aload_n 0, 1) := D_42 W_prog_11_method_15_code_32 14 rfl rfl
theorem d_11_15_47 : decode prog_11_method_15_code 47 = .ok (.getfield 40, 3) := D_180 W_prog_11_method_15_code_32 15 rfl rfl rfl
theorem d_11_15_50 : decode prog_11_method_15_code 50 = .ok (.iload_n 1, 1) := D_27 W_prog_11_method_15_code_32 18 rfl rfl
theorem d_11_15_51 : decode prog_11_method_15_code 51 = .ok (.iaload, 1) := D_46 W_prog_11_method_15_code_32 19 rfl rfl
theorem d_11_15_52 : decode prog_11_method_15_code 52 = .ok (.ifCond .ne 5, 3) := D_154 W_prog_11_method_15_code_32 20 rfl rfl rfl
theorem d_11_15_57 : decode prog_11_method_15_code 57 = .ok (.sipush 10000, 3) := D_17 W_prog_11_method_15_code_32 25 rfl rfl rfl
theorem d_11_15_60 : decode prog_11_method_15_code 60 = .ok (.aload_n 0, 1) := D_42 W_prog_11_method_15_code_32 28 rfl rfl
theorem d_11_15_61 : decode prog_11_method_15_code 61 = .ok (.iload_n 1, 1) := D_27 W_prog_11_method_15_code_32 29 rfl rfl
theorem d_11_15_62 : decode prog_11_method_15_code 62 = .ok (.iconst 2, 1) := D_5 W_prog_11_method_15_code_32 30 rfl rfl
theorem d_11_15_63 : decode prog_11_method_15_code 63 = .ok (.invokevirtual 171, 3) := D_182 W_prog_11_method_15_code_32 31 rfl rfl rfl
theorem W_prog_3_method_9_code_0 : chW prog_3_method_9_code 0 [42, 182, 0, 36, 60, 27, 2, 160, 0, 7, 3, 167, 0, 9, 42, 180, 0, 9, 27, 46, 172] := chW_of (by decide +kernel)
theorem d_3_9_0 : decode prog_3_method_9_code 0 = .ok (.aload_n 0, 1) := D_42 W_prog_3_method_9_code_0 0 rfl rfl
theorem d_3_9_1 : decode prog_3_method_9_code 1 = .ok (.invokevirtual 36, 3) := D_182 W_prog_3_method_9_code_0 1 rfl rfl rfl
theorem W_prog_6_method_28_code_0 : chW prog_6_method_28_code 0 [21, 5, 4, 126, 153, 0, 7, 4, 167, 0, 4, 3, 54, 6, 21, 5, 5, 126, 153, 0, 7, 4, 167, 0, 4, 3, 54, 7, 21, 5, 7, 126, 153, 0, 7, 4] := chW_of (by decide +kernel)
theorem d_6_28_0 : decode prog_6_method_28_code 0 = .ok (.iload 5, 2) := D_21 W_prog_6_method_28_code_0 0 rfl rfl
theorem d_6_28_2 : decode prog_6_method_28_code 2 = .ok (.iconst 1, 1) := D_4 W_prog_6_method_28_code_0 2 rfl rfl
theorem d_6_28_3 : decode prog_6_method_28_code 3 = .ok (.iand, 1) := D_126 W_prog_6_method_28_code_0 3 rfl rfl
theorem d_6_28_4 : decode prog_6_method_28_code 4 = .ok (.ifCond .eq 7, 3) := D_153 W_prog_6_method_28_code_0 4 rfl rfl rfl
theorem d_6_28_11 : decode prog_6_method_28_code 11 = .ok (.iconst 0, 1) := D_3 W_prog_6_method_28_code_0 11 rfl rfl
theorem d_6_28_7 : decode prog_6_method_28_code 7 = .ok (.iconst 1, 1) := D_4 W_prog_6_method_28_code_0 7 rfl rfl
theorem d_6_28_8 : decode prog_6_method_28_code 8 = .ok (.goto 4, 3) := D_167 W_prog_6_method_28_code_0 8 rfl rfl rfl
theorem d_6_28_12 : decode prog_6_method_28_code 12 = .ok (.istore 6, 2) := D_54 W_prog_6_method_28_code_0 12 rfl rfl
theorem d_6_28_14 : decode prog_6_method_28_code 14 = .ok (.iload 5, 2) := D_21 W_prog_6_method_28_code_0 14 rfl rfl
theorem d_6_28_16 : decode prog_6_method_28_code 16 = .ok (.iconst 2, 1) := D_5 W_prog_6_method_28_code_0 16 rfl rfl
theorem d_6_28_17 : decode prog_6_method_28_code 17 = .ok (.iand, 1) := D_126 W_prog_6_method_28_code_0 17 rfl rfl
theorem d_6_28_18 : decode prog_6_method_28_code 18 = .ok (.ifCond .eq 7, 3) := D_153 W_prog_6_method_28_code_0 18 rfl rfl rfl
theorem d_6_28_25 : decode prog_6_method_28_code 25 = .ok (.iconst 0, 1) := D_3 W_prog_6_method_28_code_0 25 rfl rfl
theorem d_6_28_21 : decode prog_6_method_28_code 21 = .ok (.iconst 1, 1) := D_4 W_prog_6_method_28_code_0 21 rfl rfl
theorem d_6_28_22 : decode prog_6_method_28_code 22 = .ok (.goto 4, 3) := D_167 W_prog_6_method_28_code_0 22 rfl rfl rfl
theorem d_6_28_26 : decode prog_6_method_28_code 26 = .ok (.istore 7, 2) := D_54 W_prog_6_method_28_code_0 26 rfl rfl
theorem d_6_28_28 : decode prog_6_method_28_code 28 = .ok (.iload 5, 2) := D_21 W_prog_6_method_28_code_0 28 rfl rfl
theorem d_6_28_30 : decode prog_6_method_28_code 30 = .ok (.iconst 4, 1) := D_7 W_prog_6_method_28_code_0 30 rfl rfl
theorem d_6_28_31 : decode prog_6_method_28_code 31 = .ok (.iand, 1) := D_126 W_prog_6_method_28_code_0 31 rfl rfl
theorem W_prog_6_method_28_code_32 : chW prog_6_method_28_code 32 [153, 0, 7, 4, 167, 0, 4, 3, 54, 8, 44, 180, 0, 11, 29, 50, 58, 9, 42, 180, 0, 11, 21, 7, 153, 0, 12, 27, 21, 4, 96, 4, 100, 167, 0, 4] := chW_of (by decide +kernel)
theorem d_6_28_32 : decode prog_6_method_28_code 32 = .ok (.ifCond .eq 7, 3) := D_153 W_prog_6_method_28_code_32 0 rfl rfl rfl
theorem d_6_28_39 : decode prog_6_method_28_code 39 = .ok (.iconst 0, 1) := D_3 W_prog_6_method_28_code_32 7 rfl rfl
theorem d_6_28_35 : decode prog_6_method_28_code 35 = .ok (.iconst 1, 1) := D_4 W_prog_6_method_28_code_32 3 rfl rfl
theorem d_6_28_36 : decode prog_6_method_28_code 36 = .ok (.goto 4, 3) := D_167 W_prog_6_method_28_code_32 4 rfl rfl rfl
theorem d_6_28_40 : decode prog_6_method_28_code 40 = .ok (.istore 8, 2) := D_54 W_prog_6_method_28_code_32 8 rfl rfl
theorem d_6_28_42 : decode prog_6_method_28_code 42 = .ok (.aload_n 2, 1) := D_44 W_prog_6_method_28_code_32 10 rfl rfl
theorem d_6_28_43 : decode prog_6_method_28_code 43 = .ok (.getfield 11, 3) := D_180 W_prog_6_method_28_code_32 11 rfl rfl rfl
theorem d_6_28_46 : decode prog_6_method_28_code 46 = .ok (.iload_n 3, 1) := D_29 W_prog_6_method_28_code_32 14 rfl rfl
theorem d_6_28_47 : decode prog_6_method_28_code 47 = .ok (.aaload, 1) := D_50 W_prog_6_method_28_code_32 15 rfl rfl
theorem d_6_28_48 : decode prog_6_method_28_code 48 = .ok (.astore 9, 2) := D_58 W_prog_6_method_28_code_32 16 rfl rfl
theorem d_6_28_50 : decode prog_6_method_28_code 50 = .ok (.aload_n 0, 1) := D_42 W_prog_6_method_28_code_32 18 rfl rfl
theorem d_6_28_51 : decode prog_6_method_28_code 51 = .ok (.getfield 11, 3) := D_180 W_prog_6_method_28_code_32 19 rfl rfl rfl
theorem d_6_28_54 : decode prog_6_method_28_code 54 = .ok (.iload 7, 2) := D_21 W_prog_6_method_28_code_32 22 rfl rfl
theorem d_6_28_56 : decode prog_6_method_28_code 56 = .ok (.ifCond .eq 12, 3) := D_153 W_prog_6_method_28_code_32 24 rfl rfl rfl
theorem W_prog_6_method_28_code_64 : chW prog_6_method_28_code 64 [100, 167, 0, 4, 27, 50, 58, 10, 1, 58, 11, 1, 58, 12, 3, 54, 13, 21, 13, 21, 4, 162, 0, 189, 44, 180, 0, 11, 29, 21, 13, 96, 50, 58, 14, 42] := chW_of (by decide +kernel)
theorem d_6_28_68 : decode prog_6_method_28_code 68 = .ok (.iload_n 1, 1) := D_27 W_prog_6_method_28_code_64 4 rfl rfl
theorem d_6_28_59 : decode prog_6_method_28_code 59 = .ok (.iload_n 1, 1) := D_27 W_prog_6_method_28_code_32 27 rfl rfl
theorem d_6_28_60 : decode prog_6_method_28_code 60 = .ok (.iload 4, 2) := D_21 W_prog_6_method_28_code_32 28 rfl rfl
theorem d_6_28_62 : decode prog_6_method_28_code 62 = .ok (.iadd, 1) := D_96 W_prog_6_method_28_code_32 30 rfl rfl
theorem d_6_28_63 : decode prog_6_method_28_code 63 = .ok (.iconst 1, 1) := D_4 W_prog_6_method_28_code_32 31 rfl rfl
theorem d_6_28_64 : decode prog_6_method_28_code 64 = .ok (.isub, 1) := D_100 W_prog_6_method_28_code_64 0 rfl rfl
theorem d_6_28_65 : decode prog_6_method_28_code 65 = .ok (.goto 4, 3) := D_167 W_prog_6_method_28_code_64 1 rfl rfl rfl
theorem d_6_28_69 : decode prog_6_method_28_code 69 = .ok (.aaload, 1) := D_50 W_prog_6_method_28_code_64 5 rfl rfl
theorem d_6_28_70 : decode prog_6_method_28_code 70 = .ok (.astore 10, 2) := D_58 W_prog_6_method_28_code_64 6 rfl rfl
theorem d_6_28_72 : decode prog_6_method_28_code 72 = .ok (.aconst_null, 1) := D_1 W_prog_6_method_28_code_64 8 rfl rfl
theorem d_6_28_73 : decode prog_6_method_28_code 73 = .ok (.astore 11, 2) := D_58 W_prog_6_method_28_code_64 9 rfl rfl
theorem d_6_28_75 : decode prog_6_method_28_code 75 = .ok (.aconst_null, 1) := D_1 W_prog_6_method_28_code_64 11 rfl rfl
theorem d_6_28_76 : decode prog_6_method_28_code 76 = .ok (.astore 12, 2) := D_58 W_prog_6_method_28_code_64 12 rfl rfl
theorem d_6_28_78 : decode prog_6_method_28_code 78 = .ok (.iconst 0, 1) := D_3 W_prog_6_method_28_code_64 14 rfl rfl
theorem d_6_28_79 : decode prog_6_method_28_code 79 = .ok (.istore 13, 2) := D_54 W_prog_6_method_28_code_64 15 rfl rfl
theorem d_6_28_81 : decode prog_6_method_28_code 81 = .ok (.iload 13, 2) := D_21 W_prog_6_method_28_code_64 17 rfl rfl
theorem d_6_28_83 : decode prog_6_method_28_code 83 = .ok (.iload 4, 2) := D_21 W_prog_6_method_28_code_64 19 rfl rfl
theorem d_6_28_85 : decode prog_6_method_28_code 85 = .ok (.if_icmp .ge 189, 3) := D_162 W_prog_6_method_28_code_64 21 rfl rfl rfl
theorem W_prog_6_method_28_code_256 : chW prog_6_method_28_code 256 [17, 116, 167, 0, 5, 21, 17, 159, 0, 5, 3, 172, 132, 13, 1, 167, 255, 66, 4, 172] := chW_of (by decide +kernel)
theorem d_6_28_274 : decode prog_6_method_28_code 274 = .ok (.iconst 1, 1) := D_4 W_prog_6_method_28_code_256 18 rfl rfl
theorem d_6_28_275 : decode prog_6_method_28_code 275 = .ok (.ireturn, 1) := D_172 W_prog_6_method_28_code_256 19 rfl rfl
theorem d_6_28_88 : decode prog_6_method_28_code 88 = .ok (.aload_n 2, 1) := D_44 W_prog_6_method_28_code_64 24 rfl rfl
theorem d_6_28_89 : decode prog_6_method_28_code 89 = .ok (.getfield 11, 3) := D_180 W_prog_6_method_28_code_64 25 rfl rfl rfl
theorem d_6_28_92 : decode prog_6_method_28_code 92 = .ok (.iload_n 3, 1) := D_29 W_prog_6_method_28_code_64 28 rfl rfl
theorem d_6_28_93 : decode prog_6_method_28_code 93 = .ok (.iload 13, 2) := D_21 W_prog_6_method_28_code_64 29 rfl rfl
theorem d_6_28_95 : decode prog_6_method_28_code 95 = .ok (.iadd, 1) := D_96 W_prog_6_method_28_code_64 31 rfl rfl
theorem W_prog_6_method_28_code_96 : chW prog_6_method_28_code 96 [50, 58, 14, 42, 180, 0, 11, 21, 7, 153, 0, 15, 27, 21, 4, 96, 4, 100, 21, 13, 100, 167, 0, 7, 27, 21, 13, 96, 50, 58, 15, 21, 8, 153, 0, 17] := chW_of (by decide +kernel)
theorem d_6_28_96 : decode prog_6_method_28_code 96 = .ok (.aaload, 1) := D_50 W_prog_6_method_28_code_96 0 rfl rfl
theorem d_6_28_97 : decode prog_6_method_28_code 97 = .ok (.astore 14, 2) := D_58 W_prog_6_method_28_code_96 1 rfl rfl
theorem d_6_28_99 : decode prog_6_method_28_code 99 = .ok (.aload_n 0, 1) := D_42 W_prog_6_method_28_code_96 3 rfl rfl
theorem d_6_28_100 : decode prog_6_method_28_code 100 = .ok (.getfield 11, 3) := D_180 W_prog_6_method_28_code_96 4 rfl rfl rfl
theorem d_6_28_103 : decode prog_6_method_28_code 103 = .ok (.iload 7, 2) := D_21 W_prog_6_method_28_code_96 7 rfl rfl
theorem d_6_28_105 : decode prog_6_method_28_code 105 = .ok (.ifCond .eq 15, 3) := D_153 W_prog_6_method_28_code_96 9 rfl rfl rfl
theorem d_6_28_120 : decode prog_6_method_28_code 120 = .ok (.iload_n 1, 1) := D_27 W_prog_6_method_28_code_96 24 rfl rfl
theorem d_6_28_121 : decode prog_6_method_28_code 121 = .ok (.iload 13, 2) := D_21 W_prog_6_method_28_code_96 25 rfl rfl
theorem d_6_28_123 : decode prog_6_method_28_code 123 = .ok (.iadd, 1) := D_96 W_prog_6_method_28_code_96 27 rfl rfl
theorem d_6_28_108 : decode prog_6_method_28_code 108 = .ok (.iload_n 1, 1) := D_27 W_prog_6_method_28_code_96 12 rfl rfl
theorem d_6_28_109 : decode prog_6_method_28_code 109 = .ok (.iload 4, 2) := D_21 W_prog_6_method_28_code_96 13 rfl rfl
theorem d_6_28_111 : decode prog_6_method_28_code 111 = .ok (.iadd, 1) := D_96 W_prog_6_method_28_code_96 15 rfl rfl
theorem d_6_28_112 : decode prog_6_method_28_code 112 = .ok (.iconst 1, 1) := D_4 W_prog_6_method_28_code_96 16 rfl rfl
theorem d_6_28_113 : decode prog_6_method_28_code 113 = .ok (.isub, 1) := D_100 W_prog_6_method_28_code_96 17 rfl rfl
theorem d_6_28_114 : decode prog_6_method_28_code 114 = .ok (.iload 13, 2) := D_21 W_prog_6_method_28_code_96 18 rfl rfl
theorem d_6_28_116 : decode prog_6_method_28_code 116 = .ok (.isub, 1) := D_100 W_prog_6_method_28_code_96 20 rfl rfl
theorem d_6_28_117 : decode prog_6_method_28_code 117 = .ok (.goto 7, 3) := D_167 W_prog_6_method_28_code_96 21 rfl rfl rfl
theorem d_6_28_124 : decode prog_6_method_28_code 124 = .ok (.aaload, 1) := D_50 W_prog_6_method_28_code_96 28 rfl rfl
theorem d_6_28_125 : decode prog_6_method_28_code 125 = .ok (.astore 15, 2) := D_58 W_prog_6_method_28_code_96 29 rfl rfl
theorem d_6_28_127 : decode prog_6_method_28_code 127 = .ok (.iload 8, 2) := D_21 W_prog_6_method_28_code_96 31 rfl rfl
theorem W_prog_6_method_28_code_128 : chW prog_6_method_28_code 128 [8, 153, 0, 17, 25, 9, 25, 10, 25, 14, 25, 15, 184, 0, 231, 167, 0, 22, 25, 14, 180, 0, 87, 25, 15, 180, 0, 87, 148, 154, 0, 7, 4, 167, 0, 4] := chW_of (by decide +kernel)
theorem d_6_28_129 : decode prog_6_method_28_code 129 = .ok (.ifCond .eq 17, 3) := D_153 W_prog_6_method_28_code_128 1 rfl rfl rfl
theorem d_6_28_146 : decode prog_6_method_28_code 146 = .ok (.aload 14, 2) := D_25 W_prog_6_method_28_code_128 18 rfl rfl
theorem d_6_28_148 : decode prog_6_method_28_code 148 = .ok (.getfield 87, 3) := D_180 W_prog_6_method_28_code_128 20 rfl rfl rfl
theorem d_6_28_151 : decode prog_6_method_28_code 151 = .ok (.aload 15, 2) := D_25 W_prog_6_method_28_code_128 23 rfl rfl
theorem d_6_28_153 : decode prog_6_method_28_code 153 = .ok (.getfield 87, 3) := D_180 W_prog_6_method_28_code_128 25 rfl rfl rfl
theorem d_6_28_156 : decode prog_6_method_28_code 156 = .ok (.lcmp, 1) := D_148 W_prog_6_method_28_code_128 28 rfl rfl
theorem d_6_28_157 : decode prog_6_method_28_code 157 = .ok (.ifCond .ne 7, 3) := D_154 W_prog_6_method_28_code_128 29 rfl rfl rfl
theorem W_prog_6_method_28_code_160 : chW prog_6_method_28_code 160 [4, 167, 0, 4, 3, 54, 16, 21, 16, 153, 0, 16, 25, 14, 182, 0, 146, 25, 15, 182, 0, 146, 159, 0, 5, 3, 172, 25, 12, 199, 0, 19, 25, 14, 182, 0] := chW_of (by decide +kernel)
theorem d_6_28_164 : decode prog_6_method_28_code 164 = .ok (.iconst 0, 1) := D_3 W_prog_6_method_28_code_160 4 rfl rfl
theorem d_6_28_160 : decode prog_6_method_28_code 160 = .ok (.iconst 1, 1) := D_4 W_prog_6_method_28_code_160 0 rfl rfl
theorem d_6_28_161 : decode prog_6_method_28_code 161 = .ok (.goto 4, 3) := D_167 W_prog_6_method_28_code_160 1 rfl rfl rfl
theorem d_6_28_132 : decode prog_6_method_28_code 132 = .ok (.aload 9, 2) := D_25 W_prog_6_method_28_code_128 4 rfl rfl
theorem d_6_28_134 : decode prog_6_method_28_code 134 = .ok (.aload 10, 2) := D_25 W_prog_6_method_28_code_128 6 rfl rfl
theorem d_6_28_136 : decode prog_6_method_28_code 136 = .ok (.aload 14, 2) := D_25 W_prog_6_method_28_code_128 8 rfl rfl
theorem d_6_28_138 : decode prog_6_method_28_code 138 = .ok (.aload 15, 2) := D_25 W_prog_6_method_28_code_128 10 rfl rfl
theorem d_6_28_140 : decode prog_6_method_28_code 140 = .ok (.invokestatic 231, 3) := D_184 W_prog_6_method_28_code_128 12 rfl rfl rfl
theorem d_5_27_9 : decode prog_5_method_27_code 9 = .ok (.if_icmp .ge 73, 3) := D_162 W_prog_5_method_27_code_0 9 rfl rfl rfl
theorem d_5_27_12 : decode prog_5_method_27_code 12 = .ok (.aload_n 0, 1) := D_42 W_prog_5_method_27_code_0 12 rfl rfl
theorem d_5_27_13 : decode prog_5_method_27_code 13 = .ok (.getfield 48, 3) := D_180 W_prog_5_method_27_code_0 13 rfl rfl rfl
theorem d_5_27_16 : decode prog_5_method_27_code 16 = .ok (.getfield 108, 3) := D_180 W_prog_5_method_27_code_0 16 rfl rfl rfl
theorem d_5_27_19 : decode prog_5_method_27_code 19 = .ok (.iconst 5, 1) := D_8 W_prog_5_method_27_code_0 19 rfl rfl
