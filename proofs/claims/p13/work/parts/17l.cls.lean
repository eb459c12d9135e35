theorem k_2_221 : (Jvm.Cond.fieldLink "StaveHouse$Layout" (46 : Nat) "StaveHouse$Piece" "bars" "I") ∈ wAll := wA_2 (j := 221) rfl rfl
theorem k_7_21 : (Jvm.Cond.methodLink "StaveHouse$Layout" (52 : Nat) ({ cls := "java/lang/Math", name := "min", desc := "(II)I" } : Jvm.MethodName)) ∈ wAll := wA_7 (j := 21) rfl rfl
theorem k_1_43 : (Jvm.Cond.fieldLink "StaveHouse$SoundFile" (31 : Nat) "StaveHouse$ByteRow" "size" "I") ∈ wAll := wA_1 (j := 43) rfl rfl
theorem k_2_101 : (Jvm.Cond.fieldLink "StaveHouse$Scribe" (46 : Nat) "StaveHouse$Scribe" "bar" "I") ∈ wAll := wA_2 (j := 101) rfl rfl
theorem k_8_199 : (Jvm.Cond.constant "StaveHouse$Scribe" (180 : Nat) (51200 : Int32)) ∈ wAll := wA_8 (j := 199) rfl rfl
theorem k_8_200 : (Jvm.Cond.methodLink "StaveHouse$Scribe" (181 : Nat) ({ cls := "java/lang/Math", name := "min", desc := "(II)I" } : Jvm.MethodName)) ∈ wAll := wA_8 (j := 200) rfl rfl
theorem k_5_27 : (Jvm.Cond.methodLink "StaveHouse$Part" (52 : Nat) ({ cls := "StaveHouse$Part", name := "placeEvents", desc := "()V" } : Jvm.MethodName)) ∈ wAll := wA_5 (j := 27) rfl rfl
theorem k_5_29 : (Jvm.Cond.instanceMethod ({ cls := "StaveHouse$Part", name := "placeEvents", desc := "()V" } : Jvm.MethodName)) ∈ wAll := wA_5 (j := 29) rfl rfl
theorem ks_46 : (Jvm.Cond.selects "StaveHouse$Part" ({ cls := "StaveHouse$Part", name := "placeEvents", desc := "()V" } : Jvm.MethodName) ({ cls := "StaveHouse$Part", name := "placeEvents", desc := "()V" } : Jvm.MethodName)) ∈ wAll := wA_s (j := 46) rfl rfl
theorem k_5_30 : (Jvm.Cond.code ({ cls := "StaveHouse$Part", name := "placeEvents", desc := "()V" } : Jvm.MethodName) prog_6_method_5_code (2 : Nat) (Option.none : Option Jvm.ClassFile.FieldType)) ∈ wAll := wA_5 (j := 30) rfl rfl
theorem k_4_125 : (Jvm.Cond.fieldLink "StaveHouse$Part" (49 : Nat) "StaveHouse$Part" "token" "I") ∈ wAll := wA_4 (j := 125) rfl rfl
theorem k_8_34 : (Jvm.Cond.methodLink "StaveHouse$SoundFile" (45 : Nat) ({ cls := "StaveHouse$SoundFile", name := "setDefaults", desc := "()V" } : Jvm.MethodName)) ∈ wAll := wA_8 (j := 34) rfl rfl
theorem k_8_36 : (Jvm.Cond.instanceMethod ({ cls := "StaveHouse$SoundFile", name := "setDefaults", desc := "()V" } : Jvm.MethodName)) ∈ wAll := wA_8 (j := 36) rfl rfl
theorem ks_92 : (Jvm.Cond.selects "StaveHouse$SoundFile" ({ cls := "StaveHouse$SoundFile", name := "setDefaults", desc := "()V" } : Jvm.MethodName) ({ cls := "StaveHouse$SoundFile", name := "setDefaults", desc := "()V" } : Jvm.MethodName)) ∈ wAll := wA_s (j := 92) rfl rfl
theorem k_8_37 : (Jvm.Cond.code ({ cls := "StaveHouse$SoundFile", name := "setDefaults", desc := "()V" } : Jvm.MethodName) prog_10_method_3_code (2 : Nat) (Option.none : Option Jvm.ClassFile.FieldType)) ∈ wAll := wA_8 (j := 37) rfl rfl
theorem k_9_85 : (Jvm.Cond.methodLink "StaveHouse" (321 : Nat) ({ cls := "StaveHouse$Part", name := "firstSounding", desc := "()I" } : Jvm.MethodName)) ∈ wAll := wA_9 (j := 85) rfl rfl
theorem k_9_86 : (Jvm.Cond.instanceMethod ({ cls := "StaveHouse$Part", name := "firstSounding", desc := "()I" } : Jvm.MethodName)) ∈ wAll := wA_9 (j := 86) rfl rfl
theorem k_9_87 : (Jvm.Cond.selects "StaveHouse$Part" ({ cls := "StaveHouse$Part", name := "firstSounding", desc := "()I" } : Jvm.MethodName) ({ cls := "StaveHouse$Part", name := "firstSounding", desc := "()I" } : Jvm.MethodName)) ∈ wAll := wA_9 (j := 87) rfl rfl
theorem k_9_88 : (Jvm.Cond.code ({ cls := "StaveHouse$Part", name := "firstSounding", desc := "()I" } : Jvm.MethodName) prog_6_method_26_code (2 : Nat) (Option.some Jvm.ClassFile.FieldType.int)) ∈ wAll := wA_9 (j := 88) rfl rfl
theorem k_5_239 : (Jvm.Cond.methodLink "StaveHouse$Study" (43 : Nat) ({ cls := "StaveHouse$Study", name := "findMoments", desc := "(LStaveHouse$Piece;)V" } : Jvm.MethodName)) ∈ wAll := wA_5 (j := 239) rfl rfl
theorem k_6_1 : (Jvm.Cond.instanceMethod ({ cls := "StaveHouse$Study", name := "findMoments", desc := "(LStaveHouse$Piece;)V" } : Jvm.MethodName)) ∈ wAll := wA_6 (j := 1) rfl rfl
theorem ks_66 : (Jvm.Cond.selects "StaveHouse$Study" ({ cls := "StaveHouse$Study", name := "findMoments", desc := "(LStaveHouse$Piece;)V" } : Jvm.MethodName) ({ cls := "StaveHouse$Study", name := "findMoments", desc := "(LStaveHouse$Piece;)V" } : Jvm.MethodName)) ∈ wAll := wA_s (j := 66) rfl rfl
theorem k_6_2 : (Jvm.Cond.code ({ cls := "StaveHouse$Study", name := "findMoments", desc := "(LStaveHouse$Piece;)V" } : Jvm.MethodName) prog_11_method_3_code (9 : Nat) (Option.none : Option Jvm.ClassFile.FieldType)) ∈ wAll := wA_6 (j := 2) rfl rfl
theorem k_8_187 : (Jvm.Cond.constantLong "StaveHouse$Scribe" (158 : Nat) (60 : Int64)) ∈ wAll := wA_8 (j := 187) rfl rfl
theorem k_7_227 : (Jvm.Cond.fieldLink "StaveHouse$Scribe" (164 : Nat) "StaveHouse$SoundFile" "numbers" "[I") ∈ wAll := wA_7 (j := 227) rfl rfl
theorem k_6_9 : (Jvm.Cond.methodLink "StaveHouse$Study" (54 : Nat) ({ cls := "StaveHouse$Study", name := "takeLines", desc := "(LStaveHouse$Piece;I)V" } : Jvm.MethodName)) ∈ wAll := wA_6 (j := 9) rfl rfl
theorem k_6_11 : (Jvm.Cond.instanceMethod ({ cls := "StaveHouse$Study", name := "takeLines", desc := "(LStaveHouse$Piece;I)V" } : Jvm.MethodName)) ∈ wAll := wA_6 (j := 11) rfl rfl
theorem ks_68 : (Jvm.Cond.selects "StaveHouse$Study" ({ cls := "StaveHouse$Study", name := "takeLines", desc := "(LStaveHouse$Piece;I)V" } : Jvm.MethodName) ({ cls := "StaveHouse$Study", name := "takeLines", desc := "(LStaveHouse$Piece;I)V" } : Jvm.MethodName)) ∈ wAll := wA_s (j := 68) rfl rfl
theorem k_6_12 : (Jvm.Cond.code ({ cls := "StaveHouse$Study", name := "takeLines", desc := "(LStaveHouse$Piece;I)V" } : Jvm.MethodName) prog_11_method_6_code (6 : Nat) (Option.none : Option Jvm.ClassFile.FieldType)) ∈ wAll := wA_6 (j := 12) rfl rfl
theorem k_6_27 : (Jvm.Cond.methodLink "StaveHouse$Study" (63 : Nat) ({ cls := "StaveHouse$Study", name := "findFaults", desc := "(II)V" } : Jvm.MethodName)) ∈ wAll := wA_6 (j := 27) rfl rfl
theorem k_6_29 : (Jvm.Cond.instanceMethod ({ cls := "StaveHouse$Study", name := "findFaults", desc := "(II)V" } : Jvm.MethodName)) ∈ wAll := wA_6 (j := 29) rfl rfl
theorem ks_70 : (Jvm.Cond.selects "StaveHouse$Study" ({ cls := "StaveHouse$Study", name := "findFaults", desc := "(II)V" } : Jvm.MethodName) ({ cls := "StaveHouse$Study", name := "findFaults", desc := "(II)V" } : Jvm.MethodName)) ∈ wAll := wA_s (j := 70) rfl rfl
theorem k_6_30 : (Jvm.Cond.code ({ cls := "StaveHouse$Study", name := "findFaults", desc := "(II)V" } : Jvm.MethodName) prog_11_method_7_code (6 : Nat) (Option.none : Option Jvm.ClassFile.FieldType)) ∈ wAll := wA_6 (j := 30) rfl rfl
theorem k_7_22 : (Jvm.Cond.methodLink "StaveHouse$Layout" (58 : Nat) ({ cls := "StaveHouse$Layout", name := "setColumns", desc := "(LStaveHouse$Piece;I)V" } : Jvm.MethodName)) ∈ wAll := wA_7 (j := 22) rfl rfl
theorem k_7_24 : (Jvm.Cond.instanceMethod ({ cls := "StaveHouse$Layout", name := "setColumns", desc := "(LStaveHouse$Piece;I)V" } : Jvm.MethodName)) ∈ wAll := wA_7 (j := 24) rfl rfl
theorem ks_79 : (Jvm.Cond.selects "StaveHouse$Layout" ({ cls := "StaveHouse$Layout", name := "setColumns", desc := "(LStaveHouse$Piece;I)V" } : Jvm.MethodName) ({ cls := "StaveHouse$Layout", name := "setColumns", desc := "(LStaveHouse$Piece;I)V" } : Jvm.MethodName)) ∈ wAll := wA_s (j := 79) rfl rfl
theorem k_7_25 : (Jvm.Cond.code ({ cls := "StaveHouse$Layout", name := "setColumns", desc := "(LStaveHouse$Piece;I)V" } : Jvm.MethodName) prog_4_method_3_code (5 : Nat) (Option.none : Option Jvm.ClassFile.FieldType)) ∈ wAll := wA_7 (j := 25) rfl rfl
theorem k_7_46 : (Jvm.Cond.methodLink "StaveHouse$Layout" (62 : Nat) ({ cls := "StaveHouse$Layout", name := "choose", desc := "(LStaveHouse$Piece;II)V" } : Jvm.MethodName)) ∈ wAll := wA_7 (j := 46) rfl rfl
theorem k_7_48 : (Jvm.Cond.instanceMethod ({ cls := "StaveHouse$Layout", name := "choose", desc := "(LStaveHouse$Piece;II)V" } : Jvm.MethodName)) ∈ wAll := wA_7 (j := 48) rfl rfl
theorem ks_83 : (Jvm.Cond.selects "StaveHouse$Layout" ({ cls := "StaveHouse$Layout", name := "choose", desc := "(LStaveHouse$Piece;II)V" } : Jvm.MethodName) ({ cls := "StaveHouse$Layout", name := "choose", desc := "(LStaveHouse$Piece;II)V" } : Jvm.MethodName)) ∈ wAll := wA_s (j := 83) rfl rfl
theorem k_7_49 : (Jvm.Cond.code ({ cls := "StaveHouse$Layout", name := "choose", desc := "(LStaveHouse$Piece;II)V" } : Jvm.MethodName) prog_4_method_10_code (9 : Nat) (Option.none : Option Jvm.ClassFile.FieldType)) ∈ wAll := wA_7 (j := 49) rfl rfl
theorem k_7_59 : (Jvm.Cond.methodLink "StaveHouse$Layout" (69 : Nat) ({ cls := "StaveHouse$Layout", name := "widthOf", desc := "(LStaveHouse$Piece;II)I" } : Jvm.MethodName)) ∈ wAll := wA_7 (j := 59) rfl rfl
theorem k_7_61 : (Jvm.Cond.instanceMethod ({ cls := "StaveHouse$Layout", name := "widthOf", desc := "(LStaveHouse$Piece;II)I" } : Jvm.MethodName)) ∈ wAll := wA_7 (j := 61) rfl rfl
theorem ks_84 : (Jvm.Cond.selects "StaveHouse$Layout" ({ cls := "StaveHouse$Layout", name := "widthOf", desc := "(LStaveHouse$Piece;II)I" } : Jvm.MethodName) ({ cls := "StaveHouse$Layout", name := "widthOf", desc := "(LStaveHouse$Piece;II)I" } : Jvm.MethodName)) ∈ wAll := wA_s (j := 84) rfl rfl
theorem k_7_62 : (Jvm.Cond.code ({ cls := "StaveHouse$Layout", name := "widthOf", desc := "(LStaveHouse$Piece;II)I" } : Jvm.MethodName) prog_4_method_9_code (6 : Nat) (Option.some Jvm.ClassFile.FieldType.int)) ∈ wAll := wA_7 (j := 62) rfl rfl
theorem k_7_63 : (Jvm.Cond.methodLink "StaveHouse$Layout" (73 : Nat) ({ cls := "StaveHouse$Layout", name := "setXs", desc := "(LStaveHouse$Piece;II)V" } : Jvm.MethodName)) ∈ wAll := wA_7 (j := 63) rfl rfl
theorem k_7_65 : (Jvm.Cond.instanceMethod ({ cls := "StaveHouse$Layout", name := "setXs", desc := "(LStaveHouse$Piece;II)V" } : Jvm.MethodName)) ∈ wAll := wA_7 (j := 65) rfl rfl
theorem ks_85 : (Jvm.Cond.selects "StaveHouse$Layout" ({ cls := "StaveHouse$Layout", name := "setXs", desc := "(LStaveHouse$Piece;II)V" } : Jvm.MethodName) ({ cls := "StaveHouse$Layout", name := "setXs", desc := "(LStaveHouse$Piece;II)V" } : Jvm.MethodName)) ∈ wAll := wA_s (j := 85) rfl rfl
theorem k_7_66 : (Jvm.Cond.code ({ cls := "StaveHouse$Layout", name := "setXs", desc := "(LStaveHouse$Piece;II)V" } : Jvm.MethodName) prog_4_method_12_code (10 : Nat) (Option.none : Option Jvm.ClassFile.FieldType)) ∈ wAll := wA_7 (j := 66) rfl rfl
theorem k_2_211 : (Jvm.Cond.fieldLink "StaveHouse$Performance" (241 : Nat) "StaveHouse$Piece" "above" "I") ∈ wAll := wA_2 (j := 211) rfl rfl
theorem k_2_216 : (Jvm.Cond.fieldLink "StaveHouse$Performance" (244 : Nat) "StaveHouse$Piece" "below" "I") ∈ wAll := wA_2 (j := 216) rfl rfl
theorem k_7_169 : (Jvm.Cond.methodLink "StaveHouse$Performance" (247 : Nat) ({ cls := "java/lang/Integer", name := "bitCount", desc := "(I)I" } : Jvm.MethodName)) ∈ wAll := wA_7 (j := 169) rfl rfl
theorem k_2_206 : (Jvm.Cond.fieldLink "StaveHouse$Performance" (252 : Nat) "StaveHouse$Piece" "minor" "I") ∈ wAll := wA_2 (j := 206) rfl rfl
theorem k_7_175 : (Jvm.Cond.constant "StaveHouse$Performance" (255 : Nat) (60000000 : Int32)) ∈ wAll := wA_7 (j := 175) rfl rfl
theorem k_8_38 : (Jvm.Cond.methodLink "StaveHouse$SoundFile" (48 : Nat) ({ cls := "StaveHouse$SoundFile", name := "loadHead", desc := "()V" } : Jvm.MethodName)) ∈ wAll := wA_8 (j := 38) rfl rfl
theorem k_8_40 : (Jvm.Cond.instanceMethod ({ cls := "StaveHouse$SoundFile", name := "loadHead", desc := "()V" } : Jvm.MethodName)) ∈ wAll := wA_8 (j := 40) rfl rfl
theorem ks_93 : (Jvm.Cond.selects "StaveHouse$SoundFile" ({ cls := "StaveHouse$SoundFile", name := "loadHead", desc := "()V" } : Jvm.MethodName) ({ cls := "StaveHouse$SoundFile", name := "loadHead", desc := "()V" } : Jvm.MethodName)) ∈ wAll := wA_s (j := 93) rfl rfl
theorem k_8_41 : (Jvm.Cond.code ({ cls := "StaveHouse$SoundFile", name := "loadHead", desc := "()V" } : Jvm.MethodName) prog_10_method_12_code (5 : Nat) (Option.none : Option Jvm.ClassFile.FieldType)) ∈ wAll := wA_8 (j := 41) rfl rfl
theorem k_8_74 : (Jvm.Cond.constantLong "StaveHouse$SoundFile" (58 : Nat) (1297379947 : Int64)) ∈ wAll := wA_8 (j := 74) rfl rfl
theorem k_8_75 : (Jvm.Cond.methodLink "StaveHouse$SoundFile" (60 : Nat) ({ cls := "java/lang/Math", name := "min", desc := "(JJ)J" } : Jvm.MethodName)) ∈ wAll := wA_8 (j := 75) rfl rfl
theorem k_8_80 : (Jvm.Cond.methodLink "StaveHouse$SoundFile" (130 : Nat) ({ cls := "StaveHouse$SoundFile", name := "loadEvent", desc := "(I)V" } : Jvm.MethodName)) ∈ wAll := wA_8 (j := 80) rfl rfl
theorem k_8_82 : (Jvm.Cond.instanceMethod ({ cls := "StaveHouse$SoundFile", name := "loadEvent", desc := "(I)V" } : Jvm.MethodName)) ∈ wAll := wA_8 (j := 82) rfl rfl
theorem ks_101 : (Jvm.Cond.selects "StaveHouse$SoundFile" ({ cls := "StaveHouse$SoundFile", name := "loadEvent", desc := "(I)V" } : Jvm.MethodName) ({ cls := "StaveHouse$SoundFile", name := "loadEvent", desc := "(I)V" } : Jvm.MethodName)) ∈ wAll := wA_s (j := 101) rfl rfl
theorem k_8_83 : (Jvm.Cond.code ({ cls := "StaveHouse$SoundFile", name := "loadEvent", desc := "(I)V" } : Jvm.MethodName) prog_10_method_14_code (5 : Nat) (Option.none : Option Jvm.ClassFile.FieldType)) ∈ wAll := wA_8 (j := 83) rfl rfl
theorem k_8_203 : (Jvm.Cond.methodLink "StaveHouse$Scribe" (190 : Nat) ({ cls := "StaveHouse$Scribe", name := "writeNote", desc := "(IZ)V" } : Jvm.MethodName)) ∈ wAll := wA_8 (j := 203) rfl rfl
theorem k_8_205 : (Jvm.Cond.instanceMethod ({ cls := "StaveHouse$Scribe", name := "writeNote", desc := "(IZ)V" } : Jvm.MethodName)) ∈ wAll := wA_8 (j := 205) rfl rfl
theorem ks_119 : (Jvm.Cond.selects "StaveHouse$Scribe" ({ cls := "StaveHouse$Scribe", name := "writeNote", desc := "(IZ)V" } : Jvm.MethodName) ({ cls := "StaveHouse$Scribe", name := "writeNote", desc := "(IZ)V" } : Jvm.MethodName)) ∈ wAll := wA_s (j := 119) rfl rfl
theorem k_8_206 : (Jvm.Cond.code ({ cls := "StaveHouse$Scribe", name := "writeNote", desc := "(IZ)V" } : Jvm.MethodName) prog_9_method_13_code (4 : Nat) (Option.none : Option Jvm.ClassFile.FieldType)) ∈ wAll := wA_8 (j := 206) rfl rfl
theorem k_8_238 : (Jvm.Cond.methodLink "StaveHouse" (297 : Nat) ({ cls := "StaveHouse$Performance", name := "playOn", desc := "(LStaveHouse$Piece;I)I" } : Jvm.MethodName)) ∈ wAll := wA_8 (j := 238) rfl rfl
theorem k_8_239 : (Jvm.Cond.instanceMethod ({ cls := "StaveHouse$Performance", name := "playOn", desc := "(LStaveHouse$Piece;I)I" } : Jvm.MethodName)) ∈ wAll := wA_8 (j := 239) rfl rfl
theorem k_9_0 : (Jvm.Cond.selects "StaveHouse$Performance" ({ cls := "StaveHouse$Performance", name := "playOn", desc := "(LStaveHouse$Piece;I)I" } : Jvm.MethodName) ({ cls := "StaveHouse$Performance", name := "playOn", desc := "(LStaveHouse$Piece;I)I" } : Jvm.MethodName)) ∈ wAll := wA_9 (j := 0) rfl rfl
theorem k_9_1 : (Jvm.Cond.code ({ cls := "StaveHouse$Performance", name := "playOn", desc := "(LStaveHouse$Piece;I)I" } : Jvm.MethodName) prog_7_method_24_code (5 : Nat) (Option.some Jvm.ClassFile.FieldType.int)) ∈ wAll := wA_9 (j := 1) rfl rfl
theorem k_9_89 : (Jvm.Cond.methodLink "StaveHouse" (324 : Nat) ({ cls := "StaveHouse$Part", name := "followedFor", desc := "(LStaveHouse$Part;II)I" } : Jvm.MethodName)) ∈ wAll := wA_9 (j := 89) rfl rfl
theorem k_9_90 : (Jvm.Cond.instanceMethod ({ cls := "StaveHouse$Part", name := "followedFor", desc := "(LStaveHouse$Part;II)I" } : Jvm.MethodName)) ∈ wAll := wA_9 (j := 90) rfl rfl
theorem k_9_91 : (Jvm.Cond.selects "StaveHouse$Part" ({ cls := "StaveHouse$Part", name := "followedFor", desc := "(LStaveHouse$Part;II)I" } : Jvm.MethodName) ({ cls := "StaveHouse$Part", name := "followedFor", desc := "(LStaveHouse$Part;II)I" } : Jvm.MethodName)) ∈ wAll := wA_9 (j := 91) rfl rfl
theorem k_9_92 : (Jvm.Cond.code ({ cls := "StaveHouse$Part", name := "followedFor", desc := "(LStaveHouse$Part;II)I" } : Jvm.MethodName) prog_6_method_27_code (9 : Nat) (Option.some Jvm.ClassFile.FieldType.int)) ∈ wAll := wA_9 (j := 92) rfl rfl
theorem k_9_98 : (Jvm.Cond.methodLink "StaveHouse" (328 : Nat) ({ cls := "StaveHouse$Event", name := "topStep", desc := "()I" } : Jvm.MethodName)) ∈ wAll := wA_9 (j := 98) rfl rfl
theorem k_5_49 : (Jvm.Cond.methodLink "StaveHouse$Part" (77 : Nat) ({ cls := "StaveHouse$Part", name := "writeNotes", desc := "(LStaveHouse$Piece;)V" } : Jvm.MethodName)) ∈ wAll := wA_5 (j := 49) rfl rfl
theorem k_5_51 : (Jvm.Cond.instanceMethod ({ cls := "StaveHouse$Part", name := "writeNotes", desc := "(LStaveHouse$Piece;)V" } : Jvm.MethodName)) ∈ wAll := wA_5 (j := 51) rfl rfl
theorem ks_48 : (Jvm.Cond.selects "StaveHouse$Part" ({ cls := "StaveHouse$Part", name := "writeNotes", desc := "(LStaveHouse$Piece;)V" } : Jvm.MethodName) ({ cls := "StaveHouse$Part", name := "writeNotes", desc := "(LStaveHouse$Piece;)V" } : Jvm.MethodName)) ∈ wAll := wA_s (j := 48) rfl rfl
theorem k_5_52 : (Jvm.Cond.code ({ cls := "StaveHouse$Part", name := "writeNotes", desc := "(LStaveHouse$Piece;)V" } : Jvm.MethodName) prog_6_method_9_code (6 : Nat) (Option.none : Option Jvm.ClassFile.FieldType)) ∈ wAll := wA_5 (j := 52) rfl rfl
theorem k_5_32 : (Jvm.Cond.methodLink "StaveHouse$Part" (61 : Nat) ({ cls := "StaveHouse$Part", name := "bracketStands", desc := "(IJ)Z" } : Jvm.MethodName)) ∈ wAll := wA_5 (j := 32) rfl rfl
theorem k_5_34 : (Jvm.Cond.instanceMethod ({ cls := "StaveHouse$Part", name := "bracketStands", desc := "(IJ)Z" } : Jvm.MethodName)) ∈ wAll := wA_5 (j := 34) rfl rfl
theorem ks_47 : (Jvm.Cond.selects "StaveHouse$Part" ({ cls := "StaveHouse$Part", name := "bracketStands", desc := "(IJ)Z" } : Jvm.MethodName) ({ cls := "StaveHouse$Part", name := "bracketStands", desc := "(IJ)Z" } : Jvm.MethodName)) ∈ wAll := wA_s (j := 47) rfl rfl
theorem k_5_35 : (Jvm.Cond.code ({ cls := "StaveHouse$Part", name := "bracketStands", desc := "(IJ)Z" } : Jvm.MethodName) prog_6_method_6_code (10 : Nat) (Option.some Jvm.ClassFile.FieldType.boolean)) ∈ wAll := wA_5 (j := 35) rfl rfl
theorem k_2_45 : (Jvm.Cond.fieldLink "StaveHouse$Part" (72 : Nat) "StaveHouse$Event" "token" "I") ∈ wAll := wA_2 (j := 45) rfl rfl
theorem k_2_36 : (Jvm.Cond.fieldLink "StaveHouse$Part" (65 : Nat) "StaveHouse$Event" "bracketPlace" "I") ∈ wAll := wA_2 (j := 36) rfl rfl
theorem k_2_55 : (Jvm.Cond.fieldLink "StaveHouse$Part" (73 : Nat) "StaveHouse$Event" "slurred" "Z") ∈ wAll := wA_2 (j := 55) rfl rfl
theorem k_7_158 : (Jvm.Cond.methodLink "StaveHouse$Performance" (213 : Nat) ({ cls := "StaveHouse$Performance", name := "writeHead", desc := "(LStaveHouse$Piece;LStaveHouse$ByteRow;)V" } : Jvm.MethodName)) ∈ wAll := wA_7 (j := 158) rfl rfl
theorem k_7_159 : (Jvm.Cond.static ({ cls := "StaveHouse$Performance", name := "writeHead", desc := "(LStaveHouse$Piece;LStaveHouse$ByteRow;)V" } : Jvm.MethodName)) ∈ wAll := wA_7 (j := 159) rfl rfl
theorem k_7_160 : (Jvm.Cond.code ({ cls := "StaveHouse$Performance", name := "writeHead", desc := "(LStaveHouse$Piece;LStaveHouse$ByteRow;)V" } : Jvm.MethodName) prog_7_method_21_code (3 : Nat) (Option.none : Option Jvm.ClassFile.FieldType)) ∈ wAll := wA_7 (j := 160) rfl rfl
theorem k_7_183 : (Jvm.Cond.methodLink "StaveHouse$Performance" (217 : Nat) ({ cls := "StaveHouse$Performance", name := "writeVoice", desc := "(LStaveHouse$Part;ILStaveHouse$ByteRow;)V" } : Jvm.MethodName)) ∈ wAll := wA_7 (j := 183) rfl rfl
theorem k_7_185 : (Jvm.Cond.instanceMethod ({ cls := "StaveHouse$Performance", name := "writeVoice", desc := "(LStaveHouse$Part;ILStaveHouse$ByteRow;)V" } : Jvm.MethodName)) ∈ wAll := wA_7 (j := 185) rfl rfl
theorem ks_90 : (Jvm.Cond.selects "StaveHouse$Performance" ({ cls := "StaveHouse$Performance", name := "writeVoice", desc := "(LStaveHouse$Part;ILStaveHouse$ByteRow;)V" } : Jvm.MethodName) ({ cls := "StaveHouse$Performance", name := "writeVoice", desc := "(LStaveHouse$Part;ILStaveHouse$ByteRow;)V" } : Jvm.MethodName)) ∈ wAll := wA_s (j := 90) rfl rfl
theorem k_7_186 : (Jvm.Cond.code ({ cls := "StaveHouse$Performance", name := "writeVoice", desc := "(LStaveHouse$Part;ILStaveHouse$ByteRow;)V" } : Jvm.MethodName) prog_7_method_22_code (7 : Nat) (Option.none : Option Jvm.ClassFile.FieldType)) ∈ wAll := wA_7 (j := 186) rfl rfl
theorem k_8_76 : (Jvm.Cond.methodLink "StaveHouse$SoundFile" (66 : Nat) ({ cls := "StaveHouse$SoundFile", name := "loadTrack", desc := "(J)V" } : Jvm.MethodName)) ∈ wAll := wA_8 (j := 76) rfl rfl
theorem k_8_78 : (Jvm.Cond.instanceMethod ({ cls := "StaveHouse$SoundFile", name := "loadTrack", desc := "(J)V" } : Jvm.MethodName)) ∈ wAll := wA_8 (j := 78) rfl rfl
theorem ks_100 : (Jvm.Cond.selects "StaveHouse$SoundFile" ({ cls := "StaveHouse$SoundFile", name := "loadTrack", desc := "(J)V" } : Jvm.MethodName) ({ cls := "StaveHouse$SoundFile", name := "loadTrack", desc := "(J)V" } : Jvm.MethodName)) ∈ wAll := wA_s (j := 100) rfl rfl
theorem k_8_79 : (Jvm.Cond.code ({ cls := "StaveHouse$SoundFile", name := "loadTrack", desc := "(J)V" } : Jvm.MethodName) prog_10_method_13_code (5 : Nat) (Option.none : Option Jvm.ClassFile.FieldType)) ∈ wAll := wA_8 (j := 79) rfl rfl
theorem k_8_195 : (Jvm.Cond.methodLink "StaveHouse$Scribe" (175 : Nat) ({ cls := "StaveHouse$Scribe", name := "writeSpan", desc := "(II)V" } : Jvm.MethodName)) ∈ wAll := wA_8 (j := 195) rfl rfl
theorem k_8_197 : (Jvm.Cond.instanceMethod ({ cls := "StaveHouse$Scribe", name := "writeSpan", desc := "(II)V" } : Jvm.MethodName)) ∈ wAll := wA_8 (j := 197) rfl rfl
theorem ks_118 : (Jvm.Cond.selects "StaveHouse$Scribe" ({ cls := "StaveHouse$Scribe", name := "writeSpan", desc := "(II)V" } : Jvm.MethodName) ({ cls := "StaveHouse$Scribe", name := "writeSpan", desc := "(II)V" } : Jvm.MethodName)) ∈ wAll := wA_s (j := 118) rfl rfl
theorem k_8_198 : (Jvm.Cond.code ({ cls := "StaveHouse$Scribe", name := "writeSpan", desc := "(II)V" } : Jvm.MethodName) prog_9_method_12_code (7 : Nat) (Option.none : Option Jvm.ClassFile.FieldType)) ∈ wAll := wA_8 (j := 198) rfl rfl
theorem k_7_123 : (Jvm.Cond.methodLink "StaveHouse" (264 : Nat) ({ cls := "StaveHouse$Performance", name := "write", desc := "(LStaveHouse$Piece;LStaveHouse$ByteRow;)V" } : Jvm.MethodName)) ∈ wAll := wA_7 (j := 123) rfl rfl
theorem k_7_124 : (Jvm.Cond.instanceMethod ({ cls := "StaveHouse$Performance", name := "write", desc := "(LStaveHouse$Piece;LStaveHouse$ByteRow;)V" } : Jvm.MethodName)) ∈ wAll := wA_7 (j := 124) rfl rfl
theorem k_7_125 : (Jvm.Cond.selects "StaveHouse$Performance" ({ cls := "StaveHouse$Performance", name := "write", desc := "(LStaveHouse$Piece;LStaveHouse$ByteRow;)V" } : Jvm.MethodName) ({ cls := "StaveHouse$Performance", name := "write", desc := "(LStaveHouse$Piece;LStaveHouse$ByteRow;)V" } : Jvm.MethodName)) ∈ wAll := wA_7 (j := 125) rfl rfl
theorem k_7_126 : (Jvm.Cond.code ({ cls := "StaveHouse$Performance", name := "write", desc := "(LStaveHouse$Piece;LStaveHouse$ByteRow;)V" } : Jvm.MethodName) prog_7_method_17_code (4 : Nat) (Option.none : Option Jvm.ClassFile.FieldType)) ∈ wAll := wA_7 (j := 126) rfl rfl
theorem k_8_191 : (Jvm.Cond.methodLink "StaveHouse$Scribe" (169 : Nat) ({ cls := "StaveHouse$Scribe", name := "writeRest", desc := "(II)V" } : Jvm.MethodName)) ∈ wAll := wA_8 (j := 191) rfl rfl
theorem k_8_193 : (Jvm.Cond.instanceMethod ({ cls := "StaveHouse$Scribe", name := "writeRest", desc := "(II)V" } : Jvm.MethodName)) ∈ wAll := wA_8 (j := 193) rfl rfl
theorem ks_117 : (Jvm.Cond.selects "StaveHouse$Scribe" ({ cls := "StaveHouse$Scribe", name := "writeRest", desc := "(II)V" } : Jvm.MethodName) ({ cls := "StaveHouse$Scribe", name := "writeRest", desc := "(II)V" } : Jvm.MethodName)) ∈ wAll := wA_s (j := 117) rfl rfl
theorem k_8_194 : (Jvm.Cond.code ({ cls := "StaveHouse$Scribe", name := "writeRest", desc := "(II)V" } : Jvm.MethodName) prog_9_method_11_code (3 : Nat) (Option.none : Option Jvm.ClassFile.FieldType)) ∈ wAll := wA_8 (j := 194) rfl rfl
theorem k_8_222 : (Jvm.Cond.methodLink "StaveHouse$Scribe" (172 : Nat) ({ cls := "StaveHouse$Scribe", name := "spellEvent", desc := "()V" } : Jvm.MethodName)) ∈ wAll := wA_8 (j := 222) rfl rfl
theorem k_8_224 : (Jvm.Cond.instanceMethod ({ cls := "StaveHouse$Scribe", name := "spellEvent", desc := "()V" } : Jvm.MethodName)) ∈ wAll := wA_8 (j := 224) rfl rfl
theorem ks_121 : (Jvm.Cond.selects "StaveHouse$Scribe" ({ cls := "StaveHouse$Scribe", name := "spellEvent", desc := "()V" } : Jvm.MethodName) ({ cls := "StaveHouse$Scribe", name := "spellEvent", desc := "()V" } : Jvm.MethodName)) ∈ wAll := wA_s (j := 121) rfl rfl
theorem k_8_225 : (Jvm.Cond.code ({ cls := "StaveHouse$Scribe", name := "spellEvent", desc := "()V" } : Jvm.MethodName) prog_9_method_7_code (3 : Nat) (Option.none : Option Jvm.ClassFile.FieldType)) ∈ wAll := wA_8 (j := 225) rfl rfl
theorem W_prog_6_method_4_code_0 : chW prog_6_method_4_code 0 [42, 180, 0, 31, 154, 0, 14, 16, 15, 16, 16, 42, 180, 0, 49, 104, 96, 172, 42, 182, 0, 52, 3, 61, 3, 62, 29, 42, 180, 0, 31, 162, 0, 155, 42, 180] := chW_of (by decide +kernel)
theorem W_prog_11_method_2_code_0 : chW prog_11_method_2_code 0 [42, 43, 182, 0, 43, 42, 3, 181, 0, 47, 3, 61, 28, 42, 180, 0, 51, 162, 0, 38, 42, 180, 0, 47, 17, 1, 44, 162, 0, 28, 42, 43, 28, 182, 0, 54] := chW_of (by decide +kernel)
theorem W_prog_4_method_2_code_0 : chW prog_4_method_2_code 0 [43, 180, 0, 46, 16, 100, 184, 0, 52, 62, 42, 43, 29, 182, 0, 58, 42, 43, 29, 28, 182, 0, 62, 42, 3, 181, 0, 66, 3, 54, 4, 3, 54, 5, 21, 5] := chW_of (by decide +kernel)
theorem W_prog_1_method_21_code_0 : chW prog_1_method_21_code 0 [42, 27, 182, 0, 97, 77, 42, 27, 182, 1, 0, 78, 44, 198, 0, 7, 45, 199, 0, 5, 2, 172, 42, 180, 0, 22, 182, 0, 92, 45, 44, 42, 180, 0, 22, 182] := chW_of (by decide +kernel)
theorem W_prog_1_method_21_code_32 : chW prog_1_method_21_code 32 [180, 0, 22, 182, 1, 8, 42, 180, 0, 22, 180, 0, 56, 172] := chW_of (by decide +kernel)
theorem W_prog_7_method_17_code_0 : chW prog_7_method_17_code 0 [44, 18, 201, 182, 0, 203, 44, 16, 6, 7, 182, 0, 209, 44, 4, 5, 182, 0, 209, 44, 43, 180, 0, 47, 4, 96, 5, 182, 0, 209, 44, 16, 96, 5, 182, 0] := chW_of (by decide +kernel)
theorem W_prog_7_method_21_code_0 : chW prog_7_method_21_code 0 [43, 184, 0, 237, 61, 43, 16, 88, 7, 184, 0, 226, 43, 42, 180, 0, 241, 182, 0, 233, 43, 42, 180, 0, 244, 4, 100, 184, 0, 247, 182, 0, 233, 43, 16, 24] := chW_of (by decide +kernel)
theorem W_prog_10_method_2_code_0 : chW prog_10_method_2_code 0 [42, 43, 181, 0, 23, 42, 3, 181, 0, 27, 42, 43, 180, 0, 31, 181, 0, 36, 42, 3, 181, 0, 39, 42, 3, 181, 0, 42, 42, 182, 0, 45, 42, 182, 0, 48] := chW_of (by decide +kernel)
theorem W_prog_10_method_13_code_0 : chW prog_10_method_13_code 0 [42, 180, 0, 42, 62, 42, 3, 181, 0, 120, 42, 9, 181, 0, 123, 42, 3, 181, 0, 127, 3, 54, 4, 21, 4, 17, 11, 184, 162, 0, 38, 42, 180, 0, 39, 154] := chW_of (by decide +kernel)
theorem W_prog_10_method_13_code_32 : chW prog_10_method_13_code 32 [180, 0, 39, 154, 0, 31, 42, 180, 0, 27, 133, 31, 148, 156, 0, 21, 42, 180, 0, 127, 154, 0, 14, 42, 29, 182, 0, 130, 132, 4, 1, 167, 255, 216, 29, 54] := chW_of (by decide +kernel)
theorem W_prog_9_method_10_code_0 : chW prog_9_method_10_code 0 [42, 27, 182, 0, 70, 54, 4, 9, 55, 5, 27, 54, 7, 21, 7, 21, 4, 162, 0, 26, 22, 5, 42, 180, 0, 22, 180, 0, 81, 5, 50, 21, 7, 47, 97, 55] := chW_of (by decide +kernel)
theorem W_prog_9_method_10_code_32 : chW prog_9_method_10_code 32 [7, 47, 97, 55, 5, 132, 7, 1, 167, 255, 229, 42, 180, 0, 26, 18, 156, 182, 0, 137, 42, 180, 0, 26, 16, 97, 28, 96, 182, 0, 151, 42, 180, 0, 26, 22] := chW_of (by decide +kernel)
theorem W_prog_9_method_11_code_0 : chW prog_9_method_11_code 0 [42, 180, 0, 12, 3, 181, 0, 115, 42, 27, 28, 182, 0, 175, 177] := chW_of (by decide +kernel)
theorem W_prog_9_method_12_code_0 : chW prog_9_method_12_code 0 [27, 62, 3, 54, 4, 21, 4, 18, 180, 162, 0, 113, 29, 28, 162, 0, 108, 42, 180, 0, 46, 158, 0, 101, 28, 29, 100, 42, 180, 0, 46, 29, 42, 180, 0, 46] := chW_of (by decide +kernel)
theorem W_prog_9_method_12_code_32 : chW prog_9_method_12_code 32 [42, 180, 0, 46, 112, 100, 184, 0, 181, 54, 5, 42, 180, 0, 22, 180, 0, 40, 7, 46, 42, 180, 0, 22, 180, 0, 40, 8, 46, 29, 42, 180, 0, 46, 112, 21] := chW_of (by decide +kernel)
theorem W_prog_9_method_12_code_64 : chW prog_9_method_12_code 64 [0, 46, 112, 21, 5, 184, 0, 183, 54, 6, 29, 21, 6, 184, 0, 187, 96, 62, 42, 21, 6, 29, 28, 162, 0, 7, 4, 167, 0, 4, 3, 182, 0, 190, 29, 42] := chW_of (by decide +kernel)
theorem W_prog_1_method_28_code_0 : chW prog_1_method_28_code 0 [42, 27, 182, 1, 0, 78, 42, 27, 182, 0, 97, 58, 4, 45, 198, 0, 19, 25, 4, 198, 0, 14, 28, 155, 0, 10, 28, 17, 3, 232, 164, 0, 5, 2, 172, 45] := chW_of (by decide +kernel)
theorem W_prog_1_method_28_code_32 : chW prog_1_method_28_code 32 [5, 2, 172, 45, 25, 4, 28, 182, 1, 41, 172] := chW_of (by decide +kernel)
theorem W_prog_1_method_32_code_0 : chW prog_1_method_32_code 0 [42, 27, 28, 182, 0, 101, 58, 5, 42, 27, 29, 182, 0, 101, 58, 6, 25, 5, 198, 0, 24, 25, 6, 198, 0, 19, 28, 29, 159, 0, 14, 21, 4, 155, 0, 9] := chW_of (by decide +kernel)
theorem W_prog_1_method_32_code_32 : chW prog_1_method_32_code 32 [4, 155, 0, 9, 21, 4, 6, 164, 0, 7, 20, 0, 191, 173, 25, 5, 182, 1, 65, 54, 7, 25, 6, 182, 1, 65, 54, 8, 21, 7, 2, 159, 0, 9, 21, 8] := chW_of (by decide +kernel)
theorem W_prog_6_method_4_code_160 : chW prog_6_method_4_code 160 [4, 5, 182, 0, 45, 153, 0, 7, 4, 167, 0, 4, 3, 61, 25, 4, 28, 181, 0, 73, 132, 3, 1, 167, 255, 99, 28, 153, 0, 14, 16, 11, 16, 16, 42, 180] := chW_of (by decide +kernel)
theorem W_prog_6_method_4_code_192 : chW prog_6_method_4_code 192 [16, 16, 42, 180, 0, 49, 104, 96, 172, 42, 43, 182, 0, 77, 42, 180, 0, 81, 153, 0, 16, 16, 14, 16, 16, 42, 180, 0, 49, 104, 96, 167, 0, 4, 3, 172] := chW_of (by decide +kernel)
theorem W_prog_10_method_2_code_32 : chW prog_10_method_2_code 32 [42, 182, 0, 48, 42, 3, 181, 0, 51, 3, 61, 28, 17, 11, 184, 162, 0, 122, 42, 180, 0, 39, 154, 0, 115, 42, 180, 0, 51, 42, 180, 0, 9, 3, 46, 162] := chW_of (by decide +kernel)
theorem W_prog_1_method_32_code_64 : chW prog_1_method_32_code 64 [0, 9, 21, 8, 2, 160, 0, 7, 3, 167, 0, 14, 25, 6, 25, 5, 21, 7, 21, 8, 182, 1, 68, 54, 9, 21, 9, 154, 0, 5, 9, 173, 25, 6, 180, 0] := chW_of (by decide +kernel)
theorem W_prog_11_method_2_code_32 : chW prog_11_method_2_code 32 [28, 182, 0, 54, 28, 158, 0, 12, 42, 43, 180, 0, 58, 28, 182, 0, 63, 132, 2, 1, 167, 255, 216, 177] := chW_of (by decide +kernel)
theorem W_prog_9_method_10_code_64 : chW prog_9_method_10_code 64 [180, 0, 26, 22, 5, 20, 0, 158, 21, 4, 27, 100, 133, 105, 148, 155, 0, 8, 18, 160, 167, 0, 5, 18, 162, 182, 0, 137, 42, 180, 0, 22, 180, 0, 164, 42] := chW_of (by decide +kernel)
theorem d_9_10_37 : decode prog_9_method_10_code 37 = .ok (.iinc 7 1, 3) := D_132 W_prog_9_method_10_code_32 5 rfl rfl rfl
theorem W_prog_9_method_10_code_96 : chW prog_9_method_10_code 96 [180, 0, 164, 42, 180, 0, 22, 180, 0, 81, 3, 50, 27, 47, 136, 46, 54, 7, 42, 180, 0, 26, 21, 7, 3, 184, 0, 30, 182, 0, 144, 42, 180, 0, 26, 18] := chW_of (by decide +kernel)
theorem W_prog_9_method_10_code_128 : chW prog_9_method_10_code 128 [180, 0, 26, 18, 167, 182, 0, 137, 17, 2, 0, 42, 180, 0, 36, 108, 54, 8, 3, 54, 9, 42, 27, 181, 0, 91, 3, 54, 10, 21, 10, 42, 180, 0, 22, 180] := chW_of (by decide +kernel)
theorem W_prog_9_method_10_code_160 : chW prog_9_method_10_code 160 [180, 0, 22, 180, 0, 63, 162, 0, 76, 42, 180, 0, 91, 21, 4, 162, 0, 67, 42, 42, 180, 0, 91, 21, 4, 182, 0, 94, 42, 21, 9, 42, 180, 0, 109, 136] := chW_of (by decide +kernel)
theorem W_prog_9_method_10_code_192 : chW prog_9_method_10_code 192 [180, 0, 109, 136, 21, 8, 104, 182, 0, 169, 42, 182, 0, 172, 42, 42, 180, 0, 109, 136, 21, 8, 104, 42, 180, 0, 98, 136, 21, 8, 104, 182, 0, 175, 42, 180] := chW_of (by decide +kernel)
theorem d_11_2_49 : decode prog_11_method_2_code 49 = .ok (.iinc 2 1, 3) := D_132 W_prog_11_method_2_code_32 17 rfl rfl rfl
theorem W_prog_4_method_2_code_32 : chW prog_4_method_2_code 32 [54, 5, 21, 5, 16, 100, 162, 0, 97, 21, 4, 29, 162, 0, 91, 42, 180, 0, 28, 42, 180, 0, 66, 21, 4, 79, 42, 180, 0, 31, 42, 180, 0, 66, 42, 43] := chW_of (by decide +kernel)
theorem W_prog_4_method_2_code_64 : chW prog_4_method_2_code 64 [0, 66, 42, 43, 21, 4, 42, 180, 0, 40, 21, 4, 46, 182, 0, 69, 79, 42, 180, 0, 34, 42, 180, 0, 66, 42, 180, 0, 37, 21, 4, 47, 42, 180, 0, 37] := chW_of (by decide +kernel)
theorem W_prog_4_method_2_code_96 : chW prog_4_method_2_code 96 [42, 180, 0, 37, 42, 180, 0, 40, 21, 4, 46, 47, 101, 80, 42, 180, 0, 40, 21, 4, 46, 54, 4, 42, 89, 180, 0, 66, 4, 96, 181, 0, 66, 132, 5, 1] := chW_of (by decide +kernel)
theorem W_prog_4_method_2_code_128 : chW prog_4_method_2_code 128 [66, 132, 5, 1, 167, 255, 158, 42, 180, 0, 28, 42, 180, 0, 66, 29, 79, 3, 54, 5, 21, 5, 42, 180, 0, 66, 162, 0, 17, 42, 43, 21, 5, 28, 182, 0] := chW_of (by decide +kernel)
theorem d_4_2_129 : decode prog_4_method_2_code 129 = .ok (.iinc 5 1, 3) := D_132 W_prog_4_method_2_code_128 1 rfl rfl rfl
theorem W_prog_4_method_2_code_160 : chW prog_4_method_2_code 160 [5, 28, 182, 0, 73, 132, 5, 1, 167, 255, 236, 42, 180, 0, 66, 172] := chW_of (by decide +kernel)
theorem d_4_2_165 : decode prog_4_method_2_code 165 = .ok (.iinc 5 1, 3) := D_132 W_prog_4_method_2_code_160 5 rfl rfl rfl
theorem W_prog_7_method_17_code_32 : chW prog_7_method_17_code 32 [96, 5, 182, 0, 209, 43, 44, 184, 0, 213, 3, 62, 29, 43, 180, 0, 47, 162, 0, 21, 42, 43, 180, 0, 52, 29, 50, 29, 44, 182, 0, 217, 132, 3, 1, 167] := chW_of (by decide +kernel)
theorem W_prog_7_method_21_code_32 : chW prog_7_method_21_code 32 [233, 43, 16, 24, 182, 0, 233, 43, 16, 8, 182, 0, 233, 43, 16, 89, 5, 184, 0, 226, 43, 42, 180, 0, 153, 182, 0, 233, 43, 42, 180, 0, 252, 182, 0, 233] := chW_of (by decide +kernel)
theorem W_prog_7_method_21_code_64 : chW prog_7_method_21_code 64 [252, 182, 0, 233, 43, 16, 81, 6, 184, 0, 226, 43, 18, 255, 42, 180, 1, 0, 4, 184, 0, 144, 108, 6, 182, 0, 209, 43, 28, 184, 1, 3, 177] := chW_of (by decide +kernel)
theorem W_prog_7_method_21_code_96 : chW prog_7_method_21_code 96 [177] := chW_of (by decide +kernel)
theorem W_prog_10_method_2_code_64 : chW prog_10_method_2_code 64 [9, 3, 46, 162, 0, 102, 42, 43, 180, 0, 31, 181, 0, 36, 42, 7, 182, 0, 54, 66, 42, 7, 182, 0, 54, 42, 180, 0, 27, 133, 97, 55, 5, 42, 180, 0] := chW_of (by decide +kernel)
theorem W_prog_10_method_2_code_96 : chW prog_10_method_2_code 96 [5, 42, 180, 0, 39, 154, 0, 42, 33, 20, 0, 58, 148, 154, 0, 34, 42, 22, 5, 43, 180, 0, 31, 133, 184, 0, 60, 136, 181, 0, 36, 42, 22, 5, 182, 0] := chW_of (by decide +kernel)
theorem W_prog_10_method_2_code_128 : chW prog_10_method_2_code 128 [22, 5, 182, 0, 66, 42, 89, 180, 0, 51, 4, 96, 181, 0, 51, 42, 43, 180, 0, 31, 181, 0, 36, 42, 22, 5, 42, 180, 0, 27, 133, 101, 182, 0, 70, 132] := chW_of (by decide +kernel)
theorem d_10_13_60 : decode prog_10_method_13_code 60 = .ok (.iinc 4 1, 3) := D_132 W_prog_10_method_13_code_32 28 rfl rfl rfl
theorem W_prog_10_method_13_code_64 : chW prog_10_method_13_code 64 [255, 216, 29, 54, 4, 21, 4, 42, 180, 0, 42, 162, 0, 38, 42, 180, 0, 17, 8, 50, 21, 4, 47, 20, 0, 134, 148, 154, 0, 16, 42, 180, 0, 17, 8, 50] := chW_of (by decide +kernel)
theorem W_prog_10_method_13_code_96 : chW prog_10_method_13_code 96 [0, 17, 8, 50, 21, 4, 42, 180, 0, 123, 80, 132, 4, 1, 167, 255, 215, 177] := chW_of (by decide +kernel)
theorem d_10_13_107 : decode prog_10_method_13_code 107 = .ok (.iinc 4 1, 3) := D_132 W_prog_10_method_13_code_96 11 rfl rfl rfl
theorem W_prog_9_method_12_code_96 : chW prog_9_method_12_code 96 [0, 190, 29, 42, 180, 0, 46, 112, 154, 0, 12, 42, 180, 0, 26, 18, 194, 182, 0, 137, 132, 4, 1, 167, 255, 142, 177] := chW_of (by decide +kernel)
theorem d_9_12_116 : decode prog_9_method_12_code 116 = .ok (.iinc 4 1, 3) := D_132 W_prog_9_method_12_code_96 20 rfl rfl rfl
theorem W_prog_1_method_32_code_96 : chW prog_1_method_32_code 96 [25, 6, 180, 0, 108, 21, 8, 50, 180, 0, 193, 25, 5, 180, 0, 108, 21, 7, 50, 180, 0, 193, 101, 55, 10, 21, 4, 170, 0, 0, 0, 60, 0, 0, 0, 0] := chW_of (by decide +kernel)
theorem d_1_32_123 : decode prog_1_method_32_code 123 = .ok (.tableswitch 60 0 2 #[25, 29, 54], 25) := by decide +kernel
theorem W_prog_1_method_32_code_128 : chW prog_1_method_32_code 128 [0, 0, 0, 0, 0, 0, 0, 2, 0, 0, 0, 25, 0, 0, 0, 29, 0, 0, 0, 54, 21, 9, 133, 173, 25, 6, 180, 0, 108, 21, 8, 50, 182, 1, 72, 25] := chW_of (by decide +kernel)
theorem W_prog_1_method_32_code_160 : chW prog_1_method_32_code 160 [182, 1, 72, 25, 5, 180, 0, 108, 21, 7, 50, 182, 1, 72, 100, 133, 173, 22, 10, 184, 0, 198, 173, 22, 10, 184, 0, 201, 173] := chW_of (by decide +kernel)
theorem W_prog_6_method_4_code_224 : chW prog_6_method_4_code 224 [0, 4, 3, 172] := chW_of (by decide +kernel)
theorem W_prog_6_method_4_code_32 : chW prog_6_method_4_code 32 [0, 155, 42, 180, 0, 11, 29, 50, 58, 4, 42, 29, 43, 182, 0, 55, 182, 0, 61, 154, 0, 15, 16, 13, 16, 16, 25, 4, 180, 0, 65, 104, 96, 172, 25, 4] := chW_of (by decide +kernel)
theorem W_prog_6_method_4_code_64 : chW prog_6_method_4_code 64 [96, 172, 25, 4, 4, 182, 0, 45, 153, 0, 23, 42, 29, 182, 0, 68, 154, 0, 15, 16, 10, 16, 16, 25, 4, 180, 0, 72, 104, 96, 172, 28, 153, 0, 16, 25] := chW_of (by decide +kernel)
theorem W_prog_6_method_4_code_96 : chW prog_6_method_4_code 96 [153, 0, 16, 25, 4, 7, 182, 0, 45, 154, 0, 7, 4, 167, 0, 4, 3, 54, 5, 25, 4, 7, 182, 0, 45, 153, 0, 7, 28, 153, 0, 17, 25, 4, 5, 182] := chW_of (by decide +kernel)
theorem W_prog_6_method_4_code_128 : chW prog_6_method_4_code 128 [25, 4, 5, 182, 0, 45, 153, 0, 20, 21, 5, 153, 0, 15, 16, 11, 16, 16, 25, 4, 180, 0, 72, 104, 96, 172, 21, 5, 154, 0, 12, 25, 4, 5, 182, 0] := chW_of (by decide +kernel)
theorem d_6_4_180 : decode prog_6_method_4_code 180 = .ok (.iinc 3 1, 3) := D_132 W_prog_6_method_4_code_160 20 rfl rfl rfl
theorem W_prog_7_method_17_code_64 : chW prog_7_method_17_code 64 [132, 3, 1, 167, 255, 233, 177] := chW_of (by decide +kernel)
theorem d_7_17_64 : decode prog_7_method_17_code 64 = .ok (.iinc 3 1, 3) := D_132 W_prog_7_method_17_code_64 0 rfl rfl rfl
theorem W_prog_10_method_2_code_160 : chW prog_10_method_2_code 160 [182, 0, 70, 132, 2, 1, 167, 255, 133, 42, 180, 0, 39, 172] := chW_of (by decide +kernel)
theorem d_10_2_163 : decode prog_10_method_2_code 163 = .ok (.iinc 2 1, 3) := D_132 W_prog_10_method_2_code_160 3 rfl rfl rfl
theorem W_prog_9_method_10_code_224 : chW prog_9_method_10_code 224 [0, 175, 42, 180, 0, 98, 136, 21, 8, 104, 54, 9, 132, 10, 1, 167, 255, 174, 42, 21, 9, 29, 182, 0, 169, 42, 29, 29, 42, 180, 0, 46, 96, 4, 100, 42] := chW_of (by decide +kernel)
theorem d_9_10_236 : decode prog_9_method_10_code 236 = .ok (.iinc 10 1, 3) := D_132 W_prog_9_method_10_code_224 12 rfl rfl rfl
theorem W_prog_9_method_10_code_256 : chW prog_9_method_10_code 256 [96, 4, 100, 42, 180, 0, 46, 4, 184, 0, 30, 108, 42, 180, 0, 46, 104, 182, 0, 169, 42, 180, 0, 26, 18, 178, 182, 0, 137, 177] := chW_of (by decide +kernel)
abbrev Q_Study_lookThrough (K : zK) (D : va_G) (ca : Nat → ClassId) (ad : Nat → Int → Nat → Nat) (L : List Nat) (r : Int) (F : zF) (B : zB) (A : Nat → Prop) : Array Value → State → Outcome → State → Prop := va_Qv (S := Unit) (fun _ => True) (fun _ => zPo D ca ad lnC K.2 L F B A) A
def f_Study_lookThrough_55 (K : zK)  (F : zF) (B : zB) : zO := some (0, F, B)
set_option maxHeartbeats 4000000 in
set_option maxRecDepth 100000 in
theorem b_Study_lookThrough_55 {D : va_G} {ca : Nat → ClassId} {ad : Nat → Int → Nat → Nat} {L : List Nat} {aS vS : Nat → Nat} {A : Nat → Prop} {p : Program} {l : Launch} {e : Env} {s : State} {m : MethodId} {args : Array Value} {below : List Frame} {meth : Method} {c : Code} {K : zK} {r : Int} {F9 : zF} {B9 : zB} (X : zX D ca L aS vS A p s m args meth c prog_11_method_2_code 3 (Option.none : Option Jvm.ClassFile.FieldType) "StaveHouse$Study")  {F : zF} {B : zB} {H : Heap} {locs : List Loc} {ls : Array Slot} (hf : f_Study_lookThrough_55 K  F B = some (r, F9, B9)) (hZ : zH D ca ad lnC K.2 L F B A H) (hS : va_S A s.heap H locs) (hl : lv_has ls 3 []) : W p l e ({ frames := 5, cells := 0, slots := 0, locals := 110 } : Room) s m args below meth c H locs 0 0 (MQ below (Q_Study_lookThrough K D ca ad L r F9 B9 A) args s 0 0 A) (F0 m 55 ls []) := by
  obtain ⟨hx, hb, hr, hml, hown, hts, hlk, hK, hA, hL, hX⟩ := id X
  replace hf : (some (0, F, B)) = some (r, F9, B9) := hf
  cases hf
  exact W.vret hx hb hr (fun t ht hW => ⟨⟨(), rfl, trivial, by rw [ht]; exact hZ, va_K.moved hW.alike hK⟩, hS.F ht⟩) hS.2.2 (D_177 W_prog_11_method_2_code_32 23 rfl rfl) hlk

def f_Study_lookThrough_49 (rec12 : Int → Int → Int → zF → zB → zO) (K : zK) (l2 : Int) (l0 : Int) (l1 : Int) (F : zF) (B : zB) : zO := rec12 (l2 + 1) l0 l1 F B
set_option maxHeartbeats 4000000 in
set_option maxRecDepth 100000 in
theorem b_Study_lookThrough_49 {D : va_G} {ca : Nat → ClassId} {ad : Nat → Int → Nat → Nat} {L : List Nat} {aS vS : Nat → Nat} {A : Nat → Prop} {p : Program} {l : Launch} {e : Env} {s : State} {m : MethodId} {args : Array Value} {below : List Frame} {meth : Method} {c : Code} {K : zK} {r : Int} {F9 : zF} {B9 : zB} (X : zX D ca L aS vS A p s m args meth c prog_11_method_2_code 3 (Option.none : Option Jvm.ClassFile.FieldType) "StaveHouse$Study") {rec12 : Int → Int → Int → zF → zB → zO} (hrec12 : ∀ {l2 : Int} {l0 : Int} {l1 : Int} {F : zF} {B : zB} {H : Heap} {locs : List Loc} {ls : Array Slot}, rec12 l2 l0 l1 F B = some (r, F9, B9) → zH D ca ad lnC K.2 L F B A H → va_S A s.heap H locs → lv_has ls 3 [(2, .int (iI l2)), (0, .ref (ad 9 l0 0)), (1, .ref (ad 6 l1 0))] → W p l e ({ frames := 5, cells := 0, slots := 0, locals := 110 } : Room) s m args below meth c H locs 0 0 (MQ below (Q_Study_lookThrough K D ca ad L r F9 B9 A) args s 0 0 A) (F0 m 12 ls [])) {l2 : Int} {l0 : Int} {l1 : Int} {F : zF} {B : zB} {H : Heap} {locs : List Loc} {ls : Array Slot} (hf : f_Study_lookThrough_49 rec12 K l2 l0 l1 F B = some (r, F9, B9)) (hZ : zH D ca ad lnC K.2 L F B A H) (hS : va_S A s.heap H locs) (hl : lv_has ls 3 [(2, .int (iI l2)), (0, .ref (ad 9 l0 0)), (1, .ref (ad 6 l1 0))]) : W p l e ({ frames := 5, cells := 0, slots := 0, locals := 110 } : Room) s m args below meth c H locs 0 0 (MQ below (Q_Study_lookThrough K D ca ad L r F9 B9 A) args s 0 0 A) (F0 m 49 ls []) := by
  obtain ⟨hx, hb, hr, hml, hown, hts, hlk, hK, hA, hL, hX⟩ := id X
  replace hf : (rec12 (l2 + 1) l0 l1 F B) = some (r, F9, B9) := hf
  refine lv_iinc (v := iI (l2 + 1)) (lv' := [(2, .int (iI (l2 + 1))), (0, .ref (ad 9 l0 0)), (1, .ref (ad 6 l1 0))]) hx hb d_11_2_49 hl (k := 0) rfl (iI_add _ 1) (by decide) rfl (fun ls hl => ?_)
  refine lv_goto (tgt := 12) hx hb (D_167 W_prog_11_method_2_code_32 20 rfl rfl rfl) (by decide) ?_
  exact hrec12 hf hZ hS (lv_sub hl [0, 1, 2] rfl)

def f_Study_lookThrough_12 (K : zK) : Nat → Int → Int → Int → zF → zB → zO
  | 0, _, _, _, _, _ => none
  | n + 1, l2, l0, l1, F, B => if 0 ≤ l0 ∧ l0 < K.2 9 then if r32 l2 then if r32 (F 9 l0 0) then (if (F 9 l0 0) ≤ l2 then f_Study_lookThrough_55 K F B else if r32 (F 9 l0 2) then (if 300 ≤ (F 9 l0 2) then f_Study_lookThrough_55 K F B else zbind (f_Study_takeLines K l0 l1 l2 F B) (fun r10 F10 B10 => (if l2 ≤ 0 then f_Study_lookThrough_49 (f_Study_lookThrough_12 K n) K l2 l0 l1 F10 B10 else if 0 ≤ l1 ∧ l1 < K.2 6 then zbind (f_Study_findFaults K l0 (F10 6 l1 1) l2 F10 B10) (fun r13 F13 B13 => f_Study_lookThrough_49 (f_Study_lookThrough_12 K n) K l2 l0 l1 F13 B13) else none))) else none) else none else none else none
set_option maxHeartbeats 4000000 in
set_option maxRecDepth 100000 in
theorem b_Study_lookThrough_12 {D : va_G} {ca : Nat → ClassId} {ad : Nat → Int → Nat → Nat} {L : List Nat} {aS vS : Nat → Nat} {A : Nat → Prop} {p : Program} {l : Launch} {e : Env} {s : State} {m : MethodId} {args : Array Value} {below : List Frame} {meth : Method} {c : Code} {K : zK} {r : Int} {F9 : zF} {B9 : zB} (X : zX D ca L aS vS A p s m args meth c prog_11_method_2_code 3 (Option.none : Option Jvm.ClassFile.FieldType) "StaveHouse$Study") : ∀ {n : Nat} {l2 : Int} {l0 : Int} {l1 : Int} {F : zF} {B : zB} {H : Heap} {locs : List Loc} {ls : Array Slot}, f_Study_lookThrough_12 K n l2 l0 l1 F B = some (r, F9, B9) → zH D ca ad lnC K.2 L F B A H → va_S A s.heap H locs → lv_has ls 3 [(2, .int (iI l2)), (0, .ref (ad 9 l0 0)), (1, .ref (ad 6 l1 0))] → W p l e ({ frames := 5, cells := 0, slots := 0, locals := 110 } : Room) s m args below meth c H locs 0 0 (MQ below (Q_Study_lookThrough K D ca ad L r F9 B9 A) args s 0 0 A) (F0 m 12 ls []) := by
  obtain ⟨hx, hb, hr, hml, hown, hts, hlk, hK, hA, hL, hX⟩ := id X
  intro n
  induction n with
  | zero =>
    intros
    rename_i hf _ _ _
    cases hf
  | succ n ih =>
    intro l2 l0 l1 F B H locs ls hf hZ hS hl
    replace hf : (if 0 ≤ l0 ∧ l0 < K.2 9 then if r32 l2 then if r32 (F 9 l0 0) then (if (F 9 l0 0) ≤ l2 then f_Study_lookThrough_55 K F B else if r32 (F 9 l0 2) then (if 300 ≤ (F 9 l0 2) then f_Study_lookThrough_55 K F B else zbind (f_Study_takeLines K l0 l1 l2 F B) (fun r10 F10 B10 => (if l2 ≤ 0 then f_Study_lookThrough_49 (f_Study_lookThrough_12 K n) K l2 l0 l1 F10 B10 else if 0 ≤ l1 ∧ l1 < K.2 6 then zbind (f_Study_findFaults K l0 (F10 6 l1 1) l2 F10 B10) (fun r13 F13 B13 => f_Study_lookThrough_49 (f_Study_lookThrough_12 K n) K l2 l0 l1 F13 B13) else none))) else none) else none else none else none) = some (r, F9, B9) := hf
    refine lv_iload_n hx hb (D_28 W_prog_11_method_2_code_0 12 rfl rfl) rfl (lv_at hl 0 rfl) ?_
    refine lv_aload_n hx hb (D_42 W_prog_11_method_2_code_0 13 rfl rfl) rfl (lv_at hl 1 rfl) ?_
    obtain ⟨g4, hf⟩ := gif hf
    refine zget (ci := 9) (C := RX9) (T := TX9) (v := .int (iI (F 9 l0 0))) (k := 0) hx hb hts inW_9 hown hK hZ g4.1 g4.2 rfl (by decide) k_5_197 rfl (D_180 W_prog_11_method_2_code_0 14 rfl rfl rfl) ?_
    obtain ⟨g5, hf⟩ := gif hf
    obtain ⟨g6, hf⟩ := gif hf
    refine zge (tgt := 55) hx hb g5 g6 (D_162 W_prog_11_method_2_code_0 17 rfl rfl rfl) (by decide) (fun h7 => ?_) (fun h7 => ?_)
    · replace hf := gpos hf h7
      exact b_Study_lookThrough_55 X hf hZ hS (lv_sub hl [] rfl)
    · replace hf := gneg hf h7
      refine lv_aload_n hx hb (D_42 W_prog_11_method_2_code_0 20 rfl rfl) rfl (lv_at hl 1 rfl) ?_
      refine zget (ci := 9) (C := RX9) (T := TX9) (v := .int (iI (F 9 l0 2))) (k := 2) hx hb hts inW_9 hown hK hZ g4.1 g4.2 rfl (by decide) k_5_201 rfl (D_180 W_prog_11_method_2_code_0 21 rfl rfl rfl) ?_
      refine lv_sipush (v := iI 300) hx hb (D_17 W_prog_11_method_2_code_0 24 rfl rfl rfl) (by decide) ?_
      obtain ⟨g8, hf⟩ := gif hf
      refine zge (tgt := 55) hx hb g8 (by decide) (D_162 W_prog_11_method_2_code_0 27 rfl rfl rfl) (by decide) (fun h9 => ?_) (fun h9 => ?_)
      · replace hf := gpos hf h9
        exact b_Study_lookThrough_55 X hf hZ hS (lv_sub hl [] rfl)
      · replace hf := gneg hf h9
        refine lv_aload_n hx hb (D_42 W_prog_11_method_2_code_0 30 rfl rfl) rfl (lv_at hl 1 rfl) ?_
        refine lv_aload_n hx hb (D_43 W_prog_11_method_2_code_0 31 rfl rfl) rfl (lv_at hl 2 rfl) ?_
        refine lv_iload_n hx hb (D_28 W_prog_11_method_2_code_32 0 rfl rfl) rfl (lv_at hl 0 rfl) ?_
        obtain ⟨r10, F10, B10, hc10, hf⟩ := gbind hf
        refine va_callv (va_runV (As := [.ref (ad 6 l1 0), .int (iI l2)]) (rest := []) ⟨hx, hb, hml, hown, hts⟩ (c_Study_takeLines (l := l) hc10) (cwV 2 hts (gdV k_6_9 k_6_11 ks_68 k_1_19 k_6_12) rfl rfl rfl (by decide +kernel) ⟨Nat.le_of_ble_eq_true rfl, Nat.le_of_ble_eq_true rfl⟩) (zPV X hZ hS (ci := 9) g4.1 g4.2 (r := (RX9, TX9, 11)) rfl [.ref (ad 6 l1 0), .int (iI l2)]) rfl rfl hl.1 rfl (lv_room (Nat.le_of_ble_eq_true rfl)) (D_182 W_prog_11_method_2_code_32 1 rfl rfl rfl) ⟨Nat.le_of_ble_eq_true rfl, Nat.le_of_ble_eq_true rfl⟩) hS (fun q _ h => zAin X hS q h) (zAin X hS) (fun u10 t10 H10 locs10 ht10 hv10 hw10 hB10 hz10 hk10 hS10 => ?_)
        have hZ10 := zBack X ht10 hB10
        refine lv_iload_n hx hb (D_28 W_prog_11_method_2_code_32 4 rfl rfl) rfl (lv_at hl 0 rfl) ?_
        refine z0le (tgt := 49) hx hb g5 (D_158 W_prog_11_method_2_code_32 5 rfl rfl rfl) (by decide) (fun h11 => ?_) (fun h11 => ?_)
        · replace hf := gpos hf h11
          exact b_Study_lookThrough_49 X ih hf hZ10 hS10 (lv_sub hl [0, 1, 2] rfl)
        · replace hf := gneg hf h11
          refine lv_aload_n hx hb (D_42 W_prog_11_method_2_code_32 8 rfl rfl) rfl (lv_at hl 1 rfl) ?_
          refine lv_aload_n hx hb (D_43 W_prog_11_method_2_code_32 9 rfl rfl) rfl (lv_at hl 2 rfl) ?_
          obtain ⟨g12, hf⟩ := gif hf
          refine zget (ci := 6) (C := RX6) (T := TX6) (v := .int (iI (F10 6 l1 1))) (k := 1) hx hb hts inW_6 hown hK hZ10 g12.1 g12.2 rfl (by decide) k_2_192 rfl (D_180 W_prog_11_method_2_code_32 10 rfl rfl rfl) ?_
          refine lv_iload_n hx hb (D_28 W_prog_11_method_2_code_32 13 rfl rfl) rfl (lv_at hl 0 rfl) ?_
          obtain ⟨r13, F13, B13, hc13, hf⟩ := gbind hf
          refine va_callv (va_runV (As := [.int (iI (F10 6 l1 1)), .int (iI l2)]) (rest := []) ⟨hx, hb, hml, hown, hts⟩ (c_Study_findFaults (l := l) hc13) (cwV 2 hts (gdV k_6_27 k_6_29 ks_70 k_1_19 k_6_30) rfl rfl rfl (by decide +kernel) ⟨Nat.le_of_ble_eq_true rfl, Nat.le_of_ble_eq_true rfl⟩) (zPV X hZ10 hS10 (ci := 9) g4.1 g4.2 (r := (RX9, TX9, 11)) rfl [.int (iI (F10 6 l1 1)), .int (iI l2)]) rfl rfl hl.1 rfl (lv_room (Nat.le_of_ble_eq_true rfl)) (D_182 W_prog_11_method_2_code_32 14 rfl rfl rfl) ⟨Nat.le_of_ble_eq_true rfl, Nat.le_of_ble_eq_true rfl⟩) hS10 (fun q _ h => zAin X hS10 q h) (zAin X hS10) (fun u13 t13 H13 locs13 ht13 hv13 hw13 hB13 hz13 hk13 hS13 => ?_)
          have hZ13 := zBack X ht13 hB13
          exact b_Study_lookThrough_49 X ih hf hZ13 hS13 (lv_sub hl [0, 1, 2] rfl)

def f_Study_lookThrough (K : zK) (l0 : Int) (l1 : Int) (F : zF) (B : zB) : zO := if 0 ≤ l0 ∧ l0 < K.2 9 then zbind (f_Study_findMoments K l0 l1 F B) (fun r2 F2 B2 => f_Study_lookThrough_12 K K.1 0 l0 l1 (zup3 F2 9 l0 2 0) B2) else none
set_option maxHeartbeats 4000000 in
set_option maxRecDepth 100000 in
theorem c_Study_lookThrough {l : Launch} {D : va_G} {ca : Nat → ClassId} {ad : Nat → Int → Nat → Nat} {L : List Nat} {aS vS : Nat → Nat} {sz : Nat} {K : zK}  {l0 : Int} {l1 : Int} {F F9 : zF} {B B9 : zB} {r : Int} (hf : f_Study_lookThrough K l0 l1 F B = some (r, F9, B9)) : Met l ({ cls := "StaveHouse$Study", name := "lookThrough", desc := "(LStaveHouse$Piece;)V" } : Jvm.MethodName) (Cond.code ({ cls := "StaveHouse$Study", name := "lookThrough", desc := "(LStaveHouse$Piece;)V" } : Jvm.MethodName) prog_11_method_2_code 3 (Option.none : Option Jvm.ClassFile.FieldType) :: wAll) ({ frames := 5, cells := 0, slots := 0, locals := 110 } : Room) (va_Pc [.ref (ad 9 l0 0), .ref (ad 6 l1 0)] (zPre D ca ad lnC K.2 L aS vS F B sz)) (Q_Study_lookThrough K D ca ad L r F9 B9 (zA L sz)) 0 0 (zA L sz) := by
  refine zMet (Qc := Q_Study_lookThrough K D ca ad L r F9 B9) (lv := [(0, .ref (ad 9 l0 0)), (1, .ref (ad 6 l1 0))]) (by decide) (Nat.le_of_ble_eq_true rfl) rfl (fun A p e s m below meth c ls X hZ hS hl => ?_)
  obtain ⟨hx, hb, hr, hml, hown, hts, hlk, hK, hA, hL, hX⟩ := id X
  replace hf : (if 0 ≤ l0 ∧ l0 < K.2 9 then zbind (f_Study_findMoments K l0 l1 F B) (fun r2 F2 B2 => f_Study_lookThrough_12 K K.1 0 l0 l1 (zup3 F2 9 l0 2 0) B2) else none) = some (r, F9, B9) := hf
  refine lv_aload_n hx hb (D_42 W_prog_11_method_2_code_0 0 rfl rfl) rfl (lv_at hl 0 rfl) ?_
  refine lv_aload_n hx hb (D_43 W_prog_11_method_2_code_0 1 rfl rfl) rfl (lv_at hl 1 rfl) ?_
  obtain ⟨g1, hf⟩ := gif hf
  obtain ⟨r2, F2, B2, hc2, hf⟩ := gbind hf
  refine va_callv (va_runV (As := [.ref (ad 6 l1 0)]) (rest := []) ⟨hx, hb, hml, hown, hts⟩ (c_Study_findMoments (l := l) hc2) (cwV 1 hts (gdV k_5_239 k_6_1 ks_66 k_1_19 k_6_2) rfl rfl rfl (by decide +kernel) ⟨Nat.le_of_ble_eq_true rfl, Nat.le_of_ble_eq_true rfl⟩) (zPV X hZ hS (ci := 9) g1.1 g1.2 (r := (RX9, TX9, 11)) rfl [.ref (ad 6 l1 0)]) rfl rfl hl.1 rfl (lv_room (Nat.le_of_ble_eq_true rfl)) (D_182 W_prog_11_method_2_code_0 2 rfl rfl rfl) ⟨Nat.le_of_ble_eq_true rfl, Nat.le_of_ble_eq_true rfl⟩) hS (fun q _ h => zAin X hS q h) (zAin X hS) (fun u2 t2 H2 locs2 ht2 hv2 hw2 hB2 hz2 hk2 hS2 => ?_)
  have hZ2 := zBack X ht2 hB2
  refine lv_aload_n hx hb (D_42 W_prog_11_method_2_code_0 5 rfl rfl) rfl (lv_at hl 0 rfl) ?_
  refine lv_iconst (v := iI 0) hx hb (D_3 W_prog_11_method_2_code_0 6 rfl rfl) rfl ?_
  refine zput (ci := 9) (C := RX9) (T := TX9) (k := 2) (v := 0) (w := .int (iI 0)) hx hb hts inW_9 tyX9 tyX9_ok nmX9 hown hK hZ2 hS2 g1.1 g1.2 rfl (by decide) k_5_201 rfl (fun G h => congrArg (fun q => Value.int (iI q)) h) rfl rfl (zno (by decide)) (D_181 W_prog_11_method_2_code_0 7 rfl rfl rfl) (fun H3 locs3 hZ3 hS3 => ?_)
  refine lv_iconst (v := iI 0) hx hb (D_3 W_prog_11_method_2_code_0 10 rfl rfl) rfl ?_
  refine lv_istore_n (lv' := [(2, .int (iI 0)), (0, .ref (ad 9 l0 0)), (1, .ref (ad 6 l1 0))]) hx hb (D_61 W_prog_11_method_2_code_0 11 rfl rfl) rfl hl (by decide) rfl (fun ls hl => ?_)
  exact b_Study_lookThrough_12 X hf hZ3 hS3 (lv_sub hl [0, 1, 2] rfl)

abbrev Q_Layout_breakLines (K : zK) (D : va_G) (ca : Nat → ClassId) (ad : Nat → Int → Nat → Nat) (L : List Nat) (r : Int) (F : zF) (B : zB) (A : Nat → Prop) : Array Value → State → Outcome → State → Prop := va_Qi (S := Unit) (fun p _ => p = iI r) (fun _ => zPo D ca ad lnC K.2 L F B A) A
def f_Layout_breakLines_148 (K : zK) : Nat → Int → Int → Int → Int → zF → zB → zO
  | 0, _, _, _, _, _, _ => none
  | n + 1, l5, l0, l1, l2, F, B => if 0 ≤ l0 ∧ l0 < K.2 2 then if r32 l5 then if r32 (F 2 l0 0) then (if (F 2 l0 0) ≤ l5 then some (F 2 l0 0, F, B) else zbind (f_Layout_setXs K l0 l1 l5 l2 F B) (fun r30 F30 B30 => f_Layout_breakLines_148 K n (l5 + 1) l0 l1 l2 F30 B30)) else none else none else none
set_option maxHeartbeats 4000000 in
set_option maxRecDepth 100000 in
theorem b_Layout_breakLines_148 {D : va_G} {ca : Nat → ClassId} {ad : Nat → Int → Nat → Nat} {L : List Nat} {aS vS : Nat → Nat} {A : Nat → Prop} {p : Program} {l : Launch} {e : Env} {s : State} {m : MethodId} {args : Array Value} {below : List Frame} {meth : Method} {c : Code} {K : zK} {r : Int} {F9 : zF} {B9 : zB} (X : zX D ca L aS vS A p s m args meth c prog_4_method_2_code 6 (Option.some Jvm.ClassFile.FieldType.int) "StaveHouse$Layout") : ∀ {n : Nat} {l5 : Int} {l0 : Int} {l1 : Int} {l2 : Int} {F : zF} {B : zB} {H : Heap} {locs : List Loc} {ls : Array Slot}, f_Layout_breakLines_148 K n l5 l0 l1 l2 F B = some (r, F9, B9) → zH D ca ad lnC K.2 L F B A H → va_S A s.heap H locs → lv_has ls 6 [(5, .int (iI l5)), (0, .ref (ad 2 l0 0)), (1, .ref (ad 6 l1 0)), (2, .int (iI l2))] → W p l e ({ frames := 4, cells := 0, slots := 0, locals := 101 } : Room) s m args below meth c H locs 0 0 (MQ below (Q_Layout_breakLines K D ca ad L r F9 B9 A) args s 0 0 A) (F0 m 148 ls []) := by
  obtain ⟨hx, hb, hr, hml, hown, hts, hlk, hK, hA, hL, hX⟩ := id X
  intro n
  induction n with
  | zero =>
    intros
    rename_i hf _ _ _
    cases hf
  | succ n ih =>
    intro l5 l0 l1 l2 F B H locs ls hf hZ hS hl
    replace hf : (if 0 ≤ l0 ∧ l0 < K.2 2 then if r32 l5 then if r32 (F 2 l0 0) then (if (F 2 l0 0) ≤ l5 then some (F 2 l0 0, F, B) else zbind (f_Layout_setXs K l0 l1 l5 l2 F B) (fun r30 F30 B30 => f_Layout_breakLines_148 K n (l5 + 1) l0 l1 l2 F30 B30)) else none else none else none) = some (r, F9, B9) := hf
    refine lv_iload hx hb (D_21 W_prog_4_method_2_code_128 20 rfl rfl) (lv_at hl 0 rfl) ?_
    refine lv_aload_n hx hb (D_42 W_prog_4_method_2_code_128 22 rfl rfl) rfl (lv_at hl 1 rfl) ?_
    obtain ⟨g26, hf⟩ := gif hf
    refine zget (ci := 2) (C := RX2) (T := TX2) (v := .int (iI (F 2 l0 0))) (k := 0) hx hb hts inW_2 hown hK hZ g26.1 g26.2 rfl (by decide) k_6_215 rfl (D_180 W_prog_4_method_2_code_128 23 rfl rfl rfl) ?_
    obtain ⟨g27, hf⟩ := gif hf
    obtain ⟨g28, hf⟩ := gif hf
    refine zge (tgt := 171) hx hb g27 g28 (D_162 W_prog_4_method_2_code_128 26 rfl rfl rfl) (by decide) (fun h29 => ?_) (fun h29 => ?_)
    · replace hf := gpos hf h29
      refine lv_aload_n hx hb (D_42 W_prog_4_method_2_code_160 11 rfl rfl) rfl (lv_at hl 1 rfl) ?_
      refine zget (ci := 2) (C := RX2) (T := TX2) (v := .int (iI (F 2 l0 0))) (k := 0) hx hb hts inW_2 hown hK hZ g26.1 g26.2 rfl (by decide) k_6_215 rfl (D_180 W_prog_4_method_2_code_160 12 rfl rfl rfl) ?_
      cases hf
      exact W.iret hx hb hr (fun t ht hW => ⟨⟨_, (), rfl, rfl, by rw [ht]; exact hZ, va_K.moved hW.alike hK⟩, hS.F ht⟩) hS.2.2 (D_172 W_prog_4_method_2_code_160 15 rfl rfl) hlk
    · replace hf := gneg hf h29
      refine lv_aload_n hx hb (D_42 W_prog_4_method_2_code_128 29 rfl rfl) rfl (lv_at hl 1 rfl) ?_
      refine lv_aload_n hx hb (D_43 W_prog_4_method_2_code_128 30 rfl rfl) rfl (lv_at hl 2 rfl) ?_
      refine lv_iload hx hb (D_21 W_prog_4_method_2_code_128 31 rfl rfl) (lv_at hl 0 rfl) ?_
      refine lv_iload_n hx hb (D_28 W_prog_4_method_2_code_160 1 rfl rfl) rfl (lv_at hl 3 rfl) ?_
      obtain ⟨r30, F30, B30, hc30, hf⟩ := gbind hf
      refine va_callv (va_runV (As := [.ref (ad 6 l1 0), .int (iI l5), .int (iI l2)]) (rest := []) ⟨hx, hb, hml, hown, hts⟩ (c_Layout_setXs (l := l) hc30) (cwV 3 hts (gdV k_7_63 k_7_65 ks_85 k_1_21 k_7_66) rfl rfl rfl (by decide +kernel) ⟨Nat.le_of_ble_eq_true rfl, Nat.le_of_ble_eq_true rfl⟩) (zPV X hZ hS (ci := 2) g26.1 g26.2 (r := (RX2, TX2, 13)) rfl [.ref (ad 6 l1 0), .int (iI l5), .int (iI l2)]) rfl rfl hl.1 rfl (lv_room (Nat.le_of_ble_eq_true rfl)) (D_182 W_prog_4_method_2_code_160 2 rfl rfl rfl) ⟨Nat.le_of_ble_eq_true rfl, Nat.le_of_ble_eq_true rfl⟩) hS (fun q _ h => zAin X hS q h) (zAin X hS) (fun u30 t30 H30 locs30 ht30 hv30 hw30 hB30 hz30 hk30 hS30 => ?_)
      have hZ30 := zBack X ht30 hB30
      refine lv_iinc (v := iI (l5 + 1)) (lv' := [(5, .int (iI (l5 + 1))), (0, .ref (ad 2 l0 0)), (1, .ref (ad 6 l1 0)), (2, .int (iI l2))]) hx hb d_4_2_165 hl (k := 0) rfl (iI_add _ 1) (by decide) rfl (fun ls hl => ?_)
      refine lv_goto (tgt := 148) hx hb (D_167 W_prog_4_method_2_code_160 8 rfl rfl rfl) (by decide) ?_
      exact ih hf hZ30 hS30 (lv_sub hl [0, 1, 2, 3] rfl)

def f_Layout_breakLines_135 (K : zK) (l3 : Int) (l0 : Int) (l1 : Int) (l2 : Int) (F : zF) (B : zB) : zO := if 0 ≤ l0 ∧ l0 < K.2 2 then if 0 ≤ (F 2 l0 0) ∧ (F 2 l0 0) < 101 then f_Layout_breakLines_148 K K.1 0 l0 l1 l2 F (zup4 B 2 l0 7 (F 2 l0 0) l3) else none else none
set_option maxHeartbeats 4000000 in
set_option maxRecDepth 100000 in
theorem b_Layout_breakLines_135 {D : va_G} {ca : Nat → ClassId} {ad : Nat → Int → Nat → Nat} {L : List Nat} {aS vS : Nat → Nat} {A : Nat → Prop} {p : Program} {l : Launch} {e : Env} {s : State} {m : MethodId} {args : Array Value} {below : List Frame} {meth : Method} {c : Code} {K : zK} {r : Int} {F9 : zF} {B9 : zB} (X : zX D ca L aS vS A p s m args meth c prog_4_method_2_code 6 (Option.some Jvm.ClassFile.FieldType.int) "StaveHouse$Layout") {l3 : Int} {l0 : Int} {l1 : Int} {l2 : Int} {F : zF} {B : zB} {H : Heap} {locs : List Loc} {ls : Array Slot} (hf : f_Layout_breakLines_135 K l3 l0 l1 l2 F B = some (r, F9, B9)) (hZ : zH D ca ad lnC K.2 L F B A H) (hS : va_S A s.heap H locs) (hl : lv_has ls 6 [(3, .int (iI l3)), (0, .ref (ad 2 l0 0)), (1, .ref (ad 6 l1 0)), (2, .int (iI l2))]) : W p l e ({ frames := 4, cells := 0, slots := 0, locals := 101 } : Room) s m args below meth c H locs 0 0 (MQ below (Q_Layout_breakLines K D ca ad L r F9 B9 A) args s 0 0 A) (F0 m 135 ls []) := by
  obtain ⟨hx, hb, hr, hml, hown, hts, hlk, hK, hA, hL, hX⟩ := id X
  replace hf : (if 0 ≤ l0 ∧ l0 < K.2 2 then if 0 ≤ (F 2 l0 0) ∧ (F 2 l0 0) < 101 then f_Layout_breakLines_148 K K.1 0 l0 l1 l2 F (zup4 B 2 l0 7 (F 2 l0 0) l3) else none else none) = some (r, F9, B9) := hf
  refine lv_aload_n hx hb (D_42 W_prog_4_method_2_code_128 7 rfl rfl) rfl (lv_at hl 1 rfl) ?_
  obtain ⟨g23, hf⟩ := gif hf
  refine zget (ci := 2) (C := RX2) (T := TX2) (v := .ref (ad 2 l0 (7 + 1))) (k := 7) hx hb hts inW_2 hown hK hZ g23.1 g23.2 rfl (by decide) k_6_224 rfl (D_180 W_prog_4_method_2_code_128 8 rfl rfl rfl) ?_
  refine lv_aload_n hx hb (D_42 W_prog_4_method_2_code_128 11 rfl rfl) rfl (lv_at hl 1 rfl) ?_
  refine zget (ci := 2) (C := RX2) (T := TX2) (v := .int (iI (F 2 l0 0))) (k := 0) hx hb hts inW_2 hown hK hZ g23.1 g23.2 rfl (by decide) k_6_215 rfl (D_180 W_prog_4_method_2_code_128 12 rfl rfl rfl) ?_
  refine lv_iload_n hx hb (D_29 W_prog_4_method_2_code_128 15 rfl rfl) rfl (lv_at hl 0 rfl) ?_
  obtain ⟨g24, hf⟩ := gif hf
  refine zast (ci := 2) (k := 7) hx hb hK rfl hZ hS g23.1 g23.2 rfl (Nat.le_of_ble_eq_true rfl) g24.1 g24.2 (D_79 W_prog_4_method_2_code_128 16 rfl rfl) (fun H25 locs25 hZ25 hS25 => ?_)
  refine lv_iconst (v := iI 0) hx hb (D_3 W_prog_4_method_2_code_128 17 rfl rfl) rfl ?_
  refine lv_istore (lv' := [(5, .int (iI 0)), (3, .int (iI l3)), (0, .ref (ad 2 l0 0)), (1, .ref (ad 6 l1 0)), (2, .int (iI l2))]) hx hb (D_54 W_prog_4_method_2_code_128 18 rfl rfl) hl (by decide) rfl (fun ls hl => ?_)
  exact b_Layout_breakLines_148 X hf hZ25 hS25 (lv_sub hl [0, 2, 3, 4] rfl)

def f_Layout_breakLines_34 (K : zK) : Nat → Int → Int → Int → Int → Int → Int → zF → zB → zO
  | 0, _, _, _, _, _, _, _, _ => none
  | n + 1, l5, l4, l3, l0, l1, l2, F, B => if r32 l5 then (if 100 ≤ l5 then f_Layout_breakLines_135 K l3 l0 l1 l2 F B else if r32 l4 then if r32 l3 then (if l3 ≤ l4 then f_Layout_breakLines_135 K l3 l0 l1 l2 F B else if 0 ≤ l0 ∧ l0 < K.2 2 then if 0 ≤ (F 2 l0 0) ∧ (F 2 l0 0) < 101 then if 0 ≤ l4 ∧ l4 < 101 then zbind (f_Layout_widthOf K l0 l1 l4 ((zup4 B 2 l0 7 (F 2 l0 0) l4) 2 l0 11 l4) F (zup4 B 2 l0 7 (F 2 l0 0) l4)) (fun r16 F16 B16 => if 0 ≤ (F 2 l0 0) ∧ (F 2 l0 0) < 100 then if 0 ≤ ((zup4 B16 2 l0 8 (F 2 l0 0) r16) 2 l0 11 l4) ∧ ((zup4 B16 2 l0 8 (F 2 l0 0) r16) 2 l0 11 l4) < 101 then if 0 ≤ (F16 2 l0 0) ∧ (F16 2 l0 0) < 100 then f_Layout_breakLines_34 K n (l5 + 1) ((zup4 (zup4 B16 2 l0 8 (F 2 l0 0) r16) 2 l0 9 (F16 2 l0 0) (((zup4 B16 2 l0 8 (F 2 l0 0) r16) 2 l0 10 l4) - ((zup4 B16 2 l0 8 (F 2 l0 0) r16) 2 l0 10 ((zup4 B16 2 l0 8 (F 2 l0 0) r16) 2 l0 11 l4)))) 2 l0 11 l4) l3 l0 l1 l2 (zup3 F16 2 l0 0 ((F16 2 l0 0) + 1)) (zup4 (zup4 B16 2 l0 8 (F 2 l0 0) r16) 2 l0 9 (F16 2 l0 0) (((zup4 B16 2 l0 8 (F 2 l0 0) r16) 2 l0 10 l4) - ((zup4 B16 2 l0 8 (F 2 l0 0) r16) 2 l0 10 ((zup4 B16 2 l0 8 (F 2 l0 0) r16) 2 l0 11 l4)))) else none else none else none) else none else none else none) else none else none) else none
set_option maxHeartbeats 4000000 in
set_option maxRecDepth 100000 in
theorem b_Layout_breakLines_34 {D : va_G} {ca : Nat → ClassId} {ad : Nat → Int → Nat → Nat} {L : List Nat} {aS vS : Nat → Nat} {A : Nat → Prop} {p : Program} {l : Launch} {e : Env} {s : State} {m : MethodId} {args : Array Value} {below : List Frame} {meth : Method} {c : Code} {K : zK} {r : Int} {F9 : zF} {B9 : zB} (X : zX D ca L aS vS A p s m args meth c prog_4_method_2_code 6 (Option.some Jvm.ClassFile.FieldType.int) "StaveHouse$Layout") : ∀ {n : Nat} {l5 : Int} {l4 : Int} {l3 : Int} {l0 : Int} {l1 : Int} {l2 : Int} {F : zF} {B : zB} {H : Heap} {locs : List Loc} {ls : Array Slot}, f_Layout_breakLines_34 K n l5 l4 l3 l0 l1 l2 F B = some (r, F9, B9) → zH D ca ad lnC K.2 L F B A H → va_S A s.heap H locs → lv_has ls 6 [(5, .int (iI l5)), (4, .int (iI l4)), (3, .int (iI l3)), (0, .ref (ad 2 l0 0)), (1, .ref (ad 6 l1 0)), (2, .int (iI l2))] → W p l e ({ frames := 4, cells := 0, slots := 0, locals := 101 } : Room) s m args below meth c H locs 0 0 (MQ below (Q_Layout_breakLines K D ca ad L r F9 B9 A) args s 0 0 A) (F0 m 34 ls []) := by
  obtain ⟨hx, hb, hr, hml, hown, hts, hlk, hK, hA, hL, hX⟩ := id X
  intro n
  induction n with
  | zero =>
    intros
    rename_i hf _ _ _
    cases hf
  | succ n ih =>
    intro l5 l4 l3 l0 l1 l2 F B H locs ls hf hZ hS hl
    replace hf : (if r32 l5 then (if 100 ≤ l5 then f_Layout_breakLines_135 K l3 l0 l1 l2 F B else if r32 l4 then if r32 l3 then (if l3 ≤ l4 then f_Layout_breakLines_135 K l3 l0 l1 l2 F B else if 0 ≤ l0 ∧ l0 < K.2 2 then if 0 ≤ (F 2 l0 0) ∧ (F 2 l0 0) < 101 then if 0 ≤ l4 ∧ l4 < 101 then zbind (f_Layout_widthOf K l0 l1 l4 ((zup4 B 2 l0 7 (F 2 l0 0) l4) 2 l0 11 l4) F (zup4 B 2 l0 7 (F 2 l0 0) l4)) (fun r16 F16 B16 => if 0 ≤ (F 2 l0 0) ∧ (F 2 l0 0) < 100 then if 0 ≤ ((zup4 B16 2 l0 8 (F 2 l0 0) r16) 2 l0 11 l4) ∧ ((zup4 B16 2 l0 8 (F 2 l0 0) r16) 2 l0 11 l4) < 101 then if 0 ≤ (F16 2 l0 0) ∧ (F16 2 l0 0) < 100 then f_Layout_breakLines_34 K n (l5 + 1) ((zup4 (zup4 B16 2 l0 8 (F 2 l0 0) r16) 2 l0 9 (F16 2 l0 0) (((zup4 B16 2 l0 8 (F 2 l0 0) r16) 2 l0 10 l4) - ((zup4 B16 2 l0 8 (F 2 l0 0) r16) 2 l0 10 ((zup4 B16 2 l0 8 (F 2 l0 0) r16) 2 l0 11 l4)))) 2 l0 11 l4) l3 l0 l1 l2 (zup3 F16 2 l0 0 ((F16 2 l0 0) + 1)) (zup4 (zup4 B16 2 l0 8 (F 2 l0 0) r16) 2 l0 9 (F16 2 l0 0) (((zup4 B16 2 l0 8 (F 2 l0 0) r16) 2 l0 10 l4) - ((zup4 B16 2 l0 8 (F 2 l0 0) r16) 2 l0 10 ((zup4 B16 2 l0 8 (F 2 l0 0) r16) 2 l0 11 l4)))) else none else none else none) else none else none else none) else none else none) else none) = some (r, F9, B9) := hf
    refine lv_iload hx hb (D_21 W_prog_4_method_2_code_32 2 rfl rfl) (lv_at hl 0 rfl) ?_
    refine lv_bipush (v := iI 100) hx hb (D_16 W_prog_4_method_2_code_32 4 rfl rfl rfl) (by decide) ?_
    obtain ⟨g7, hf⟩ := gif hf
    refine zge (tgt := 135) hx hb g7 (by decide) (D_162 W_prog_4_method_2_code_32 6 rfl rfl rfl) (by decide) (fun h8 => ?_) (fun h8 => ?_)
    · replace hf := gpos hf h8
      exact b_Layout_breakLines_135 X hf hZ hS (lv_sub hl [2, 3, 4, 5] rfl)
    · replace hf := gneg hf h8
      refine lv_iload hx hb (D_21 W_prog_4_method_2_code_32 9 rfl rfl) (lv_at hl 1 rfl) ?_
      refine lv_iload_n hx hb (D_29 W_prog_4_method_2_code_32 11 rfl rfl) rfl (lv_at hl 2 rfl) ?_
      obtain ⟨g9, hf⟩ := gif hf
      obtain ⟨g10, hf⟩ := gif hf
      refine zge (tgt := 135) hx hb g9 g10 (D_162 W_prog_4_method_2_code_32 12 rfl rfl rfl) (by decide) (fun h11 => ?_) (fun h11 => ?_)
      · replace hf := gpos hf h11
        exact b_Layout_breakLines_135 X hf hZ hS (lv_sub hl [2, 3, 4, 5] rfl)
      · replace hf := gneg hf h11
        refine lv_aload_n hx hb (D_42 W_prog_4_method_2_code_32 15 rfl rfl) rfl (lv_at hl 3 rfl) ?_
        obtain ⟨g12, hf⟩ := gif hf
        refine zget (ci := 2) (C := RX2) (T := TX2) (v := .ref (ad 2 l0 (7 + 1))) (k := 7) hx hb hts inW_2 hown hK hZ g12.1 g12.2 rfl (by decide) k_6_224 rfl (D_180 W_prog_4_method_2_code_32 16 rfl rfl rfl) ?_
        refine lv_aload_n hx hb (D_42 W_prog_4_method_2_code_32 19 rfl rfl) rfl (lv_at hl 3 rfl) ?_
        refine zget (ci := 2) (C := RX2) (T := TX2) (v := .int (iI (F 2 l0 0))) (k := 0) hx hb hts inW_2 hown hK hZ g12.1 g12.2 rfl (by decide) k_6_215 rfl (D_180 W_prog_4_method_2_code_32 20 rfl rfl rfl) ?_
        refine lv_iload hx hb (D_21 W_prog_4_method_2_code_32 23 rfl rfl) (lv_at hl 1 rfl) ?_
        obtain ⟨g13, hf⟩ := gif hf
        refine zast (ci := 2) (k := 7) hx hb hK rfl hZ hS g12.1 g12.2 rfl (Nat.le_of_ble_eq_true rfl) g13.1 g13.2 (D_79 W_prog_4_method_2_code_32 25 rfl rfl) (fun H14 locs14 hZ14 hS14 => ?_)
        refine lv_aload_n hx hb (D_42 W_prog_4_method_2_code_32 26 rfl rfl) rfl (lv_at hl 3 rfl) ?_
        refine zget (ci := 2) (C := RX2) (T := TX2) (v := .ref (ad 2 l0 (8 + 1))) (k := 8) hx hb hts inW_2 hown hK hZ14 g12.1 g12.2 rfl (by decide) k_6_225 rfl (D_180 W_prog_4_method_2_code_32 27 rfl rfl rfl) ?_
        refine lv_aload_n hx hb (D_42 W_prog_4_method_2_code_32 30 rfl rfl) rfl (lv_at hl 3 rfl) ?_
        refine zget (ci := 2) (C := RX2) (T := TX2) (v := .int (iI (F 2 l0 0))) (k := 0) hx hb hts inW_2 hown hK hZ14 g12.1 g12.2 rfl (by decide) k_6_215 rfl (D_180 W_prog_4_method_2_code_32 31 rfl rfl rfl) ?_
        refine lv_aload_n hx hb (D_42 W_prog_4_method_2_code_64 2 rfl rfl) rfl (lv_at hl 3 rfl) ?_
        refine lv_aload_n hx hb (D_43 W_prog_4_method_2_code_64 3 rfl rfl) rfl (lv_at hl 4 rfl) ?_
        refine lv_iload hx hb (D_21 W_prog_4_method_2_code_64 4 rfl rfl) (lv_at hl 1 rfl) ?_
        refine lv_aload_n hx hb (D_42 W_prog_4_method_2_code_64 6 rfl rfl) rfl (lv_at hl 3 rfl) ?_
        refine zget (ci := 2) (C := RX2) (T := TX2) (v := .ref (ad 2 l0 (11 + 1))) (k := 11) hx hb hts inW_2 hown hK hZ14 g12.1 g12.2 rfl (by decide) k_6_228 rfl (D_180 W_prog_4_method_2_code_64 7 rfl rfl rfl) ?_
        refine lv_iload hx hb (D_21 W_prog_4_method_2_code_64 10 rfl rfl) (lv_at hl 1 rfl) ?_
        obtain ⟨g15, hf⟩ := gif hf
        refine zald (ci := 2) (k := 11) hx hb hK rfl hZ14 g12.1 g12.2 rfl (Nat.le_of_ble_eq_true rfl) g15.1 g15.2 (D_46 W_prog_4_method_2_code_64 12 rfl rfl) ?_
        obtain ⟨r16, F16, B16, hc16, hf⟩ := gbind hf
        refine va_calli (va_runV (As := [.ref (ad 6 l1 0), .int (iI l4), .int (iI ((zup4 B 2 l0 7 (F 2 l0 0) l4) 2 l0 11 l4))]) (rest := [.int (iI (F 2 l0 0)), .ref (ad 2 l0 (8 + 1))]) ⟨hx, hb, hml, hown, hts⟩ (c_Layout_widthOf (l := l) hc16) (cwV 3 hts (gdV k_7_59 k_7_61 ks_84 k_1_21 k_7_62) rfl rfl rfl (by decide +kernel) ⟨Nat.le_of_ble_eq_true rfl, Nat.le_of_ble_eq_true rfl⟩) (zPV X hZ14 hS14 (ci := 2) g12.1 g12.2 (r := (RX2, TX2, 13)) rfl [.ref (ad 6 l1 0), .int (iI l4), .int (iI ((zup4 B 2 l0 7 (F 2 l0 0) l4) 2 l0 11 l4))]) rfl rfl hl.1 rfl (lv_room (Nat.le_of_ble_eq_true rfl)) (D_182 W_prog_4_method_2_code_64 13 rfl rfl rfl) ⟨Nat.le_of_ble_eq_true rfl, Nat.le_of_ble_eq_true rfl⟩) hS14 (fun q _ h => zAin X hS14 q h) (zAin X hS14) (fun p16 u16 t16 H16 locs16 ht16 hv16 hw16 hB16 hz16 hk16 hS16 => ?_)
        have hZ16 := zBack X ht16 hB16
        subst hw16
        obtain ⟨g17, hf⟩ := gif hf
        refine zast (ci := 2) (k := 8) hx hb hK rfl hZ16 hS16 g12.1 g12.2 rfl (Nat.le_of_ble_eq_true rfl) g17.1 g17.2 (D_79 W_prog_4_method_2_code_64 16 rfl rfl) (fun H18 locs18 hZ18 hS18 => ?_)
        refine lv_aload_n hx hb (D_42 W_prog_4_method_2_code_64 17 rfl rfl) rfl (lv_at hl 3 rfl) ?_
        refine zget (ci := 2) (C := RX2) (T := TX2) (v := .ref (ad 2 l0 (9 + 1))) (k := 9) hx hb hts inW_2 hown hK hZ18 g12.1 g12.2 rfl (by decide) k_6_226 rfl (D_180 W_prog_4_method_2_code_64 18 rfl rfl rfl) ?_
        refine lv_aload_n hx hb (D_42 W_prog_4_method_2_code_64 21 rfl rfl) rfl (lv_at hl 3 rfl) ?_
        refine zget (ci := 2) (C := RX2) (T := TX2) (v := .int (iI (F16 2 l0 0))) (k := 0) hx hb hts inW_2 hown hK hZ18 g12.1 g12.2 rfl (by decide) k_6_215 rfl (D_180 W_prog_4_method_2_code_64 22 rfl rfl rfl) ?_
        refine lv_aload_n hx hb (D_42 W_prog_4_method_2_code_64 25 rfl rfl) rfl (lv_at hl 3 rfl) ?_
        refine zget (ci := 2) (C := RX2) (T := TX2) (v := .ref (ad 2 l0 (10 + 1))) (k := 10) hx hb hts inW_2 hown hK hZ18 g12.1 g12.2 rfl (by decide) k_6_227 rfl (D_180 W_prog_4_method_2_code_64 26 rfl rfl rfl) ?_
        refine lv_iload hx hb (D_21 W_prog_4_method_2_code_64 29 rfl rfl) (lv_at hl 1 rfl) ?_
        refine zlald (ci := 2) (k := 10) hx hb hK rfl hZ18 g12.1 g12.2 rfl (Nat.le_of_ble_eq_true rfl) g15.1 g15.2 (D_47 W_prog_4_method_2_code_64 31 rfl rfl) ?_
        refine lv_aload_n hx hb (D_42 W_prog_4_method_2_code_96 0 rfl rfl) rfl (lv_at hl 3 rfl) ?_
        refine zget (ci := 2) (C := RX2) (T := TX2) (v := .ref (ad 2 l0 (10 + 1))) (k := 10) hx hb hts inW_2 hown hK hZ18 g12.1 g12.2 rfl (by decide) k_6_227 rfl (D_180 W_prog_4_method_2_code_96 1 rfl rfl rfl) ?_
        refine lv_aload_n hx hb (D_42 W_prog_4_method_2_code_96 4 rfl rfl) rfl (lv_at hl 3 rfl) ?_
        refine zget (ci := 2) (C := RX2) (T := TX2) (v := .ref (ad 2 l0 (11 + 1))) (k := 11) hx hb hts inW_2 hown hK hZ18 g12.1 g12.2 rfl (by decide) k_6_228 rfl (D_180 W_prog_4_method_2_code_96 5 rfl rfl rfl) ?_
        refine lv_iload hx hb (D_21 W_prog_4_method_2_code_96 8 rfl rfl) (lv_at hl 1 rfl) ?_
        refine zald (ci := 2) (k := 11) hx hb hK rfl hZ18 g12.1 g12.2 rfl (Nat.le_of_ble_eq_true rfl) g15.1 g15.2 (D_46 W_prog_4_method_2_code_96 10 rfl rfl) ?_
        obtain ⟨g19, hf⟩ := gif hf
        refine zlald (ci := 2) (k := 10) hx hb hK rfl hZ18 g12.1 g12.2 rfl (Nat.le_of_ble_eq_true rfl) g19.1 g19.2 (D_47 W_prog_4_method_2_code_96 11 rfl rfl) ?_
        refine zlsub hx hb (D_101 W_prog_4_method_2_code_96 12 rfl rfl) ?_
        obtain ⟨g20, hf⟩ := gif hf
        refine zlast (ci := 2) (k := 9) hx hb hK rfl hZ18 hS18 g12.1 g12.2 rfl (Nat.le_of_ble_eq_true rfl) g20.1 g20.2 (D_80 W_prog_4_method_2_code_96 13 rfl rfl) (fun H21 locs21 hZ21 hS21 => ?_)
        refine lv_aload_n hx hb (D_42 W_prog_4_method_2_code_96 14 rfl rfl) rfl (lv_at hl 3 rfl) ?_
        refine zget (ci := 2) (C := RX2) (T := TX2) (v := .ref (ad 2 l0 (11 + 1))) (k := 11) hx hb hts inW_2 hown hK hZ21 g12.1 g12.2 rfl (by decide) k_6_228 rfl (D_180 W_prog_4_method_2_code_96 15 rfl rfl rfl) ?_
        refine lv_iload hx hb (D_21 W_prog_4_method_2_code_96 18 rfl rfl) (lv_at hl 1 rfl) ?_
        refine zald (ci := 2) (k := 11) hx hb hK rfl hZ21 g12.1 g12.2 rfl (Nat.le_of_ble_eq_true rfl) g15.1 g15.2 (D_46 W_prog_4_method_2_code_96 20 rfl rfl) ?_
        refine lv_istore (lv' := [(4, .int (iI ((zup4 (zup4 B16 2 l0 8 (F 2 l0 0) r16) 2 l0 9 (F16 2 l0 0) (((zup4 B16 2 l0 8 (F 2 l0 0) r16) 2 l0 10 l4) - ((zup4 B16 2 l0 8 (F 2 l0 0) r16) 2 l0 10 ((zup4 B16 2 l0 8 (F 2 l0 0) r16) 2 l0 11 l4)))) 2 l0 11 l4))), (5, .int (iI l5)), (3, .int (iI l3)), (0, .ref (ad 2 l0 0)), (1, .ref (ad 6 l1 0)), (2, .int (iI l2))]) hx hb (D_54 W_prog_4_method_2_code_96 21 rfl rfl) hl (by decide) rfl (fun ls hl => ?_)
        refine lv_aload_n hx hb (D_42 W_prog_4_method_2_code_96 23 rfl rfl) rfl (lv_at hl 3 rfl) ?_
        refine lv_dup hx hb (D_89 W_prog_4_method_2_code_96 24 rfl rfl) rfl ?_
        refine zget (ci := 2) (C := RX2) (T := TX2) (v := .int (iI (F16 2 l0 0))) (k := 0) hx hb hts inW_2 hown hK hZ21 g12.1 g12.2 rfl (by decide) k_6_215 rfl (D_180 W_prog_4_method_2_code_96 25 rfl rfl rfl) ?_
        refine lv_iconst (v := iI 1) hx hb (D_4 W_prog_4_method_2_code_96 28 rfl rfl) rfl ?_
        refine zadd hx hb (D_96 W_prog_4_method_2_code_96 29 rfl rfl) ?_
        refine zput (ci := 2) (C := RX2) (T := TX2) (k := 0) (v := ((F16 2 l0 0) + 1)) (w := .int (iI ((F16 2 l0 0) + 1))) hx hb hts inW_2 tyX2 tyX2_ok nmX2 hown hK hZ21 hS21 g12.1 g12.2 rfl (by decide) k_6_215 rfl (fun G h => congrArg (fun q => Value.int (iI q)) h) rfl rfl (zno (by decide)) (D_181 W_prog_4_method_2_code_96 30 rfl rfl rfl) (fun H22 locs22 hZ22 hS22 => ?_)
        refine lv_iinc (v := iI (l5 + 1)) (lv' := [(5, .int (iI (l5 + 1))), (4, .int (iI ((zup4 (zup4 B16 2 l0 8 (F 2 l0 0) r16) 2 l0 9 (F16 2 l0 0) (((zup4 B16 2 l0 8 (F 2 l0 0) r16) 2 l0 10 l4) - ((zup4 B16 2 l0 8 (F 2 l0 0) r16) 2 l0 10 ((zup4 B16 2 l0 8 (F 2 l0 0) r16) 2 l0 11 l4)))) 2 l0 11 l4))), (3, .int (iI l3)), (0, .ref (ad 2 l0 0)), (1, .ref (ad 6 l1 0)), (2, .int (iI l2))]) hx hb d_4_2_129 hl (k := 1) rfl (iI_add _ 1) (by decide) rfl (fun ls hl => ?_)
        refine lv_goto (tgt := 34) hx hb (D_167 W_prog_4_method_2_code_128 4 rfl rfl rfl) (by decide) ?_
        exact ih hf hZ22 hS22 (lv_sub hl [0, 1, 2, 3, 4, 5] rfl)

def f_Layout_breakLines (K : zK) (l0 : Int) (l1 : Int) (l2 : Int) (F : zF) (B : zB) : zO := if 0 ≤ l1 ∧ l1 < K.2 6 then if r32 (F 6 l1 7) then if 0 ≤ l0 ∧ l0 < K.2 2 then zbind (f_Layout_setColumns K l0 l1 (zmin (F 6 l1 7) 100) F B) (fun r4 F4 B4 => zbind (f_Layout_choose K l0 l1 (zmin (F 6 l1 7) 100) l2 F4 B4) (fun r5 F5 B5 => f_Layout_breakLines_34 K K.1 0 0 (zmin (F 6 l1 7) 100) l0 l1 l2 (zup3 F5 2 l0 0 0) B5)) else none else none else none
set_option maxHeartbeats 4000000 in
set_option maxRecDepth 100000 in
theorem c_Layout_breakLines {l : Launch} {D : va_G} {ca : Nat → ClassId} {ad : Nat → Int → Nat → Nat} {L : List Nat} {aS vS : Nat → Nat} {sz : Nat} {K : zK}  {l0 : Int} {l1 : Int} {l2 : Int} {F F9 : zF} {B B9 : zB} {r : Int} (hf : f_Layout_breakLines K l0 l1 l2 F B = some (r, F9, B9)) : Met l ({ cls := "StaveHouse$Layout", name := "breakLines", desc := "(LStaveHouse$Piece;I)I" } : Jvm.MethodName) (Cond.code ({ cls := "StaveHouse$Layout", name := "breakLines", desc := "(LStaveHouse$Piece;I)I" } : Jvm.MethodName) prog_4_method_2_code 6 (Option.some Jvm.ClassFile.FieldType.int) :: wAll) ({ frames := 4, cells := 0, slots := 0, locals := 101 } : Room) (va_Pc [.ref (ad 2 l0 0), .ref (ad 6 l1 0), .int (iI l2)] (zPre D ca ad lnC K.2 L aS vS F B sz)) (Q_Layout_breakLines K D ca ad L r F9 B9 (zA L sz)) 0 0 (zA L sz) := by
  refine zMet (Qc := Q_Layout_breakLines K D ca ad L r F9 B9) (lv := [(0, .ref (ad 2 l0 0)), (1, .ref (ad 6 l1 0)), (2, .int (iI l2))]) (by decide) (Nat.le_of_ble_eq_true rfl) rfl (fun A p e s m below meth c ls X hZ hS hl => ?_)
  obtain ⟨hx, hb, hr, hml, hown, hts, hlk, hK, hA, hL, hX⟩ := id X
  replace hf : (if 0 ≤ l1 ∧ l1 < K.2 6 then if r32 (F 6 l1 7) then if 0 ≤ l0 ∧ l0 < K.2 2 then zbind (f_Layout_setColumns K l0 l1 (zmin (F 6 l1 7) 100) F B) (fun r4 F4 B4 => zbind (f_Layout_choose K l0 l1 (zmin (F 6 l1 7) 100) l2 F4 B4) (fun r5 F5 B5 => f_Layout_breakLines_34 K K.1 0 0 (zmin (F 6 l1 7) 100) l0 l1 l2 (zup3 F5 2 l0 0 0) B5)) else none else none else none) = some (r, F9, B9) := hf
  refine lv_aload_n hx hb (D_43 W_prog_4_method_2_code_0 0 rfl rfl) rfl (lv_at hl 1 rfl) ?_
  obtain ⟨g1, hf⟩ := gif hf
  refine zget (ci := 6) (C := RX6) (T := TX6) (v := .int (iI (F 6 l1 7))) (k := 7) hx hb hts inW_6 hown hK hZ g1.1 g1.2 rfl (by decide) k_2_221 rfl (D_180 W_prog_4_method_2_code_0 1 rfl rfl rfl) ?_
  refine lv_bipush (v := iI 100) hx hb (D_16 W_prog_4_method_2_code_0 4 rfl rfl rfl) (by decide) ?_
  obtain ⟨g2, hf⟩ := gif hf
  refine va_mmin hx hb (by rw [hml]; exact hl.1.symm) hown (hts _ k_7_21) (hts _ k_3_97) (hts _ k_1_3) (hts _ k_3_98) (Nat.le_of_ble_eq_true rfl) (Nat.le_of_ble_eq_true rfl) (Nat.le_of_ble_eq_true rfl) (Nat.le_of_ble_eq_true rfl) (D_184 W_prog_4_method_2_code_0 6 rfl rfl rfl) ?_
  rw [zmin_e g2 (by decide)]
  refine lv_istore_n (lv' := [(3, .int (iI (zmin (F 6 l1 7) 100))), (0, .ref (ad 2 l0 0)), (1, .ref (ad 6 l1 0)), (2, .int (iI l2))]) hx hb (D_62 W_prog_4_method_2_code_0 9 rfl rfl) rfl hl (by decide) rfl (fun ls hl => ?_)
  refine lv_aload_n hx hb (D_42 W_prog_4_method_2_code_0 10 rfl rfl) rfl (lv_at hl 1 rfl) ?_
  refine lv_aload_n hx hb (D_43 W_prog_4_method_2_code_0 11 rfl rfl) rfl (lv_at hl 2 rfl) ?_
  refine lv_iload_n hx hb (D_29 W_prog_4_method_2_code_0 12 rfl rfl) rfl (lv_at hl 0 rfl) ?_
  obtain ⟨g3, hf⟩ := gif hf
  obtain ⟨r4, F4, B4, hc4, hf⟩ := gbind hf
  refine va_callv (va_runV (As := [.ref (ad 6 l1 0), .int (iI (zmin (F 6 l1 7) 100))]) (rest := []) ⟨hx, hb, hml, hown, hts⟩ (c_Layout_setColumns (l := l) hc4) (cwV 2 hts (gdV k_7_22 k_7_24 ks_79 k_1_21 k_7_25) rfl rfl rfl (by decide +kernel) ⟨Nat.le_of_ble_eq_true rfl, Nat.le_of_ble_eq_true rfl⟩) (zPV X hZ hS (ci := 2) g3.1 g3.2 (r := (RX2, TX2, 13)) rfl [.ref (ad 6 l1 0), .int (iI (zmin (F 6 l1 7) 100))]) rfl rfl hl.1 rfl (lv_room (Nat.le_of_ble_eq_true rfl)) (D_182 W_prog_4_method_2_code_0 13 rfl rfl rfl) ⟨Nat.le_of_ble_eq_true rfl, Nat.le_of_ble_eq_true rfl⟩) hS (fun q _ h => zAin X hS q h) (zAin X hS) (fun u4 t4 H4 locs4 ht4 hv4 hw4 hB4 hz4 hk4 hS4 => ?_)
  have hZ4 := zBack X ht4 hB4
  refine lv_aload_n hx hb (D_42 W_prog_4_method_2_code_0 16 rfl rfl) rfl (lv_at hl 1 rfl) ?_
  refine lv_aload_n hx hb (D_43 W_prog_4_method_2_code_0 17 rfl rfl) rfl (lv_at hl 2 rfl) ?_
  refine lv_iload_n hx hb (D_29 W_prog_4_method_2_code_0 18 rfl rfl) rfl (lv_at hl 0 rfl) ?_
  refine lv_iload_n hx hb (D_28 W_prog_4_method_2_code_0 19 rfl rfl) rfl (lv_at hl 3 rfl) ?_
  obtain ⟨r5, F5, B5, hc5, hf⟩ := gbind hf
  refine va_callv (va_runV (As := [.ref (ad 6 l1 0), .int (iI (zmin (F 6 l1 7) 100)), .int (iI l2)]) (rest := []) ⟨hx, hb, hml, hown, hts⟩ (c_Layout_choose (l := l) hc5) (cwV 3 hts (gdV k_7_46 k_7_48 ks_83 k_1_21 k_7_49) rfl rfl rfl (by decide +kernel) ⟨Nat.le_of_ble_eq_true rfl, Nat.le_of_ble_eq_true rfl⟩) (zPV X hZ4 hS4 (ci := 2) g3.1 g3.2 (r := (RX2, TX2, 13)) rfl [.ref (ad 6 l1 0), .int (iI (zmin (F 6 l1 7) 100)), .int (iI l2)]) rfl rfl hl.1 rfl (lv_room (Nat.le_of_ble_eq_true rfl)) (D_182 W_prog_4_method_2_code_0 20 rfl rfl rfl) ⟨Nat.le_of_ble_eq_true rfl, Nat.le_of_ble_eq_true rfl⟩) hS4 (fun q _ h => zAin X hS4 q h) (zAin X hS4) (fun u5 t5 H5 locs5 ht5 hv5 hw5 hB5 hz5 hk5 hS5 => ?_)
  have hZ5 := zBack X ht5 hB5
  refine lv_aload_n hx hb (D_42 W_prog_4_method_2_code_0 23 rfl rfl) rfl (lv_at hl 1 rfl) ?_
  refine lv_iconst (v := iI 0) hx hb (D_3 W_prog_4_method_2_code_0 24 rfl rfl) rfl ?_
  refine zput (ci := 2) (C := RX2) (T := TX2) (k := 0) (v := 0) (w := .int (iI 0)) hx hb hts inW_2 tyX2 tyX2_ok nmX2 hown hK hZ5 hS5 g3.1 g3.2 rfl (by decide) k_6_215 rfl (fun G h => congrArg (fun q => Value.int (iI q)) h) rfl rfl (zno (by decide)) (D_181 W_prog_4_method_2_code_0 25 rfl rfl rfl) (fun H6 locs6 hZ6 hS6 => ?_)
  refine lv_iconst (v := iI 0) hx hb (D_3 W_prog_4_method_2_code_0 28 rfl rfl) rfl ?_
  refine lv_istore (lv' := [(4, .int (iI 0)), (3, .int (iI (zmin (F 6 l1 7) 100))), (0, .ref (ad 2 l0 0)), (1, .ref (ad 6 l1 0)), (2, .int (iI l2))]) hx hb (D_54 W_prog_4_method_2_code_0 29 rfl rfl) hl (by decide) rfl (fun ls hl => ?_)
  refine lv_iconst (v := iI 0) hx hb (D_3 W_prog_4_method_2_code_0 31 rfl rfl) rfl ?_
  refine lv_istore (lv' := [(5, .int (iI 0)), (4, .int (iI 0)), (3, .int (iI (zmin (F 6 l1 7) 100))), (0, .ref (ad 2 l0 0)), (1, .ref (ad 6 l1 0)), (2, .int (iI l2))]) hx hb (D_54 W_prog_4_method_2_code_32 0 rfl rfl) hl (by decide) rfl (fun ls hl => ?_)
  exact b_Layout_breakLines_34 X hf hZ6 hS6 (lv_sub hl [0, 1, 2, 3, 4, 5] rfl)

abbrev Q_Performance_writeHead (K : zK) (D : va_G) (ca : Nat → ClassId) (ad : Nat → Int → Nat → Nat) (L : List Nat) (r : Int) (F : zF) (B : zB) (A : Nat → Prop) : Array Value → State → Outcome → State → Prop := va_Qv (S := Unit) (fun _ => True) (fun _ => zPo D ca ad lnC K.2 L F B A) A
def f_Performance_writeHead (K : zK) (l0 : Int) (l1 : Int) (F : zF) (B : zB) : zO := zbind (f_Performance_beginTrack K l1 F B) (fun r1 F1 B1 => zbind (f_Performance_putMeta K l1 88 4 F1 B1) (fun r2 F2 B2 => if 0 ≤ l0 ∧ l0 < K.2 6 then if 0 ≤ l1 ∧ l1 < K.2 0 then zbind (f_ByteRow_put K l1 (F2 6 l0 4) F2 B2) (fun r5 F5 B5 => zbind (f_Integer_bitCount K ((F5 6 l0 5) - 1) F5 B5) (fun r6 F6 B6 => zbind (f_ByteRow_put K l1 r6 F6 B6) (fun r7 F7 B7 => zbind (f_ByteRow_put K l1 24 F7 B7) (fun r8 F8 B8 => zbind (f_ByteRow_put K l1 8 F8 B8) (fun r9 F9 B9 => zbind (f_Performance_putMeta K l1 89 2 F9 B9) (fun r10 F10 B10 => zbind (f_ByteRow_put K l1 (F10 6 l0 2) F10 B10) (fun r11 F11 B11 => zbind (f_ByteRow_put K l1 (F11 6 l0 3) F11 B11) (fun r12 F12 B12 => zbind (f_Performance_putMeta K l1 81 3 F12 B12) (fun r13 F13 B13 => if r32 (F13 6 l0 6) then if ¬ iI (zmax (F13 6 l0 6) 1) = 0 then zbind (f_ByteRow_putWide K l1 (zdv 60000000 (zmax (F13 6 l0 6) 1)) 3 F13 B13) (fun r16 F16 B16 => zbind (f_Performance_endTrack K l1 r1 F16 B16) (fun r17 F17 B17 => some (0, F17, B17))) else none else none))))))))) else none else none))
set_option maxHeartbeats 4000000 in
set_option maxRecDepth 100000 in
theorem c_Performance_writeHead {l : Launch} {D : va_G} {ca : Nat → ClassId} {ad : Nat → Int → Nat → Nat} {L : List Nat} {aS vS : Nat → Nat} {sz : Nat} {K : zK}  {l0 : Int} {l1 : Int} {F F9 : zF} {B B9 : zB} {r : Int} (hf : f_Performance_writeHead K l0 l1 F B = some (r, F9, B9)) : Met l ({ cls := "StaveHouse$Performance", name := "writeHead", desc := "(LStaveHouse$Piece;LStaveHouse$ByteRow;)V" } : Jvm.MethodName) (Cond.code ({ cls := "StaveHouse$Performance", name := "writeHead", desc := "(LStaveHouse$Piece;LStaveHouse$ByteRow;)V" } : Jvm.MethodName) prog_7_method_21_code 3 (Option.none : Option Jvm.ClassFile.FieldType) :: wAll) ({ frames := 6, cells := 0, slots := 0, locals := 127 } : Room) (va_Pc [.ref (ad 6 l0 0), .ref (ad 0 l1 0)] (zPre D ca ad lnC K.2 L aS vS F B sz)) (Q_Performance_writeHead K D ca ad L r F9 B9 (zA L sz)) 0 0 (zA L sz) := by
  refine zMet (Qc := Q_Performance_writeHead K D ca ad L r F9 B9) (lv := [(0, .ref (ad 6 l0 0)), (1, .ref (ad 0 l1 0))]) (by decide) (Nat.le_of_ble_eq_true rfl) rfl (fun A p e s m below meth c ls X hZ hS hl => ?_)
  obtain ⟨hx, hb, hr, hml, hown, hts, hlk, hK, hA, hL, hX⟩ := id X
  replace hf : (zbind (f_Performance_beginTrack K l1 F B) (fun r1 F1 B1 => zbind (f_Performance_putMeta K l1 88 4 F1 B1) (fun r2 F2 B2 => if 0 ≤ l0 ∧ l0 < K.2 6 then if 0 ≤ l1 ∧ l1 < K.2 0 then zbind (f_ByteRow_put K l1 (F2 6 l0 4) F2 B2) (fun r5 F5 B5 => zbind (f_Integer_bitCount K ((F5 6 l0 5) - 1) F5 B5) (fun r6 F6 B6 => zbind (f_ByteRow_put K l1 r6 F6 B6) (fun r7 F7 B7 => zbind (f_ByteRow_put K l1 24 F7 B7) (fun r8 F8 B8 => zbind (f_ByteRow_put K l1 8 F8 B8) (fun r9 F9 B9 => zbind (f_Performance_putMeta K l1 89 2 F9 B9) (fun r10 F10 B10 => zbind (f_ByteRow_put K l1 (F10 6 l0 2) F10 B10) (fun r11 F11 B11 => zbind (f_ByteRow_put K l1 (F11 6 l0 3) F11 B11) (fun r12 F12 B12 => zbind (f_Performance_putMeta K l1 81 3 F12 B12) (fun r13 F13 B13 => if r32 (F13 6 l0 6) then if ¬ iI (zmax (F13 6 l0 6) 1) = 0 then zbind (f_ByteRow_putWide K l1 (zdv 60000000 (zmax (F13 6 l0 6) 1)) 3 F13 B13) (fun r16 F16 B16 => zbind (f_Performance_endTrack K l1 r1 F16 B16) (fun r17 F17 B17 => some (0, F17, B17))) else none else none))))))))) else none else none))) = some (r, F9, B9) := hf
  refine lv_aload_n hx hb (D_43 W_prog_7_method_21_code_0 0 rfl rfl) rfl (lv_at hl 1 rfl) ?_
  obtain ⟨r1, F1, B1, hc1, hf⟩ := gbind hf
  refine va_calli (va_runS (As := [.ref (ad 0 l1 0)]) (rest := []) ⟨hx, hb, hml, hown, hts⟩ (c_Performance_beginTrack (l := l) hc1) (va_cwS 1 hts (gdS k_7_161 k_7_162 k_1_20 k_7_163) rfl rfl rfl (by decide +kernel) ⟨Nat.le_of_ble_eq_true rfl, Nat.le_of_ble_eq_true rfl⟩) (zPS X hZ hS [.ref (ad 0 l1 0)]) rfl rfl hl.1 rfl (lv_room (Nat.le_of_ble_eq_true rfl)) (D_184 W_prog_7_method_21_code_0 1 rfl rfl rfl) ⟨Nat.le_of_ble_eq_true rfl, Nat.le_of_ble_eq_true rfl⟩) hS (fun q _ h => zAin X hS q h) (zAin X hS) (fun p1 u1 t1 H1 locs1 ht1 hv1 hw1 hB1 hz1 hk1 hS1 => ?_)
  have hZ1 := zBack X ht1 hB1
  subst hw1
  refine lv_istore_n (lv' := [(2, .int (iI r1)), (0, .ref (ad 6 l0 0)), (1, .ref (ad 0 l1 0))]) hx hb (D_61 W_prog_7_method_21_code_0 4 rfl rfl) rfl hl (by decide) rfl (fun ls hl => ?_)
  refine lv_aload_n hx hb (D_43 W_prog_7_method_21_code_0 5 rfl rfl) rfl (lv_at hl 2 rfl) ?_
  refine lv_bipush (v := iI 88) hx hb (D_16 W_prog_7_method_21_code_0 6 rfl rfl rfl) (by decide) ?_
  refine lv_iconst (v := iI 4) hx hb (D_7 W_prog_7_method_21_code_0 8 rfl rfl) rfl ?_
  obtain ⟨r2, F2, B2, hc2, hf⟩ := gbind hf
  refine va_callv (va_runS (As := [.ref (ad 0 l1 0), .int (iI 88), .int (iI 4)]) (rest := []) ⟨hx, hb, hml, hown, hts⟩ (c_Performance_putMeta (l := l) hc2) (va_cwS 3 hts (gdS k_7_165 k_7_166 k_1_20 k_7_167) rfl rfl rfl (by decide +kernel) ⟨Nat.le_of_ble_eq_true rfl, Nat.le_of_ble_eq_true rfl⟩) (zPS X hZ1 hS1 [.ref (ad 0 l1 0), .int (iI 88), .int (iI 4)]) rfl rfl hl.1 rfl (lv_room (Nat.le_of_ble_eq_true rfl)) (D_184 W_prog_7_method_21_code_0 9 rfl rfl rfl) ⟨Nat.le_of_ble_eq_true rfl, Nat.le_of_ble_eq_true rfl⟩) hS1 (fun q _ h => zAin X hS1 q h) (zAin X hS1) (fun u2 t2 H2 locs2 ht2 hv2 hw2 hB2 hz2 hk2 hS2 => ?_)
  have hZ2 := zBack X ht2 hB2
  refine lv_aload_n hx hb (D_43 W_prog_7_method_21_code_0 12 rfl rfl) rfl (lv_at hl 2 rfl) ?_
  refine lv_aload_n hx hb (D_42 W_prog_7_method_21_code_0 13 rfl rfl) rfl (lv_at hl 1 rfl) ?_
  obtain ⟨g3, hf⟩ := gif hf
  refine zget (ci := 6) (C := RX6) (T := TX6) (v := .int (iI (F2 6 l0 4))) (k := 4) hx hb hts inW_6 hown hK hZ2 g3.1 g3.2 rfl (by decide) k_2_211 rfl (D_180 W_prog_7_method_21_code_0 14 rfl rfl rfl) ?_
  obtain ⟨g4, hf⟩ := gif hf
  obtain ⟨r5, F5, B5, hc5, hf⟩ := gbind hf
  refine va_callv (va_runV (As := [.int (iI (F2 6 l0 4))]) (rest := []) ⟨hx, hb, hml, hown, hts⟩ (c_ByteRow_put (l := l) hc5) (cwV 1 hts (gdV k_7_168 k_2_171 k_2_172 k_1_2 k_2_173) rfl rfl rfl (by decide +kernel) ⟨Nat.le_of_ble_eq_true rfl, Nat.le_of_ble_eq_true rfl⟩) (zPV X hZ2 hS2 (ci := 0) g4.1 g4.2 (r := (RX0, TX0, 3)) rfl [.int (iI (F2 6 l0 4))]) rfl rfl hl.1 rfl (lv_room (Nat.le_of_ble_eq_true rfl)) (D_182 W_prog_7_method_21_code_0 17 rfl rfl rfl) ⟨Nat.le_of_ble_eq_true rfl, Nat.le_of_ble_eq_true rfl⟩) hS2 (fun q _ h => zAin X hS2 q h) (zAin X hS2) (fun u5 t5 H5 locs5 ht5 hv5 hw5 hB5 hz5 hk5 hS5 => ?_)
  have hZ5 := zBack X ht5 hB5
  refine lv_aload_n hx hb (D_43 W_prog_7_method_21_code_0 20 rfl rfl) rfl (lv_at hl 2 rfl) ?_
  refine lv_aload_n hx hb (D_42 W_prog_7_method_21_code_0 21 rfl rfl) rfl (lv_at hl 1 rfl) ?_
  refine zget (ci := 6) (C := RX6) (T := TX6) (v := .int (iI (F5 6 l0 5))) (k := 5) hx hb hts inW_6 hown hK hZ5 g3.1 g3.2 rfl (by decide) k_2_216 rfl (D_180 W_prog_7_method_21_code_0 22 rfl rfl rfl) ?_
  refine lv_iconst (v := iI 1) hx hb (D_4 W_prog_7_method_21_code_0 25 rfl rfl) rfl ?_
  refine zsub hx hb (D_100 W_prog_7_method_21_code_0 26 rfl rfl) ?_
  obtain ⟨r6, F6, B6, hc6, hf⟩ := gbind hf
  refine va_calli (va_runS (As := [.int (iI ((F5 6 l0 5) - 1))]) (rest := [.ref (ad 0 l1 0)]) ⟨hx, hb, hml, hown, hts⟩ (c_Integer_bitCount (l := l) hc6) (va_cwS 1 hts (gdS k_7_169 k_7_170 k_1_22 k_7_171) rfl rfl rfl (by decide +kernel) ⟨Nat.le_of_ble_eq_true rfl, Nat.le_of_ble_eq_true rfl⟩) (zPS X hZ5 hS5 [.int (iI ((F5 6 l0 5) - 1))]) rfl rfl hl.1 rfl (lv_room (Nat.le_of_ble_eq_true rfl)) (D_184 W_prog_7_method_21_code_0 27 rfl rfl rfl) ⟨Nat.le_of_ble_eq_true rfl, Nat.le_of_ble_eq_true rfl⟩) hS5 (fun q _ h => zAin X hS5 q h) (zAin X hS5) (fun p6 u6 t6 H6 locs6 ht6 hv6 hw6 hB6 hz6 hk6 hS6 => ?_)
  have hZ6 := zBack X ht6 hB6
  subst hw6
  obtain ⟨r7, F7, B7, hc7, hf⟩ := gbind hf
  refine va_callv (va_runV (As := [.int (iI r6)]) (rest := []) ⟨hx, hb, hml, hown, hts⟩ (c_ByteRow_put (l := l) hc7) (cwV 1 hts (gdV k_7_168 k_2_171 k_2_172 k_1_2 k_2_173) rfl rfl rfl (by decide +kernel) ⟨Nat.le_of_ble_eq_true rfl, Nat.le_of_ble_eq_true rfl⟩) (zPV X hZ6 hS6 (ci := 0) g4.1 g4.2 (r := (RX0, TX0, 3)) rfl [.int (iI r6)]) rfl rfl hl.1 rfl (lv_room (Nat.le_of_ble_eq_true rfl)) (D_182 W_prog_7_method_21_code_0 30 rfl rfl rfl) ⟨Nat.le_of_ble_eq_true rfl, Nat.le_of_ble_eq_true rfl⟩) hS6 (fun q _ h => zAin X hS6 q h) (zAin X hS6) (fun u7 t7 H7 locs7 ht7 hv7 hw7 hB7 hz7 hk7 hS7 => ?_)
  have hZ7 := zBack X ht7 hB7
  refine lv_aload_n hx hb (D_43 W_prog_7_method_21_code_32 1 rfl rfl) rfl (lv_at hl 2 rfl) ?_
  refine lv_bipush (v := iI 24) hx hb (D_16 W_prog_7_method_21_code_32 2 rfl rfl rfl) (by decide) ?_
  obtain ⟨r8, F8, B8, hc8, hf⟩ := gbind hf
  refine va_callv (va_runV (As := [.int (iI 24)]) (rest := []) ⟨hx, hb, hml, hown, hts⟩ (c_ByteRow_put (l := l) hc8) (cwV 1 hts (gdV k_7_168 k_2_171 k_2_172 k_1_2 k_2_173) rfl rfl rfl (by decide +kernel) ⟨Nat.le_of_ble_eq_true rfl, Nat.le_of_ble_eq_true rfl⟩) (zPV X hZ7 hS7 (ci := 0) g4.1 g4.2 (r := (RX0, TX0, 3)) rfl [.int (iI 24)]) rfl rfl hl.1 rfl (lv_room (Nat.le_of_ble_eq_true rfl)) (D_182 W_prog_7_method_21_code_32 4 rfl rfl rfl) ⟨Nat.le_of_ble_eq_true rfl, Nat.le_of_ble_eq_true rfl⟩) hS7 (fun q _ h => zAin X hS7 q h) (zAin X hS7) (fun u8 t8 H8 locs8 ht8 hv8 hw8 hB8 hz8 hk8 hS8 => ?_)
  have hZ8 := zBack X ht8 hB8
  refine lv_aload_n hx hb (D_43 W_prog_7_method_21_code_32 7 rfl rfl) rfl (lv_at hl 2 rfl) ?_
  refine lv_bipush (v := iI 8) hx hb (D_16 W_prog_7_method_21_code_32 8 rfl rfl rfl) (by decide) ?_
  obtain ⟨r9, F9, B9, hc9, hf⟩ := gbind hf
  refine va_callv (va_runV (As := [.int (iI 8)]) (rest := []) ⟨hx, hb, hml, hown, hts⟩ (c_ByteRow_put (l := l) hc9) (cwV 1 hts (gdV k_7_168 k_2_171 k_2_172 k_1_2 k_2_173) rfl rfl rfl (by decide +kernel) ⟨Nat.le_of_ble_eq_true rfl, Nat.le_of_ble_eq_true rfl⟩) (zPV X hZ8 hS8 (ci := 0) g4.1 g4.2 (r := (RX0, TX0, 3)) rfl [.int (iI 8)]) rfl rfl hl.1 rfl (lv_room (Nat.le_of_ble_eq_true rfl)) (D_182 W_prog_7_method_21_code_32 10 rfl rfl rfl) ⟨Nat.le_of_ble_eq_true rfl, Nat.le_of_ble_eq_true rfl⟩) hS8 (fun q _ h => zAin X hS8 q h) (zAin X hS8) (fun u9 t9 H9 locs9 ht9 hv9 hw9 hB9 hz9 hk9 hS9 => ?_)
  have hZ9 := zBack X ht9 hB9
  refine lv_aload_n hx hb (D_43 W_prog_7_method_21_code_32 13 rfl rfl) rfl (lv_at hl 2 rfl) ?_
  refine lv_bipush (v := iI 89) hx hb (D_16 W_prog_7_method_21_code_32 14 rfl rfl rfl) (by decide) ?_
  refine lv_iconst (v := iI 2) hx hb (D_5 W_prog_7_method_21_code_32 16 rfl rfl) rfl ?_
  obtain ⟨r10, F10, B10, hc10, hf⟩ := gbind hf
  refine va_callv (va_runS (As := [.ref (ad 0 l1 0), .int (iI 89), .int (iI 2)]) (rest := []) ⟨hx, hb, hml, hown, hts⟩ (c_Performance_putMeta (l := l) hc10) (va_cwS 3 hts (gdS k_7_165 k_7_166 k_1_20 k_7_167) rfl rfl rfl (by decide +kernel) ⟨Nat.le_of_ble_eq_true rfl, Nat.le_of_ble_eq_true rfl⟩) (zPS X hZ9 hS9 [.ref (ad 0 l1 0), .int (iI 89), .int (iI 2)]) rfl rfl hl.1 rfl (lv_room (Nat.le_of_ble_eq_true rfl)) (D_184 W_prog_7_method_21_code_32 17 rfl rfl rfl) ⟨Nat.le_of_ble_eq_true rfl, Nat.le_of_ble_eq_true rfl⟩) hS9 (fun q _ h => zAin X hS9 q h) (zAin X hS9) (fun u10 t10 H10 locs10 ht10 hv10 hw10 hB10 hz10 hk10 hS10 => ?_)
  have hZ10 := zBack X ht10 hB10
  refine lv_aload_n hx hb (D_43 W_prog_7_method_21_code_32 20 rfl rfl) rfl (lv_at hl 2 rfl) ?_
  refine lv_aload_n hx hb (D_42 W_prog_7_method_21_code_32 21 rfl rfl) rfl (lv_at hl 1 rfl) ?_
  refine zget (ci := 6) (C := RX6) (T := TX6) (v := .int (iI (F10 6 l0 2))) (k := 2) hx hb hts inW_6 hown hK hZ10 g3.1 g3.2 rfl (by decide) k_2_199 rfl (D_180 W_prog_7_method_21_code_32 22 rfl rfl rfl) ?_
  obtain ⟨r11, F11, B11, hc11, hf⟩ := gbind hf
  refine va_callv (va_runV (As := [.int (iI (F10 6 l0 2))]) (rest := []) ⟨hx, hb, hml, hown, hts⟩ (c_ByteRow_put (l := l) hc11) (cwV 1 hts (gdV k_7_168 k_2_171 k_2_172 k_1_2 k_2_173) rfl rfl rfl (by decide +kernel) ⟨Nat.le_of_ble_eq_true rfl, Nat.le_of_ble_eq_true rfl⟩) (zPV X hZ10 hS10 (ci := 0) g4.1 g4.2 (r := (RX0, TX0, 3)) rfl [.int (iI (F10 6 l0 2))]) rfl rfl hl.1 rfl (lv_room (Nat.le_of_ble_eq_true rfl)) (D_182 W_prog_7_method_21_code_32 25 rfl rfl rfl) ⟨Nat.le_of_ble_eq_true rfl, Nat.le_of_ble_eq_true rfl⟩) hS10 (fun q _ h => zAin X hS10 q h) (zAin X hS10) (fun u11 t11 H11 locs11 ht11 hv11 hw11 hB11 hz11 hk11 hS11 => ?_)
  have hZ11 := zBack X ht11 hB11
  refine lv_aload_n hx hb (D_43 W_prog_7_method_21_code_32 28 rfl rfl) rfl (lv_at hl 2 rfl) ?_
  refine lv_aload_n hx hb (D_42 W_prog_7_method_21_code_32 29 rfl rfl) rfl (lv_at hl 1 rfl) ?_
  refine zget (ci := 6) (C := RX6) (T := TX6) (v := .int (iI (F11 6 l0 3))) (k := 3) hx hb hts inW_6 hown hK hZ11 g3.1 g3.2 rfl (by decide) k_2_206 rfl (D_180 W_prog_7_method_21_code_32 30 rfl rfl rfl) ?_
  obtain ⟨r12, F12, B12, hc12, hf⟩ := gbind hf
  refine va_callv (va_runV (As := [.int (iI (F11 6 l0 3))]) (rest := []) ⟨hx, hb, hml, hown, hts⟩ (c_ByteRow_put (l := l) hc12) (cwV 1 hts (gdV k_7_168 k_2_171 k_2_172 k_1_2 k_2_173) rfl rfl rfl (by decide +kernel) ⟨Nat.le_of_ble_eq_true rfl, Nat.le_of_ble_eq_true rfl⟩) (zPV X hZ11 hS11 (ci := 0) g4.1 g4.2 (r := (RX0, TX0, 3)) rfl [.int (iI (F11 6 l0 3))]) rfl rfl hl.1 rfl (lv_room (Nat.le_of_ble_eq_true rfl)) (D_182 W_prog_7_method_21_code_64 1 rfl rfl rfl) ⟨Nat.le_of_ble_eq_true rfl, Nat.le_of_ble_eq_true rfl⟩) hS11 (fun q _ h => zAin X hS11 q h) (zAin X hS11) (fun u12 t12 H12 locs12 ht12 hv12 hw12 hB12 hz12 hk12 hS12 => ?_)
  have hZ12 := zBack X ht12 hB12
  refine lv_aload_n hx hb (D_43 W_prog_7_method_21_code_64 4 rfl rfl) rfl (lv_at hl 2 rfl) ?_
  refine lv_bipush (v := iI 81) hx hb (D_16 W_prog_7_method_21_code_64 5 rfl rfl rfl) (by decide) ?_
  refine lv_iconst (v := iI 3) hx hb (D_6 W_prog_7_method_21_code_64 7 rfl rfl) rfl ?_
  obtain ⟨r13, F13, B13, hc13, hf⟩ := gbind hf
  refine va_callv (va_runS (As := [.ref (ad 0 l1 0), .int (iI 81), .int (iI 3)]) (rest := []) ⟨hx, hb, hml, hown, hts⟩ (c_Performance_putMeta (l := l) hc13) (va_cwS 3 hts (gdS k_7_165 k_7_166 k_1_20 k_7_167) rfl rfl rfl (by decide +kernel) ⟨Nat.le_of_ble_eq_true rfl, Nat.le_of_ble_eq_true rfl⟩) (zPS X hZ12 hS12 [.ref (ad 0 l1 0), .int (iI 81), .int (iI 3)]) rfl rfl hl.1 rfl (lv_room (Nat.le_of_ble_eq_true rfl)) (D_184 W_prog_7_method_21_code_64 8 rfl rfl rfl) ⟨Nat.le_of_ble_eq_true rfl, Nat.le_of_ble_eq_true rfl⟩) hS12 (fun q _ h => zAin X hS12 q h) (zAin X hS12) (fun u13 t13 H13 locs13 ht13 hv13 hw13 hB13 hz13 hk13 hS13 => ?_)
  have hZ13 := zBack X ht13 hB13
  refine lv_aload_n hx hb (D_43 W_prog_7_method_21_code_64 11 rfl rfl) rfl (lv_at hl 2 rfl) ?_
  refine lv_ldc hx hb hown (hts _ k_7_175) (D_18 W_prog_7_method_21_code_64 12 rfl rfl) ?_
  refine W.eq (g2 := F0 m 78 ls [.int (iI 60000000), .ref (ad 0 l1 0)]) rfl ?_
  refine lv_aload_n hx hb (D_42 W_prog_7_method_21_code_64 14 rfl rfl) rfl (lv_at hl 1 rfl) ?_
  refine zget (ci := 6) (C := RX6) (T := TX6) (v := .int (iI (F13 6 l0 6))) (k := 6) hx hb hts inW_6 hown hK hZ13 g3.1 g3.2 rfl (by decide) k_2_220 rfl (D_180 W_prog_7_method_21_code_64 15 rfl rfl rfl) ?_
  refine lv_iconst (v := iI 1) hx hb (D_4 W_prog_7_method_21_code_64 18 rfl rfl) rfl ?_
  obtain ⟨g14, hf⟩ := gif hf
  refine va_mmax hx hb (by rw [hml]; exact hl.1.symm) hown (hts _ k_6_153) (hts _ k_1_39) (hts _ k_1_3) (hts _ k_1_40) (Nat.le_of_ble_eq_true rfl) (Nat.le_of_ble_eq_true rfl) (Nat.le_of_ble_eq_true rfl) (Nat.le_of_ble_eq_true rfl) (D_184 W_prog_7_method_21_code_64 19 rfl rfl rfl) ?_
  rw [zmax_e g14 (by decide)]
  obtain ⟨g15, hf⟩ := gif hf
  refine zdv_r hx hb g15 (D_108 W_prog_7_method_21_code_64 22 rfl rfl) ?_
  refine lv_iconst (v := iI 3) hx hb (D_6 W_prog_7_method_21_code_64 23 rfl rfl) rfl ?_
  obtain ⟨r16, F16, B16, hc16, hf⟩ := gbind hf
  refine va_callv (va_runV (As := [.int (iI (zdv 60000000 (zmax (F13 6 l0 6) 1))), .int (iI 3)]) (rest := []) ⟨hx, hb, hml, hown, hts⟩ (c_ByteRow_putWide (l := l) hc16) (cwV 2 hts (gdV k_7_154 k_7_155 k_7_156 k_1_2 k_7_157) rfl rfl rfl (by decide +kernel) ⟨Nat.le_of_ble_eq_true rfl, Nat.le_of_ble_eq_true rfl⟩) (zPV X hZ13 hS13 (ci := 0) g4.1 g4.2 (r := (RX0, TX0, 3)) rfl [.int (iI (zdv 60000000 (zmax (F13 6 l0 6) 1))), .int (iI 3)]) rfl rfl hl.1 rfl (lv_room (Nat.le_of_ble_eq_true rfl)) (D_182 W_prog_7_method_21_code_64 24 rfl rfl rfl) ⟨Nat.le_of_ble_eq_true rfl, Nat.le_of_ble_eq_true rfl⟩) hS13 (fun q _ h => zAin X hS13 q h) (zAin X hS13) (fun u16 t16 H16 locs16 ht16 hv16 hw16 hB16 hz16 hk16 hS16 => ?_)
  have hZ16 := zBack X ht16 hB16
  refine lv_aload_n hx hb (D_43 W_prog_7_method_21_code_64 27 rfl rfl) rfl (lv_at hl 2 rfl) ?_
  refine lv_iload_n hx hb (D_28 W_prog_7_method_21_code_64 28 rfl rfl) rfl (lv_at hl 0 rfl) ?_
  obtain ⟨r17, F17, B17, hc17, hf⟩ := gbind hf
  refine va_callv (va_runS (As := [.ref (ad 0 l1 0), .int (iI r1)]) (rest := []) ⟨hx, hb, hml, hown, hts⟩ (c_Performance_endTrack (l := l) hc17) (va_cwS 2 hts (gdS k_7_176 k_7_177 k_1_20 k_7_178) rfl rfl rfl (by decide +kernel) ⟨Nat.le_of_ble_eq_true rfl, Nat.le_of_ble_eq_true rfl⟩) (zPS X hZ16 hS16 [.ref (ad 0 l1 0), .int (iI r1)]) rfl rfl hl.1 rfl (lv_room (Nat.le_of_ble_eq_true rfl)) (D_184 W_prog_7_method_21_code_64 29 rfl rfl rfl) ⟨Nat.le_of_ble_eq_true rfl, Nat.le_of_ble_eq_true rfl⟩) hS16 (fun q _ h => zAin X hS16 q h) (zAin X hS16) (fun u17 t17 H17 locs17 ht17 hv17 hw17 hB17 hz17 hk17 hS17 => ?_)
  have hZ17 := zBack X ht17 hB17
  cases hf
  exact W.vret hx hb hr (fun t ht hW => ⟨⟨(), rfl, trivial, by rw [ht]; exact hZ17, va_K.moved hW.alike hK⟩, hS17.F ht⟩) hS17.2.2 (D_177 W_prog_7_method_21_code_96 0 rfl rfl) hlk

abbrev Q_SoundFile_loadTrack (K : zK) (D : va_G) (ca : Nat → ClassId) (ad : Nat → Int → Nat → Nat) (L : List Nat) (r : Int) (F : zF) (B : zB) (A : Nat → Prop) : Array Value → State → Outcome → State → Prop := va_Qv (S := Unit) (fun _ => True) (fun _ => zPo D ca ad lnC K.2 L F B A) A
def f_SoundFile_loadTrack_107 (rec69 : Int → Int → zF → zB → zO) (K : zK) (l4 : Int) (l0 : Int) (F : zF) (B : zB) : zO := rec69 (l4 + 1) l0 F B
set_option maxHeartbeats 4000000 in
set_option maxRecDepth 100000 in
theorem b_SoundFile_loadTrack_107 {D : va_G} {ca : Nat → ClassId} {ad : Nat → Int → Nat → Nat} {L : List Nat} {aS vS : Nat → Nat} {A : Nat → Prop} {p : Program} {l : Launch} {e : Env} {s : State} {m : MethodId} {args : Array Value} {below : List Frame} {meth : Method} {c : Code} {K : zK} {r : Int} {F9 : zF} {B9 : zB} (X : zX D ca L aS vS A p s m args meth c prog_10_method_13_code 5 (Option.none : Option Jvm.ClassFile.FieldType) "StaveHouse$SoundFile") {rec69 : Int → Int → zF → zB → zO} (hrec69 : ∀ {l4 : Int} {l0 : Int} {F : zF} {B : zB} {H : Heap} {locs : List Loc} {ls : Array Slot}, rec69 l4 l0 F B = some (r, F9, B9) → zH D ca ad lnC K.2 L F B A H → va_S A s.heap H locs → lv_has ls 5 [(4, .int (iI l4)), (0, .ref (ad 8 l0 0))] → W p l e ({ frames := 5, cells := 0, slots := 0, locals := 114 } : Room) s m args below meth c H locs 0 0 (MQ below (Q_SoundFile_loadTrack K D ca ad L r F9 B9 A) args s 0 0 A) (F0 m 69 ls [])) {l4 : Int} {l0 : Int} {F : zF} {B : zB} {H : Heap} {locs : List Loc} {ls : Array Slot} (hf : f_SoundFile_loadTrack_107 rec69 K l4 l0 F B = some (r, F9, B9)) (hZ : zH D ca ad lnC K.2 L F B A H) (hS : va_S A s.heap H locs) (hl : lv_has ls 5 [(4, .int (iI l4)), (0, .ref (ad 8 l0 0))]) : W p l e ({ frames := 5, cells := 0, slots := 0, locals := 114 } : Room) s m args below meth c H locs 0 0 (MQ below (Q_SoundFile_loadTrack K D ca ad L r F9 B9 A) args s 0 0 A) (F0 m 107 ls []) := by
  obtain ⟨hx, hb, hr, hml, hown, hts, hlk, hK, hA, hL, hX⟩ := id X
  replace hf : (rec69 (l4 + 1) l0 F B) = some (r, F9, B9) := hf
  refine lv_iinc (v := iI (l4 + 1)) (lv' := [(4, .int (iI (l4 + 1))), (0, .ref (ad 8 l0 0))]) hx hb d_10_13_107 hl (k := 0) rfl (iI_add _ 1) (by decide) rfl (fun ls hl => ?_)
  refine lv_goto (tgt := 69) hx hb (D_167 W_prog_10_method_13_code_96 14 rfl rfl rfl) (by decide) ?_
  exact hrec69 hf hZ hS (lv_sub hl [0, 1] rfl)

def f_SoundFile_loadTrack_69 (K : zK) : Nat → Int → Int → zF → zB → zO
  | 0, _, _, _, _ => none
  | n + 1, l4, l0, F, B => if 0 ≤ l0 ∧ l0 < K.2 8 then if r32 l4 then if r32 (F 8 l0 2) then (if (F 8 l0 2) ≤ l4 then some (0, F, B) else if 0 ≤ l4 ∧ l4 < 400 then if r64 (B 8 l0 225 l4) then (if (zcmp (B 8 l0 225 l4) (-1)) = 0 then f_SoundFile_loadTrack_107 (f_SoundFile_loadTrack_69 K n) K l4 l0 F (zup4 B 8 l0 225 l4 (F 8 l0 10)) else f_SoundFile_loadTrack_107 (f_SoundFile_loadTrack_69 K n) K l4 l0 F B) else none else none) else none else none else none
set_option maxHeartbeats 4000000 in
set_option maxRecDepth 100000 in
theorem b_SoundFile_loadTrack_69 {D : va_G} {ca : Nat → ClassId} {ad : Nat → Int → Nat → Nat} {L : List Nat} {aS vS : Nat → Nat} {A : Nat → Prop} {p : Program} {l : Launch} {e : Env} {s : State} {m : MethodId} {args : Array Value} {below : List Frame} {meth : Method} {c : Code} {K : zK} {r : Int} {F9 : zF} {B9 : zB} (X : zX D ca L aS vS A p s m args meth c prog_10_method_13_code 5 (Option.none : Option Jvm.ClassFile.FieldType) "StaveHouse$SoundFile") : ∀ {n : Nat} {l4 : Int} {l0 : Int} {F : zF} {B : zB} {H : Heap} {locs : List Loc} {ls : Array Slot}, f_SoundFile_loadTrack_69 K n l4 l0 F B = some (r, F9, B9) → zH D ca ad lnC K.2 L F B A H → va_S A s.heap H locs → lv_has ls 5 [(4, .int (iI l4)), (0, .ref (ad 8 l0 0))] → W p l e ({ frames := 5, cells := 0, slots := 0, locals := 114 } : Room) s m args below meth c H locs 0 0 (MQ below (Q_SoundFile_loadTrack K D ca ad L r F9 B9 A) args s 0 0 A) (F0 m 69 ls []) := by
  obtain ⟨hx, hb, hr, hml, hown, hts, hlk, hK, hA, hL, hX⟩ := id X
  intro n
  induction n with
  | zero =>
    intros
    rename_i hf _ _ _
    cases hf
  | succ n ih =>
    intro l4 l0 F B H locs ls hf hZ hS hl
    replace hf : (if 0 ≤ l0 ∧ l0 < K.2 8 then if r32 l4 then if r32 (F 8 l0 2) then (if (F 8 l0 2) ≤ l4 then some (0, F, B) else if 0 ≤ l4 ∧ l4 < 400 then if r64 (B 8 l0 225 l4) then (if (zcmp (B 8 l0 225 l4) (-1)) = 0 then f_SoundFile_loadTrack_107 (f_SoundFile_loadTrack_69 K n) K l4 l0 F (zup4 B 8 l0 225 l4 (F 8 l0 10)) else f_SoundFile_loadTrack_107 (f_SoundFile_loadTrack_69 K n) K l4 l0 F B) else none else none) else none else none else none) = some (r, F9, B9) := hf
    refine lv_iload hx hb (D_21 W_prog_10_method_13_code_64 5 rfl rfl) (lv_at hl 0 rfl) ?_
    refine lv_aload_n hx hb (D_42 W_prog_10_method_13_code_64 7 rfl rfl) rfl (lv_at hl 1 rfl) ?_
    obtain ⟨g17, hf⟩ := gif hf
    refine zget (ci := 8) (C := RX8) (T := TX8) (v := .int (iI (F 8 l0 2))) (k := 2) hx hb hts inW_8 hown hK hZ g17.1 g17.2 rfl (by decide) k_7_223 rfl (D_180 W_prog_10_method_13_code_64 8 rfl rfl rfl) ?_
    obtain ⟨g18, hf⟩ := gif hf
    obtain ⟨g19, hf⟩ := gif hf
    refine zge (tgt := 113) hx hb g18 g19 (D_162 W_prog_10_method_13_code_64 11 rfl rfl rfl) (by decide) (fun h20 => ?_) (fun h20 => ?_)
    · replace hf := gpos hf h20
      cases hf
      exact W.vret hx hb hr (fun t ht hW => ⟨⟨(), rfl, trivial, by rw [ht]; exact hZ, va_K.moved hW.alike hK⟩, hS.F ht⟩) hS.2.2 (D_177 W_prog_10_method_13_code_96 17 rfl rfl) hlk
    · replace hf := gneg hf h20
      refine lv_aload_n hx hb (D_42 W_prog_10_method_13_code_64 14 rfl rfl) rfl (lv_at hl 1 rfl) ?_
      refine zget (ci := 8) (C := RX8) (T := TX8) (v := .ref (ad 8 l0 (1 + 1))) (k := 1) hx hb hts inW_8 hown hK hZ g17.1 g17.2 rfl (by decide) k_7_220 rfl (D_180 W_prog_10_method_13_code_64 15 rfl rfl rfl) ?_
      refine lv_iconst (v := iI 5) hx hb (D_8 W_prog_10_method_13_code_64 18 rfl rfl) rfl ?_
      refine zaldQ (t := 1) (ci := 8) (k := 1) hx hb hK rfl hZ g17.1 g17.2 rfl (Nat.le_of_ble_eq_true rfl) (by decide) (by decide) (D_50 W_prog_10_method_13_code_64 19 rfl rfl) ?_
      refine W.eq (g2 := F0 m 84 ls [.ref (ad 8 l0 (225 + 1))]) rfl ?_
      refine lv_iload hx hb (D_21 W_prog_10_method_13_code_64 20 rfl rfl) (lv_at hl 0 rfl) ?_
      obtain ⟨g21, hf⟩ := gif hf
      refine zlald (ci := 8) (k := 225) hx hb hK rfl hZ g17.1 g17.2 rfl (Nat.le_of_ble_eq_true rfl) g21.1 g21.2 (D_47 W_prog_10_method_13_code_64 22 rfl rfl) ?_
      refine lv_ldc2 hx hb hown (hts _ k_8_121) (D_20 W_prog_10_method_13_code_64 23 rfl rfl rfl) ?_
      refine W.eq (g2 := F0 m 90 ls [.long (lI (-1)), .long (lI (B 8 l0 225 l4))]) rfl ?_
      obtain ⟨g22, hf⟩ := gif hf
      refine zcmp_r hx hb g22 (by decide) (D_148 W_prog_10_method_13_code_64 26 rfl rfl) ?_
      refine z0ne (tgt := 107) hx hb zcmp_32 (D_154 W_prog_10_method_13_code_64 27 rfl rfl rfl) (by decide) (fun h23 => ?_) (fun h23 => ?_)
      · replace hf := gneg hf h23
        exact b_SoundFile_loadTrack_107 X ih hf hZ hS (lv_sub hl [0, 1] rfl)
      · replace hf := gpos hf h23
        refine lv_aload_n hx hb (D_42 W_prog_10_method_13_code_64 30 rfl rfl) rfl (lv_at hl 1 rfl) ?_
        refine zget (ci := 8) (C := RX8) (T := TX8) (v := .ref (ad 8 l0 (1 + 1))) (k := 1) hx hb hts inW_8 hown hK hZ g17.1 g17.2 rfl (by decide) k_7_220 rfl (D_180 W_prog_10_method_13_code_64 31 rfl rfl rfl) ?_
        refine lv_iconst (v := iI 5) hx hb (D_8 W_prog_10_method_13_code_96 2 rfl rfl) rfl ?_
        refine zaldQ (t := 1) (ci := 8) (k := 1) hx hb hK rfl hZ g17.1 g17.2 rfl (Nat.le_of_ble_eq_true rfl) (by decide) (by decide) (D_50 W_prog_10_method_13_code_96 3 rfl rfl) ?_
        refine W.eq (g2 := F0 m 100 ls [.ref (ad 8 l0 (225 + 1))]) rfl ?_
        refine lv_iload hx hb (D_21 W_prog_10_method_13_code_96 4 rfl rfl) (lv_at hl 0 rfl) ?_
        refine lv_aload_n hx hb (D_42 W_prog_10_method_13_code_96 6 rfl rfl) rfl (lv_at hl 1 rfl) ?_
        refine zget (ci := 8) (C := RX8) (T := TX8) (v := .long (lI (F 8 l0 10))) (k := 10) hx hb hts inW_8 hown hK hZ g17.1 g17.2 rfl (by decide) k_7_234 rfl (D_180 W_prog_10_method_13_code_96 7 rfl rfl rfl) ?_
        refine zlast (ci := 8) (k := 225) hx hb hK rfl hZ hS g17.1 g17.2 rfl (Nat.le_of_ble_eq_true rfl) g21.1 g21.2 (D_80 W_prog_10_method_13_code_96 10 rfl rfl) (fun H24 locs24 hZ24 hS24 => ?_)
        exact b_SoundFile_loadTrack_107 X ih hf hZ24 hS24 (lv_sub hl [0, 1] rfl)

def f_SoundFile_loadTrack_66 (K : zK) (l3 : Int) (l0 : Int) (F : zF) (B : zB) : zO := f_SoundFile_loadTrack_69 K K.1 l3 l0 F B
set_option maxHeartbeats 4000000 in
set_option maxRecDepth 100000 in
theorem b_SoundFile_loadTrack_66 {D : va_G} {ca : Nat → ClassId} {ad : Nat → Int → Nat → Nat} {L : List Nat} {aS vS : Nat → Nat} {A : Nat → Prop} {p : Program} {l : Launch} {e : Env} {s : State} {m : MethodId} {args : Array Value} {below : List Frame} {meth : Method} {c : Code} {K : zK} {r : Int} {F9 : zF} {B9 : zB} (X : zX D ca L aS vS A p s m args meth c prog_10_method_13_code 5 (Option.none : Option Jvm.ClassFile.FieldType) "StaveHouse$SoundFile") {l3 : Int} {l0 : Int} {F : zF} {B : zB} {H : Heap} {locs : List Loc} {ls : Array Slot} (hf : f_SoundFile_loadTrack_66 K l3 l0 F B = some (r, F9, B9)) (hZ : zH D ca ad lnC K.2 L F B A H) (hS : va_S A s.heap H locs) (hl : lv_has ls 5 [(3, .int (iI l3)), (0, .ref (ad 8 l0 0))]) : W p l e ({ frames := 5, cells := 0, slots := 0, locals := 114 } : Room) s m args below meth c H locs 0 0 (MQ below (Q_SoundFile_loadTrack K D ca ad L r F9 B9 A) args s 0 0 A) (F0 m 66 ls []) := by
  obtain ⟨hx, hb, hr, hml, hown, hts, hlk, hK, hA, hL, hX⟩ := id X
  replace hf : (f_SoundFile_loadTrack_69 K K.1 l3 l0 F B) = some (r, F9, B9) := hf
  refine lv_iload_n hx hb (D_29 W_prog_10_method_13_code_64 2 rfl rfl) rfl (lv_at hl 0 rfl) ?_
  refine lv_istore (lv' := [(4, .int (iI l3)), (3, .int (iI l3)), (0, .ref (ad 8 l0 0))]) hx hb (D_54 W_prog_10_method_13_code_64 3 rfl rfl) hl (by decide) rfl (fun ls hl => ?_)
  exact b_SoundFile_loadTrack_69 X hf hZ hS (lv_sub hl [0, 2] rfl)

def f_SoundFile_loadTrack_23 (K : zK) : Nat → Int → Int → Int → Int → zF → zB → zO
  | 0, _, _, _, _, _, _ => none
  | n + 1, l4, l3, l0, l1, F, B => if r32 l4 then (if 3000 ≤ l4 then f_SoundFile_loadTrack_66 K l3 l0 F B else if 0 ≤ l0 ∧ l0 < K.2 8 then if r32 (F 8 l0 7) then (if (F 8 l0 7) = 0 then if r32 (F 8 l0 5) then if r64 (F 8 l0 5) then if r64 l1 then (if 0 ≤ (zcmp (F 8 l0 5) l1) then f_SoundFile_loadTrack_66 K l3 l0 F B else if r32 (F 8 l0 11) then (if (F 8 l0 11) = 0 then zbind (f_SoundFile_loadEvent K l0 l3 F B) (fun r16 F16 B16 => f_SoundFile_loadTrack_23 K n (l4 + 1) l3 l0 l1 F16 B16) else f_SoundFile_loadTrack_66 K l3 l0 F B) else none) else none else none else none else f_SoundFile_loadTrack_66 K l3 l0 F B) else none else none) else none
set_option maxHeartbeats 4000000 in
set_option maxRecDepth 100000 in
theorem b_SoundFile_loadTrack_23 {D : va_G} {ca : Nat → ClassId} {ad : Nat → Int → Nat → Nat} {L : List Nat} {aS vS : Nat → Nat} {A : Nat → Prop} {p : Program} {l : Launch} {e : Env} {s : State} {m : MethodId} {args : Array Value} {below : List Frame} {meth : Method} {c : Code} {K : zK} {r : Int} {F9 : zF} {B9 : zB} (X : zX D ca L aS vS A p s m args meth c prog_10_method_13_code 5 (Option.none : Option Jvm.ClassFile.FieldType) "StaveHouse$SoundFile") : ∀ {n : Nat} {l4 : Int} {l3 : Int} {l0 : Int} {l1 : Int} {F : zF} {B : zB} {H : Heap} {locs : List Loc} {ls : Array Slot}, f_SoundFile_loadTrack_23 K n l4 l3 l0 l1 F B = some (r, F9, B9) → zH D ca ad lnC K.2 L F B A H → va_S A s.heap H locs → lv_has ls 5 [(4, .int (iI l4)), (3, .int (iI l3)), (0, .ref (ad 8 l0 0)), (1, .long (lI l1))] → W p l e ({ frames := 5, cells := 0, slots := 0, locals := 114 } : Room) s m args below meth c H locs 0 0 (MQ below (Q_SoundFile_loadTrack K D ca ad L r F9 B9 A) args s 0 0 A) (F0 m 23 ls []) := by
  obtain ⟨hx, hb, hr, hml, hown, hts, hlk, hK, hA, hL, hX⟩ := id X
  intro n
  induction n with
  | zero =>
    intros
    rename_i hf _ _ _
    cases hf
  | succ n ih =>
    intro l4 l3 l0 l1 F B H locs ls hf hZ hS hl
    replace hf : (if r32 l4 then (if 3000 ≤ l4 then f_SoundFile_loadTrack_66 K l3 l0 F B else if 0 ≤ l0 ∧ l0 < K.2 8 then if r32 (F 8 l0 7) then (if (F 8 l0 7) = 0 then if r32 (F 8 l0 5) then if r64 (F 8 l0 5) then if r64 l1 then (if 0 ≤ (zcmp (F 8 l0 5) l1) then f_SoundFile_loadTrack_66 K l3 l0 F B else if r32 (F 8 l0 11) then (if (F 8 l0 11) = 0 then zbind (f_SoundFile_loadEvent K l0 l3 F B) (fun r16 F16 B16 => f_SoundFile_loadTrack_23 K n (l4 + 1) l3 l0 l1 F16 B16) else f_SoundFile_loadTrack_66 K l3 l0 F B) else none) else none else none else none else f_SoundFile_loadTrack_66 K l3 l0 F B) else none else none) else none) = some (r, F9, B9) := hf
    refine lv_iload hx hb (D_21 W_prog_10_method_13_code_0 23 rfl rfl) (lv_at hl 0 rfl) ?_
    refine lv_sipush (v := iI 3000) hx hb (D_17 W_prog_10_method_13_code_0 25 rfl rfl rfl) (by decide) ?_
    obtain ⟨g5, hf⟩ := gif hf
    refine zge (tgt := 66) hx hb g5 (by decide) (D_162 W_prog_10_method_13_code_0 28 rfl rfl rfl) (by decide) (fun h6 => ?_) (fun h6 => ?_)
    · replace hf := gpos hf h6
      exact b_SoundFile_loadTrack_66 X hf hZ hS (lv_sub hl [1, 2] rfl)
    · replace hf := gneg hf h6
      refine lv_aload_n hx hb (D_42 W_prog_10_method_13_code_0 31 rfl rfl) rfl (lv_at hl 2 rfl) ?_
      obtain ⟨g7, hf⟩ := gif hf
      refine zget (ci := 8) (C := RX8) (T := TX8) (v := .int (iI (F 8 l0 7))) (k := 7) hx hb hts inW_8 hown hK hZ g7.1 g7.2 rfl (by decide) k_7_231 rfl (D_180 W_prog_10_method_13_code_32 0 rfl rfl rfl) ?_
      obtain ⟨g8, hf⟩ := gif hf
      refine z0ne (tgt := 66) hx hb g8 (D_154 W_prog_10_method_13_code_32 3 rfl rfl rfl) (by decide) (fun h9 => ?_) (fun h9 => ?_)
      · replace hf := gneg hf h9
        exact b_SoundFile_loadTrack_66 X hf hZ hS (lv_sub hl [1, 2] rfl)
      · replace hf := gpos hf h9
        refine lv_aload_n hx hb (D_42 W_prog_10_method_13_code_32 6 rfl rfl) rfl (lv_at hl 2 rfl) ?_
        refine zget (ci := 8) (C := RX8) (T := TX8) (v := .int (iI (F 8 l0 5))) (k := 5) hx hb hts inW_8 hown hK hZ g7.1 g7.2 rfl (by decide) k_7_229 rfl (D_180 W_prog_10_method_13_code_32 7 rfl rfl rfl) ?_
        obtain ⟨g10, hf⟩ := gif hf
        refine zi2l hx hb g10 (D_133 W_prog_10_method_13_code_32 10 rfl rfl) ?_
        refine lv_lload_n hx hb (D_31 W_prog_10_method_13_code_32 11 rfl rfl) rfl (lv_at hl 3 rfl) ?_
        obtain ⟨g11, hf⟩ := gif hf
        obtain ⟨g12, hf⟩ := gif hf
        refine zcmp_r hx hb g11 g12 (D_148 W_prog_10_method_13_code_32 12 rfl rfl) ?_
        refine z0ge (tgt := 66) hx hb zcmp_32 (D_156 W_prog_10_method_13_code_32 13 rfl rfl rfl) (by decide) (fun h13 => ?_) (fun h13 => ?_)
        · replace hf := gpos hf h13
          exact b_SoundFile_loadTrack_66 X hf hZ hS (lv_sub hl [1, 2] rfl)
        · replace hf := gneg hf h13
          refine lv_aload_n hx hb (D_42 W_prog_10_method_13_code_32 16 rfl rfl) rfl (lv_at hl 2 rfl) ?_
          refine zget (ci := 8) (C := RX8) (T := TX8) (v := .int (iI (F 8 l0 11))) (k := 11) hx hb hts inW_8 hown hK hZ g7.1 g7.2 rfl (by decide) k_7_235 rfl (D_180 W_prog_10_method_13_code_32 17 rfl rfl rfl) ?_
          obtain ⟨g14, hf⟩ := gif hf
          refine z0ne (tgt := 66) hx hb g14 (D_154 W_prog_10_method_13_code_32 20 rfl rfl rfl) (by decide) (fun h15 => ?_) (fun h15 => ?_)
          · replace hf := gneg hf h15
            exact b_SoundFile_loadTrack_66 X hf hZ hS (lv_sub hl [1, 2] rfl)
          · replace hf := gpos hf h15
            refine lv_aload_n hx hb (D_42 W_prog_10_method_13_code_32 23 rfl rfl) rfl (lv_at hl 2 rfl) ?_
            refine lv_iload_n hx hb (D_29 W_prog_10_method_13_code_32 24 rfl rfl) rfl (lv_at hl 1 rfl) ?_
            obtain ⟨r16, F16, B16, hc16, hf⟩ := gbind hf
            refine va_callv (va_runV (As := [.int (iI l3)]) (rest := []) ⟨hx, hb, hml, hown, hts⟩ (c_SoundFile_loadEvent (l := l) hc16) (cwV 1 hts (gdV k_8_80 k_8_82 ks_101 k_1_23 k_8_83) rfl rfl rfl (by decide +kernel) ⟨Nat.le_of_ble_eq_true rfl, Nat.le_of_ble_eq_true rfl⟩) (zPV X hZ hS (ci := 8) g7.1 g7.2 (r := (RX8, TX8, 15)) rfl [.int (iI l3)]) rfl rfl hl.1 rfl (lv_room (Nat.le_of_ble_eq_true rfl)) (D_182 W_prog_10_method_13_code_32 25 rfl rfl rfl) ⟨Nat.le_of_ble_eq_true rfl, Nat.le_of_ble_eq_true rfl⟩) hS (fun q _ h => zAin X hS q h) (zAin X hS) (fun u16 t16 H16 locs16 ht16 hv16 hw16 hB16 hz16 hk16 hS16 => ?_)
            have hZ16 := zBack X ht16 hB16
            refine lv_iinc (v := iI (l4 + 1)) (lv' := [(4, .int (iI (l4 + 1))), (3, .int (iI l3)), (0, .ref (ad 8 l0 0)), (1, .long (lI l1))]) hx hb d_10_13_60 hl (k := 0) rfl (iI_add _ 1) (by decide) rfl (fun ls hl => ?_)
            refine lv_goto (tgt := 23) hx hb (D_167 W_prog_10_method_13_code_32 31 rfl rfl rfl) (by decide) ?_
            exact ih hf hZ16 hS16 (lv_sub hl [0, 1, 2, 3] rfl)

def f_SoundFile_loadTrack (K : zK) (l0 : Int) (l1 : Int) (F : zF) (B : zB) : zO := if 0 ≤ l0 ∧ l0 < K.2 8 then f_SoundFile_loadTrack_23 K K.1 0 (F 8 l0 2) l0 l1 (zup3 (zup3 (zup3 F 8 l0 9 0) 8 l0 10 0) 8 l0 11 0) B else none
set_option maxHeartbeats 4000000 in
set_option maxRecDepth 100000 in
theorem c_SoundFile_loadTrack {l : Launch} {D : va_G} {ca : Nat → ClassId} {ad : Nat → Int → Nat → Nat} {L : List Nat} {aS vS : Nat → Nat} {sz : Nat} {K : zK}  {l0 : Int} {l1 : Int} {F F9 : zF} {B B9 : zB} {r : Int} (hf : f_SoundFile_loadTrack K l0 l1 F B = some (r, F9, B9)) : Met l ({ cls := "StaveHouse$SoundFile", name := "loadTrack", desc := "(J)V" } : Jvm.MethodName) (Cond.code ({ cls := "StaveHouse$SoundFile", name := "loadTrack", desc := "(J)V" } : Jvm.MethodName) prog_10_method_13_code 5 (Option.none : Option Jvm.ClassFile.FieldType) :: wAll) ({ frames := 5, cells := 0, slots := 0, locals := 114 } : Room) (va_Pc [.ref (ad 8 l0 0), .long (lI l1)] (zPre D ca ad lnC K.2 L aS vS F B sz)) (Q_SoundFile_loadTrack K D ca ad L r F9 B9 (zA L sz)) 0 0 (zA L sz) := by
  refine zMet (Qc := Q_SoundFile_loadTrack K D ca ad L r F9 B9) (lv := [(0, .ref (ad 8 l0 0)), (1, .long (lI l1))]) (by decide) (Nat.le_of_ble_eq_true rfl) rfl (fun A p e s m below meth c ls X hZ hS hl => ?_)
  obtain ⟨hx, hb, hr, hml, hown, hts, hlk, hK, hA, hL, hX⟩ := id X
  replace hf : (if 0 ≤ l0 ∧ l0 < K.2 8 then f_SoundFile_loadTrack_23 K K.1 0 (F 8 l0 2) l0 l1 (zup3 (zup3 (zup3 F 8 l0 9 0) 8 l0 10 0) 8 l0 11 0) B else none) = some (r, F9, B9) := hf
  refine lv_aload_n hx hb (D_42 W_prog_10_method_13_code_0 0 rfl rfl) rfl (lv_at hl 0 rfl) ?_
  obtain ⟨g1, hf⟩ := gif hf
  refine zget (ci := 8) (C := RX8) (T := TX8) (v := .int (iI (F 8 l0 2))) (k := 2) hx hb hts inW_8 hown hK hZ g1.1 g1.2 rfl (by decide) k_7_223 rfl (D_180 W_prog_10_method_13_code_0 1 rfl rfl rfl) ?_
  refine lv_istore_n (lv' := [(3, .int (iI (F 8 l0 2))), (0, .ref (ad 8 l0 0)), (1, .long (lI l1))]) hx hb (D_62 W_prog_10_method_13_code_0 4 rfl rfl) rfl hl (by decide) rfl (fun ls hl => ?_)
  refine lv_aload_n hx hb (D_42 W_prog_10_method_13_code_0 5 rfl rfl) rfl (lv_at hl 1 rfl) ?_
  refine lv_iconst (v := iI 0) hx hb (D_3 W_prog_10_method_13_code_0 6 rfl rfl) rfl ?_
  refine zput (ci := 8) (C := RX8) (T := TX8) (k := 9) (v := 0) (w := .int (iI 0)) hx hb hts inW_8 tyX8 tyX8_ok nmX8 hown hK hZ hS g1.1 g1.2 rfl (by decide) k_7_233 rfl (fun G h => congrArg (fun q => Value.int (iI q)) h) rfl rfl (zno (by decide)) (D_181 W_prog_10_method_13_code_0 7 rfl rfl rfl) (fun H2 locs2 hZ2 hS2 => ?_)
  refine lv_aload_n hx hb (D_42 W_prog_10_method_13_code_0 10 rfl rfl) rfl (lv_at hl 1 rfl) ?_
  refine lv_lconst (v := lI 0) hx hb (D_9 W_prog_10_method_13_code_0 11 rfl rfl) (by decide) ?_
  refine zput (ci := 8) (C := RX8) (T := TX8) (k := 10) (v := 0) (w := .long (lI 0)) hx hb hts inW_8 tyX8 tyX8_ok nmX8 hown hK hZ2 hS2 g1.1 g1.2 rfl (by decide) k_7_234 rfl (fun G h => congrArg (fun q => Value.long (lI q)) h) rfl rfl (zno (by decide)) (D_181 W_prog_10_method_13_code_0 12 rfl rfl rfl) (fun H3 locs3 hZ3 hS3 => ?_)
  refine lv_aload_n hx hb (D_42 W_prog_10_method_13_code_0 15 rfl rfl) rfl (lv_at hl 1 rfl) ?_
  refine lv_iconst (v := iI 0) hx hb (D_3 W_prog_10_method_13_code_0 16 rfl rfl) rfl ?_
  refine zput (ci := 8) (C := RX8) (T := TX8) (k := 11) (v := 0) (w := .int (iI 0)) hx hb hts inW_8 tyX8 tyX8_ok nmX8 hown hK hZ3 hS3 g1.1 g1.2 rfl (by decide) k_7_235 rfl (fun G h => congrArg (fun q => Value.int (iI q)) h) rfl rfl (zno (by decide)) (D_181 W_prog_10_method_13_code_0 17 rfl rfl rfl) (fun H4 locs4 hZ4 hS4 => ?_)
  refine lv_iconst (v := iI 0) hx hb (D_3 W_prog_10_method_13_code_0 20 rfl rfl) rfl ?_
  refine lv_istore (lv' := [(4, .int (iI 0)), (3, .int (iI (F 8 l0 2))), (0, .ref (ad 8 l0 0)), (1, .long (lI l1))]) hx hb (D_54 W_prog_10_method_13_code_0 21 rfl rfl) hl (by decide) rfl (fun ls hl => ?_)
  exact b_SoundFile_loadTrack_23 X hf hZ4 hS4 (lv_sub hl [0, 1, 2, 3] rfl)

abbrev Q_Scribe_writeSpan (K : zK) (D : va_G) (ca : Nat → ClassId) (ad : Nat → Int → Nat → Nat) (L : List Nat) (r : Int) (F : zF) (B : zB) (A : Nat → Prop) : Array Value → State → Outcome → State → Prop := va_Qv (S := Unit) (fun _ => True) (fun _ => zPo D ca ad lnC K.2 L F B A) A
def f_Scribe_writeSpan_122 (K : zK)  (F : zF) (B : zB) : zO := some (0, F, B)
set_option maxHeartbeats 4000000 in
set_option maxRecDepth 100000 in
theorem b_Scribe_writeSpan_122 {D : va_G} {ca : Nat → ClassId} {ad : Nat → Int → Nat → Nat} {L : List Nat} {aS vS : Nat → Nat} {A : Nat → Prop} {p : Program} {l : Launch} {e : Env} {s : State} {m : MethodId} {args : Array Value} {below : List Frame} {meth : Method} {c : Code} {K : zK} {r : Int} {F9 : zF} {B9 : zB} (X : zX D ca L aS vS A p s m args meth c prog_9_method_12_code 7 (Option.none : Option Jvm.ClassFile.FieldType) "StaveHouse$Scribe")  {F : zF} {B : zB} {H : Heap} {locs : List Loc} {ls : Array Slot} (hf : f_Scribe_writeSpan_122 K  F B = some (r, F9, B9)) (hZ : zH D ca ad lnC K.2 L F B A H) (hS : va_S A s.heap H locs) (hl : lv_has ls 7 []) : W p l e ({ frames := 6, cells := 0, slots := 0, locals := 131 } : Room) s m args below meth c H locs 0 0 (MQ below (Q_Scribe_writeSpan K D ca ad L r F9 B9 A) args s 0 0 A) (F0 m 122 ls []) := by
  obtain ⟨hx, hb, hr, hml, hown, hts, hlk, hK, hA, hL, hX⟩ := id X
  replace hf : (some (0, F, B)) = some (r, F9, B9) := hf
  cases hf
  exact W.vret hx hb hr (fun t ht hW => ⟨⟨(), rfl, trivial, by rw [ht]; exact hZ, va_K.moved hW.alike hK⟩, hS.F ht⟩) hS.2.2 (D_177 W_prog_9_method_12_code_96 26 rfl rfl) hlk

def f_Scribe_writeSpan_116 (rec5 : Int → Int → Int → Int → zF → zB → zO) (K : zK) (l3 : Int) (l4 : Int) (l0 : Int) (l2 : Int) (F : zF) (B : zB) : zO := rec5 (l4 + 1) l3 l0 l2 F B
set_option maxHeartbeats 4000000 in
set_option maxRecDepth 100000 in
theorem b_Scribe_writeSpan_116 {D : va_G} {ca : Nat → ClassId} {ad : Nat → Int → Nat → Nat} {L : List Nat} {aS vS : Nat → Nat} {A : Nat → Prop} {p : Program} {l : Launch} {e : Env} {s : State} {m : MethodId} {args : Array Value} {below : List Frame} {meth : Method} {c : Code} {K : zK} {r : Int} {F9 : zF} {B9 : zB} (X : zX D ca L aS vS A p s m args meth c prog_9_method_12_code 7 (Option.none : Option Jvm.ClassFile.FieldType) "StaveHouse$Scribe") {rec5 : Int → Int → Int → Int → zF → zB → zO} (hrec5 : ∀ {l4 : Int} {l3 : Int} {l0 : Int} {l2 : Int} {F : zF} {B : zB} {H : Heap} {locs : List Loc} {ls : Array Slot}, rec5 l4 l3 l0 l2 F B = some (r, F9, B9) → zH D ca ad lnC K.2 L F B A H → va_S A s.heap H locs → lv_has ls 7 [(4, .int (iI l4)), (3, .int (iI l3)), (0, .ref (ad 7 l0 0)), (2, .int (iI l2))] → W p l e ({ frames := 6, cells := 0, slots := 0, locals := 131 } : Room) s m args below meth c H locs 0 0 (MQ below (Q_Scribe_writeSpan K D ca ad L r F9 B9 A) args s 0 0 A) (F0 m 5 ls [])) {l3 : Int} {l4 : Int} {l0 : Int} {l2 : Int} {F : zF} {B : zB} {H : Heap} {locs : List Loc} {ls : Array Slot} (hf : f_Scribe_writeSpan_116 rec5 K l3 l4 l0 l2 F B = some (r, F9, B9)) (hZ : zH D ca ad lnC K.2 L F B A H) (hS : va_S A s.heap H locs) (hl : lv_has ls 7 [(3, .int (iI l3)), (4, .int (iI l4)), (0, .ref (ad 7 l0 0)), (2, .int (iI l2))]) : W p l e ({ frames := 6, cells := 0, slots := 0, locals := 131 } : Room) s m args below meth c H locs 0 0 (MQ below (Q_Scribe_writeSpan K D ca ad L r F9 B9 A) args s 0 0 A) (F0 m 116 ls []) := by
  obtain ⟨hx, hb, hr, hml, hown, hts, hlk, hK, hA, hL, hX⟩ := id X
  replace hf : (rec5 (l4 + 1) l3 l0 l2 F B) = some (r, F9, B9) := hf
  refine lv_iinc (v := iI (l4 + 1)) (lv' := [(4, .int (iI (l4 + 1))), (3, .int (iI l3)), (0, .ref (ad 7 l0 0)), (2, .int (iI l2))]) hx hb d_9_12_116 hl (k := 1) rfl (iI_add _ 1) (by decide) rfl (fun ls hl => ?_)
  refine lv_goto (tgt := 5) hx hb (D_167 W_prog_9_method_12_code_96 23 rfl rfl rfl) (by decide) ?_
  exact hrec5 hf hZ hS (lv_sub hl [0, 1, 2, 3] rfl)

def f_Scribe_writeSpan_95 (rec5 : Int → Int → Int → Int → zF → zB → zO) (K : zK) (l3 : Int) (l4 : Int) (l0 : Int) (l2 : Int) (s0 : Int) (s1 : Int) (s2 : Int) (F : zF) (B : zB) : zO := if 0 ≤ s0 ∧ s0 < K.2 7 then zbind (f_Scribe_writeNote K s0 s1 s2 F B) (fun r18 F18 B18 => if 0 ≤ l0 ∧ l0 < K.2 7 then if ¬ iI (F18 7 l0 3) = 0 then if r32 (zrm l3 (F18 7 l0 3)) then (if (zrm l3 (F18 7 l0 3)) = 0 then if 0 ≤ (F18 7 l0 1) ∧ (F18 7 l0 1) < K.2 0 then zbind (f_ByteRow_putText K (F18 7 l0 1) 13 F18 B18) (fun r24 F24 B24 => f_Scribe_writeSpan_116 rec5 K l3 l4 l0 l2 F24 B24) else none else f_Scribe_writeSpan_116 rec5 K l3 l4 l0 l2 F18 B18) else none else none else none) else none
set_option maxHeartbeats 4000000 in
set_option maxRecDepth 100000 in
theorem b_Scribe_writeSpan_95 {D : va_G} {ca : Nat → ClassId} {ad : Nat → Int → Nat → Nat} {L : List Nat} {aS vS : Nat → Nat} {A : Nat → Prop} {p : Program} {l : Launch} {e : Env} {s : State} {m : MethodId} {args : Array Value} {below : List Frame} {meth : Method} {c : Code} {K : zK} {r : Int} {F9 : zF} {B9 : zB} (X : zX D ca L aS vS A p s m args meth c prog_9_method_12_code 7 (Option.none : Option Jvm.ClassFile.FieldType) "StaveHouse$Scribe") {rec5 : Int → Int → Int → Int → zF → zB → zO} (hrec5 : ∀ {l4 : Int} {l3 : Int} {l0 : Int} {l2 : Int} {F : zF} {B : zB} {H : Heap} {locs : List Loc} {ls : Array Slot}, rec5 l4 l3 l0 l2 F B = some (r, F9, B9) → zH D ca ad lnC K.2 L F B A H → va_S A s.heap H locs → lv_has ls 7 [(4, .int (iI l4)), (3, .int (iI l3)), (0, .ref (ad 7 l0 0)), (2, .int (iI l2))] → W p l e ({ frames := 6, cells := 0, slots := 0, locals := 131 } : Room) s m args below meth c H locs 0 0 (MQ below (Q_Scribe_writeSpan K D ca ad L r F9 B9 A) args s 0 0 A) (F0 m 5 ls [])) {l3 : Int} {l4 : Int} {l0 : Int} {l2 : Int} {s0 : Int} {s1 : Int} {s2 : Int} {F : zF} {B : zB} {H : Heap} {locs : List Loc} {ls : Array Slot} (hf : f_Scribe_writeSpan_95 rec5 K l3 l4 l0 l2 s0 s1 s2 F B = some (r, F9, B9)) (hZ : zH D ca ad lnC K.2 L F B A H) (hS : va_S A s.heap H locs) (hl : lv_has ls 7 [(3, .int (iI l3)), (4, .int (iI l4)), (0, .ref (ad 7 l0 0)), (2, .int (iI l2))]) : W p l e ({ frames := 6, cells := 0, slots := 0, locals := 131 } : Room) s m args below meth c H locs 0 0 (MQ below (Q_Scribe_writeSpan K D ca ad L r F9 B9 A) args s 0 0 A) (F0 m 95 ls [.int (iI s2), .int (iI s1), va_rf (zrf ad 7 s0)]) := by
  obtain ⟨hx, hb, hr, hml, hown, hts, hlk, hK, hA, hL, hX⟩ := id X
  replace hf : (if 0 ≤ s0 ∧ s0 < K.2 7 then zbind (f_Scribe_writeNote K s0 s1 s2 F B) (fun r18 F18 B18 => if 0 ≤ l0 ∧ l0 < K.2 7 then if ¬ iI (F18 7 l0 3) = 0 then if r32 (zrm l3 (F18 7 l0 3)) then (if (zrm l3 (F18 7 l0 3)) = 0 then if 0 ≤ (F18 7 l0 1) ∧ (F18 7 l0 1) < K.2 0 then zbind (f_ByteRow_putText K (F18 7 l0 1) 13 F18 B18) (fun r24 F24 B24 => f_Scribe_writeSpan_116 rec5 K l3 l4 l0 l2 F24 B24) else none else f_Scribe_writeSpan_116 rec5 K l3 l4 l0 l2 F18 B18) else none else none else none) else none) = some (r, F9, B9) := hf
  obtain ⟨g17, hf⟩ := gif hf
  refine W.eq (g2 := F0 m 95 ls [.int (iI s2), .int (iI s1), .ref (ad 7 s0 0)]) (by rw [zrf_pos (ad := ad) (t := 7) g17.1]; try rfl) ?_
  obtain ⟨r18, F18, B18, hc18, hf⟩ := gbind hf
  refine va_callv (va_runV (As := [.int (iI s1), .int (iI s2)]) (rest := []) ⟨hx, hb, hml, hown, hts⟩ (c_Scribe_writeNote (l := l) hc18) (cwV 2 hts (gdV k_8_203 k_8_205 ks_119 k_1_7 k_8_206) rfl rfl rfl (by decide +kernel) ⟨Nat.le_of_ble_eq_true rfl, Nat.le_of_ble_eq_true rfl⟩) (zPV X hZ hS (ci := 7) g17.1 g17.2 (r := (RX7, TX7, 9)) rfl [.int (iI s1), .int (iI s2)]) rfl rfl hl.1 rfl (lv_room (Nat.le_of_ble_eq_true rfl)) (D_182 W_prog_9_method_12_code_64 31 rfl rfl rfl) ⟨Nat.le_of_ble_eq_true rfl, Nat.le_of_ble_eq_true rfl⟩) hS (fun q _ h => zAin X hS q h) (zAin X hS) (fun u18 t18 H18 locs18 ht18 hv18 hw18 hB18 hz18 hk18 hS18 => ?_)
  have hZ18 := zBack X ht18 hB18
  refine lv_iload_n hx hb (D_29 W_prog_9_method_12_code_96 2 rfl rfl) rfl (lv_at hl 0 rfl) ?_
  refine lv_aload_n hx hb (D_42 W_prog_9_method_12_code_96 3 rfl rfl) rfl (lv_at hl 2 rfl) ?_
  obtain ⟨g19, hf⟩ := gif hf
  refine zget (ci := 7) (C := RX7) (T := TX7) (v := .int (iI (F18 7 l0 3))) (k := 3) hx hb hts inW_7 hown hK hZ18 g19.1 g19.2 rfl (by decide) k_2_101 rfl (D_180 W_prog_9_method_12_code_96 4 rfl rfl rfl) ?_
  obtain ⟨g20, hf⟩ := gif hf
  refine zrm_r hx hb g20 (D_112 W_prog_9_method_12_code_96 7 rfl rfl) ?_
  obtain ⟨g21, hf⟩ := gif hf
  refine z0ne (tgt := 116) hx hb g21 (D_154 W_prog_9_method_12_code_96 8 rfl rfl rfl) (by decide) (fun h22 => ?_) (fun h22 => ?_)
  · replace hf := gneg hf h22
    exact b_Scribe_writeSpan_116 X hrec5 hf hZ18 hS18 (lv_sub hl [0, 1, 2, 3] rfl)
  · replace hf := gpos hf h22
    refine lv_aload_n hx hb (D_42 W_prog_9_method_12_code_96 11 rfl rfl) rfl (lv_at hl 2 rfl) ?_
    refine zget (ci := 7) (C := RX7) (T := TX7) (v := va_rf (zrf ad 0 (F18 7 l0 1))) (k := 1) hx hb hts inW_7 hown hK hZ18 g19.1 g19.2 rfl (by decide) k_2_99 rfl (D_180 W_prog_9_method_12_code_96 12 rfl rfl rfl) ?_
    refine va_ldcS hx hb hown (hX.2.2.2.2.1 13 _ rfl).1 (D_18 W_prog_9_method_12_code_96 15 rfl rfl) ?_
    obtain ⟨g23, hf⟩ := gif hf
    refine W.eq (g2 := F0 m 113 ls [.ref (aS 13), .ref (ad 0 (F18 7 l0 1) 0)]) (by rw [zrf_pos (ad := ad) (t := 0) g23.1]; try rfl) ?_
    obtain ⟨r24, F24, B24, hc24, hf⟩ := gbind hf
    refine va_callv (va_runV (As := [.ref (aS 13)]) (rest := []) ⟨hx, hb, hml, hown, hts⟩ (c_ByteRow_putText (l := l) hc24) (cwV 1 hts (gdV k_8_172 k_7_129 k_7_130 k_1_2 k_7_131) rfl rfl rfl (by decide +kernel) ⟨Nat.le_of_ble_eq_true rfl, Nat.le_of_ble_eq_true rfl⟩) (zPV X hZ18 hS18 (ci := 0) g23.1 g23.2 (r := (RX0, TX0, 3)) rfl [.ref (aS 13)]) rfl rfl hl.1 rfl (lv_room (Nat.le_of_ble_eq_true rfl)) (D_182 W_prog_9_method_12_code_96 17 rfl rfl rfl) ⟨Nat.le_of_ble_eq_true rfl, Nat.le_of_ble_eq_true rfl⟩) hS18 (fun q _ h => zAin X hS18 q h) (zAin X hS18) (fun u24 t24 H24 locs24 ht24 hv24 hw24 hB24 hz24 hk24 hS24 => ?_)
    have hZ24 := zBack X ht24 hB24
    exact b_Scribe_writeSpan_116 X hrec5 hf hZ24 hS24 (lv_sub hl [0, 1, 2, 3] rfl)

def f_Scribe_writeSpan_5 (K : zK) : Nat → Int → Int → Int → Int → zF → zB → zO
  | 0, _, _, _, _, _, _ => none
  | n + 1, l4, l3, l0, l2, F, B => if r32 l4 then (if 51200 ≤ l4 then f_Scribe_writeSpan_122 K F B else if r32 l3 then if r32 l2 then (if l2 ≤ l3 then f_Scribe_writeSpan_122 K F B else if 0 ≤ l0 ∧ l0 < K.2 7 then if r32 (F 7 l0 3) then (if (F 7 l0 3) ≤ 0 then f_Scribe_writeSpan_122 K F B else if ¬ iI (F 7 l0 3) = 0 then if r32 (l2 - l3) then if r32 ((F 7 l0 3) - (zrm l3 (F 7 l0 3))) then if 0 ≤ (F 7 l0 0) ∧ (F 7 l0 0) < K.2 8 then zbind (f_S_nextValue K (B 8 (F 7 l0 0) 0 4) (B 8 (F 7 l0 0) 0 5) (zrm l3 (F 7 l0 3)) (zmin (l2 - l3) ((F 7 l0 3) - (zrm l3 (F 7 l0 3)))) F B) (fun r13 F13 B13 => zbind (f_S_fineValue K r13 F13 B13) (fun r14 F14 B14 => if r32 (l3 + r14) then (if l2 ≤ (l3 + r14) then f_Scribe_writeSpan_95 (f_Scribe_writeSpan_5 K n) K (l3 + r14) l4 l0 l2 l0 r13 0 F14 B14 else f_Scribe_writeSpan_95 (f_Scribe_writeSpan_5 K n) K (l3 + r14) l4 l0 l2 l0 r13 1 F14 B14) else none)) else none else none else none else none) else none else none) else none else none) else none
set_option maxHeartbeats 4000000 in
set_option maxRecDepth 100000 in
theorem b_Scribe_writeSpan_5 {D : va_G} {ca : Nat → ClassId} {ad : Nat → Int → Nat → Nat} {L : List Nat} {aS vS : Nat → Nat} {A : Nat → Prop} {p : Program} {l : Launch} {e : Env} {s : State} {m : MethodId} {args : Array Value} {below : List Frame} {meth : Method} {c : Code} {K : zK} {r : Int} {F9 : zF} {B9 : zB} (X : zX D ca L aS vS A p s m args meth c prog_9_method_12_code 7 (Option.none : Option Jvm.ClassFile.FieldType) "StaveHouse$Scribe") : ∀ {n : Nat} {l4 : Int} {l3 : Int} {l0 : Int} {l2 : Int} {F : zF} {B : zB} {H : Heap} {locs : List Loc} {ls : Array Slot}, f_Scribe_writeSpan_5 K n l4 l3 l0 l2 F B = some (r, F9, B9) → zH D ca ad lnC K.2 L F B A H → va_S A s.heap H locs → lv_has ls 7 [(4, .int (iI l4)), (3, .int (iI l3)), (0, .ref (ad 7 l0 0)), (2, .int (iI l2))] → W p l e ({ frames := 6, cells := 0, slots := 0, locals := 131 } : Room) s m args below meth c H locs 0 0 (MQ below (Q_Scribe_writeSpan K D ca ad L r F9 B9 A) args s 0 0 A) (F0 m 5 ls []) := by
  obtain ⟨hx, hb, hr, hml, hown, hts, hlk, hK, hA, hL, hX⟩ := id X
  intro n
  induction n with
  | zero =>
    intros
    rename_i hf _ _ _
    cases hf
  | succ n ih =>
    intro l4 l3 l0 l2 F B H locs ls hf hZ hS hl
    replace hf : (if r32 l4 then (if 51200 ≤ l4 then f_Scribe_writeSpan_122 K F B else if r32 l3 then if r32 l2 then (if l2 ≤ l3 then f_Scribe_writeSpan_122 K F B else if 0 ≤ l0 ∧ l0 < K.2 7 then if r32 (F 7 l0 3) then (if (F 7 l0 3) ≤ 0 then f_Scribe_writeSpan_122 K F B else if ¬ iI (F 7 l0 3) = 0 then if r32 (l2 - l3) then if r32 ((F 7 l0 3) - (zrm l3 (F 7 l0 3))) then if 0 ≤ (F 7 l0 0) ∧ (F 7 l0 0) < K.2 8 then zbind (f_S_nextValue K (B 8 (F 7 l0 0) 0 4) (B 8 (F 7 l0 0) 0 5) (zrm l3 (F 7 l0 3)) (zmin (l2 - l3) ((F 7 l0 3) - (zrm l3 (F 7 l0 3)))) F B) (fun r13 F13 B13 => zbind (f_S_fineValue K r13 F13 B13) (fun r14 F14 B14 => if r32 (l3 + r14) then (if l2 ≤ (l3 + r14) then f_Scribe_writeSpan_95 (f_Scribe_writeSpan_5 K n) K (l3 + r14) l4 l0 l2 l0 r13 0 F14 B14 else f_Scribe_writeSpan_95 (f_Scribe_writeSpan_5 K n) K (l3 + r14) l4 l0 l2 l0 r13 1 F14 B14) else none)) else none else none else none else none) else none else none) else none else none) else none) = some (r, F9, B9) := hf
    refine lv_iload hx hb (D_21 W_prog_9_method_12_code_0 5 rfl rfl) (lv_at hl 0 rfl) ?_
    refine lv_ldc hx hb hown (hts _ k_8_199) (D_18 W_prog_9_method_12_code_0 7 rfl rfl) ?_
    refine W.eq (g2 := F0 m 9 ls [.int (iI 51200), .int (iI l4)]) rfl ?_
    obtain ⟨g1, hf⟩ := gif hf
    refine zge (tgt := 122) hx hb g1 (by decide) (D_162 W_prog_9_method_12_code_0 9 rfl rfl rfl) (by decide) (fun h2 => ?_) (fun h2 => ?_)
    · replace hf := gpos hf h2
      exact b_Scribe_writeSpan_122 X hf hZ hS (lv_sub hl [] rfl)
    · replace hf := gneg hf h2
      refine lv_iload_n hx hb (D_29 W_prog_9_method_12_code_0 12 rfl rfl) rfl (lv_at hl 1 rfl) ?_
      refine lv_iload_n hx hb (D_28 W_prog_9_method_12_code_0 13 rfl rfl) rfl (lv_at hl 3 rfl) ?_
      obtain ⟨g3, hf⟩ := gif hf
      obtain ⟨g4, hf⟩ := gif hf
      refine zge (tgt := 122) hx hb g3 g4 (D_162 W_prog_9_method_12_code_0 14 rfl rfl rfl) (by decide) (fun h5 => ?_) (fun h5 => ?_)
      · replace hf := gpos hf h5
        exact b_Scribe_writeSpan_122 X hf hZ hS (lv_sub hl [] rfl)
      · replace hf := gneg hf h5
        refine lv_aload_n hx hb (D_42 W_prog_9_method_12_code_0 17 rfl rfl) rfl (lv_at hl 2 rfl) ?_
        obtain ⟨g6, hf⟩ := gif hf
        refine zget (ci := 7) (C := RX7) (T := TX7) (v := .int (iI (F 7 l0 3))) (k := 3) hx hb hts inW_7 hown hK hZ g6.1 g6.2 rfl (by decide) k_2_101 rfl (D_180 W_prog_9_method_12_code_0 18 rfl rfl rfl) ?_
        obtain ⟨g7, hf⟩ := gif hf
        refine z0le (tgt := 122) hx hb g7 (D_158 W_prog_9_method_12_code_0 21 rfl rfl rfl) (by decide) (fun h8 => ?_) (fun h8 => ?_)
        · replace hf := gpos hf h8
          exact b_Scribe_writeSpan_122 X hf hZ hS (lv_sub hl [] rfl)
        · replace hf := gneg hf h8
          refine lv_iload_n hx hb (D_28 W_prog_9_method_12_code_0 24 rfl rfl) rfl (lv_at hl 3 rfl) ?_
          refine lv_iload_n hx hb (D_29 W_prog_9_method_12_code_0 25 rfl rfl) rfl (lv_at hl 1 rfl) ?_
          refine zsub hx hb (D_100 W_prog_9_method_12_code_0 26 rfl rfl) ?_
          refine lv_aload_n hx hb (D_42 W_prog_9_method_12_code_0 27 rfl rfl) rfl (lv_at hl 2 rfl) ?_
          refine zget (ci := 7) (C := RX7) (T := TX7) (v := .int (iI (F 7 l0 3))) (k := 3) hx hb hts inW_7 hown hK hZ g6.1 g6.2 rfl (by decide) k_2_101 rfl (D_180 W_prog_9_method_12_code_0 28 rfl rfl rfl) ?_
          refine lv_iload_n hx hb (D_29 W_prog_9_method_12_code_0 31 rfl rfl) rfl (lv_at hl 1 rfl) ?_
          refine lv_aload_n hx hb (D_42 W_prog_9_method_12_code_32 0 rfl rfl) rfl (lv_at hl 2 rfl) ?_
          refine zget (ci := 7) (C := RX7) (T := TX7) (v := .int (iI (F 7 l0 3))) (k := 3) hx hb hts inW_7 hown hK hZ g6.1 g6.2 rfl (by decide) k_2_101 rfl (D_180 W_prog_9_method_12_code_32 1 rfl rfl rfl) ?_
          obtain ⟨g9, hf⟩ := gif hf
          refine zrm_r hx hb g9 (D_112 W_prog_9_method_12_code_32 4 rfl rfl) ?_
          refine zsub hx hb (D_100 W_prog_9_method_12_code_32 5 rfl rfl) ?_
          obtain ⟨g10, hf⟩ := gif hf
          obtain ⟨g11, hf⟩ := gif hf
          refine va_mmin hx hb (by rw [hml]; exact hl.1.symm) hown (hts _ k_8_200) (hts _ k_3_97) (hts _ k_1_3) (hts _ k_3_98) (Nat.le_of_ble_eq_true rfl) (Nat.le_of_ble_eq_true rfl) (Nat.le_of_ble_eq_true rfl) (Nat.le_of_ble_eq_true rfl) (D_184 W_prog_9_method_12_code_32 6 rfl rfl rfl) ?_
          rw [zmin_e g10 g11]
          refine lv_istore (lv' := [(5, .int (iI (zmin (l2 - l3) ((F 7 l0 3) - (zrm l3 (F 7 l0 3)))))), (4, .int (iI l4)), (3, .int (iI l3)), (0, .ref (ad 7 l0 0)), (2, .int (iI l2))]) hx hb (D_54 W_prog_9_method_12_code_32 9 rfl rfl) hl (by decide) rfl (fun ls hl => ?_)
          refine lv_aload_n hx hb (D_42 W_prog_9_method_12_code_32 11 rfl rfl) rfl (lv_at hl 3 rfl) ?_
          refine zget (ci := 7) (C := RX7) (T := TX7) (v := va_rf (zrf ad 8 (F 7 l0 0))) (k := 0) hx hb hts inW_7 hown hK hZ g6.1 g6.2 rfl (by decide) k_2_98 rfl (D_180 W_prog_9_method_12_code_32 12 rfl rfl rfl) ?_
          obtain ⟨g12, hf⟩ := gif hf
          refine zunrf g12.1 ?_
          refine zget (ci := 8) (C := RX8) (T := TX8) (v := .ref (ad 8 (F 7 l0 0) (0 + 1))) (k := 0) hx hb hts inW_8 hown hK hZ g12.1 g12.2 rfl (by decide) k_7_218 rfl (D_180 W_prog_9_method_12_code_32 15 rfl rfl rfl) ?_
          refine lv_iconst (v := iI 4) hx hb (D_7 W_prog_9_method_12_code_32 18 rfl rfl) rfl ?_
          refine zald (ci := 8) (k := 0) hx hb hK rfl hZ g12.1 g12.2 rfl (Nat.le_of_ble_eq_true rfl) (by decide) (show (4 : Int) < 7 by decide) (D_46 W_prog_9_method_12_code_32 19 rfl rfl) ?_
          refine lv_aload_n hx hb (D_42 W_prog_9_method_12_code_32 20 rfl rfl) rfl (lv_at hl 3 rfl) ?_
          refine zget (ci := 7) (C := RX7) (T := TX7) (v := va_rf (zrf ad 8 (F 7 l0 0))) (k := 0) hx hb hts inW_7 hown hK hZ g6.1 g6.2 rfl (by decide) k_2_98 rfl (D_180 W_prog_9_method_12_code_32 21 rfl rfl rfl) ?_
          refine zunrf g12.1 ?_
          refine zget (ci := 8) (C := RX8) (T := TX8) (v := .ref (ad 8 (F 7 l0 0) (0 + 1))) (k := 0) hx hb hts inW_8 hown hK hZ g12.1 g12.2 rfl (by decide) k_7_218 rfl (D_180 W_prog_9_method_12_code_32 24 rfl rfl rfl) ?_
          refine lv_iconst (v := iI 5) hx hb (D_8 W_prog_9_method_12_code_32 27 rfl rfl) rfl ?_
          refine zald (ci := 8) (k := 0) hx hb hK rfl hZ g12.1 g12.2 rfl (Nat.le_of_ble_eq_true rfl) (by decide) (show (5 : Int) < 7 by decide) (D_46 W_prog_9_method_12_code_32 28 rfl rfl) ?_
          refine lv_iload_n hx hb (D_29 W_prog_9_method_12_code_32 29 rfl rfl) rfl (lv_at hl 2 rfl) ?_
          refine lv_aload_n hx hb (D_42 W_prog_9_method_12_code_32 30 rfl rfl) rfl (lv_at hl 3 rfl) ?_
          refine zget (ci := 7) (C := RX7) (T := TX7) (v := .int (iI (F 7 l0 3))) (k := 3) hx hb hts inW_7 hown hK hZ g6.1 g6.2 rfl (by decide) k_2_101 rfl (D_180 W_prog_9_method_12_code_32 31 rfl rfl rfl) ?_
          refine zrm_r hx hb g9 (D_112 W_prog_9_method_12_code_64 2 rfl rfl) ?_
          refine lv_iload hx hb (D_21 W_prog_9_method_12_code_64 3 rfl rfl) (lv_at hl 0 rfl) ?_
          obtain ⟨r13, F13, B13, hc13, hf⟩ := gbind hf
          refine va_calli (va_runSN (As := [.int (iI (B 8 (F 7 l0 0) 0 4)), .int (iI (B 8 (F 7 l0 0) 0 5)), .int (iI (zrm l3 (F 7 l0 3))), .int (iI (zmin (l2 - l3) ((F 7 l0 3) - (zrm l3 (F 7 l0 3)))))]) (rest := []) ⟨hx, hb, hml, hown, hts⟩ (c_S_nextValue (l := l) hc13) ⟨va_cnB 4 hts (gdC k_5_88) rfl rfl rfl (hX.1 _ (List.mem_of_getElem? (i := 22) rfl) :) (hts _ k_1_1) (by decide +kernel) ⟨Nat.le_of_ble_eq_true rfl, Nat.le_of_ble_eq_true rfl⟩, hts _ k_5_87, trivial⟩ (zPS X hZ hS [.int (iI (B 8 (F 7 l0 0) 0 4)), .int (iI (B 8 (F 7 l0 0) 0 5)), .int (iI (zrm l3 (F 7 l0 3))), .int (iI (zmin (l2 - l3) ((F 7 l0 3) - (zrm l3 (F 7 l0 3)))))]) rfl rfl hl.1 rfl (lv_room (Nat.le_of_ble_eq_true rfl)) (D_184 W_prog_9_method_12_code_64 5 rfl rfl rfl) ⟨Nat.le_of_ble_eq_true rfl, Nat.le_of_ble_eq_true rfl⟩) hS (fun q _ h => zAin X hS q h) (zAin X hS) (fun p13 u13 t13 H13 locs13 ht13 hv13 hw13 hB13 hz13 hk13 hS13 => ?_)
          have hZ13 := zBack X ht13 hB13
          subst hw13
          refine lv_istore (lv' := [(6, .int (iI r13)), (5, .int (iI (zmin (l2 - l3) ((F 7 l0 3) - (zrm l3 (F 7 l0 3)))))), (4, .int (iI l4)), (3, .int (iI l3)), (0, .ref (ad 7 l0 0)), (2, .int (iI l2))]) hx hb (D_54 W_prog_9_method_12_code_64 8 rfl rfl) hl (by decide) rfl (fun ls hl => ?_)
          refine lv_iload_n hx hb (D_29 W_prog_9_method_12_code_64 10 rfl rfl) rfl (lv_at hl 3 rfl) ?_
          refine lv_iload hx hb (D_21 W_prog_9_method_12_code_64 11 rfl rfl) (lv_at hl 0 rfl) ?_
          obtain ⟨r14, F14, B14, hc14, hf⟩ := gbind hf
          refine va_calli (va_runSN (As := [.int (iI r13)]) (rest := [.int (iI l3)]) ⟨hx, hb, hml, hown, hts⟩ (c_S_fineValue (l := l) hc14) ⟨va_cnB 1 hts (gdC k_5_69) rfl rfl rfl (hX.1 _ (List.mem_of_getElem? (i := 23) rfl) :) (hts _ k_1_1) (by decide +kernel) ⟨Nat.le_of_ble_eq_true rfl, Nat.le_of_ble_eq_true rfl⟩, hts _ k_5_68, trivial⟩ (zPS X hZ13 hS13 [.int (iI r13)]) rfl rfl hl.1 rfl (lv_room (Nat.le_of_ble_eq_true rfl)) (D_184 W_prog_9_method_12_code_64 13 rfl rfl rfl) ⟨Nat.le_of_ble_eq_true rfl, Nat.le_of_ble_eq_true rfl⟩) hS13 (fun q _ h => zAin X hS13 q h) (zAin X hS13) (fun p14 u14 t14 H14 locs14 ht14 hv14 hw14 hB14 hz14 hk14 hS14 => ?_)
          have hZ14 := zBack X ht14 hB14
          subst hw14
          refine zadd hx hb (D_96 W_prog_9_method_12_code_64 16 rfl rfl) ?_
          refine lv_istore_n (lv' := [(3, .int (iI (l3 + r14))), (6, .int (iI r13)), (5, .int (iI (zmin (l2 - l3) ((F 7 l0 3) - (zrm l3 (F 7 l0 3)))))), (4, .int (iI l4)), (0, .ref (ad 7 l0 0)), (2, .int (iI l2))]) hx hb (D_62 W_prog_9_method_12_code_64 17 rfl rfl) rfl hl (by decide) rfl (fun ls hl => ?_)
          refine lv_aload_n hx hb (D_42 W_prog_9_method_12_code_64 18 rfl rfl) rfl (lv_at hl 4 rfl) ?_
          refine lv_iload hx hb (D_21 W_prog_9_method_12_code_64 19 rfl rfl) (lv_at hl 1 rfl) ?_
          refine lv_iload_n hx hb (D_29 W_prog_9_method_12_code_64 21 rfl rfl) rfl (lv_at hl 0 rfl) ?_
          refine lv_iload_n hx hb (D_28 W_prog_9_method_12_code_64 22 rfl rfl) rfl (lv_at hl 5 rfl) ?_
          obtain ⟨g15, hf⟩ := gif hf
          refine zge (tgt := 94) hx hb g15 g4 (D_162 W_prog_9_method_12_code_64 23 rfl rfl rfl) (by decide) (fun h16 => ?_) (fun h16 => ?_)
          · replace hf := gpos hf h16
            refine lv_iconst (v := iI 0) hx hb (D_3 W_prog_9_method_12_code_64 30 rfl rfl) rfl ?_
            refine W.eq (g2 := F0 m 95 ls [.int (iI 0), .int (iI r13), va_rf (zrf ad 7 l0)]) (by rw [zrf_pos (ad := ad) (t := 7) g6.1]; try rfl) ?_
            exact b_Scribe_writeSpan_95 X ih hf hZ14 hS14 (lv_sub hl [0, 3, 4, 5] rfl)
          · replace hf := gneg hf h16
            refine lv_iconst (v := iI 1) hx hb (D_4 W_prog_9_method_12_code_64 26 rfl rfl) rfl ?_
            refine lv_goto (tgt := 95) hx hb (D_167 W_prog_9_method_12_code_64 27 rfl rfl rfl) (by decide) ?_
            refine W.eq (g2 := F0 m 95 ls [.int (iI 1), .int (iI r13), va_rf (zrf ad 7 l0)]) (by rw [zrf_pos (ad := ad) (t := 7) g6.1]; try rfl) ?_
            exact b_Scribe_writeSpan_95 X ih hf hZ14 hS14 (lv_sub hl [0, 3, 4, 5] rfl)

def f_Scribe_writeSpan (K : zK) (l0 : Int) (l1 : Int) (l2 : Int) (F : zF) (B : zB) : zO := f_Scribe_writeSpan_5 K K.1 0 l1 l0 l2 F B
set_option maxHeartbeats 4000000 in
set_option maxRecDepth 100000 in
theorem c_Scribe_writeSpan {l : Launch} {D : va_G} {ca : Nat → ClassId} {ad : Nat → Int → Nat → Nat} {L : List Nat} {aS vS : Nat → Nat} {sz : Nat} {K : zK}  {l0 : Int} {l1 : Int} {l2 : Int} {F F9 : zF} {B B9 : zB} {r : Int} (hf : f_Scribe_writeSpan K l0 l1 l2 F B = some (r, F9, B9)) : Met l ({ cls := "StaveHouse$Scribe", name := "writeSpan", desc := "(II)V" } : Jvm.MethodName) (Cond.code ({ cls := "StaveHouse$Scribe", name := "writeSpan", desc := "(II)V" } : Jvm.MethodName) prog_9_method_12_code 7 (Option.none : Option Jvm.ClassFile.FieldType) :: wAll) ({ frames := 6, cells := 0, slots := 0, locals := 131 } : Room) (va_Pc [.ref (ad 7 l0 0), .int (iI l1), .int (iI l2)] (zPre D ca ad lnC K.2 L aS vS F B sz)) (Q_Scribe_writeSpan K D ca ad L r F9 B9 (zA L sz)) 0 0 (zA L sz) := by
  refine zMet (Qc := Q_Scribe_writeSpan K D ca ad L r F9 B9) (lv := [(0, .ref (ad 7 l0 0)), (1, .int (iI l1)), (2, .int (iI l2))]) (by decide) (Nat.le_of_ble_eq_true rfl) rfl (fun A p e s m below meth c ls X hZ hS hl => ?_)
  obtain ⟨hx, hb, hr, hml, hown, hts, hlk, hK, hA, hL, hX⟩ := id X
  replace hf : (f_Scribe_writeSpan_5 K K.1 0 l1 l0 l2 F B) = some (r, F9, B9) := hf
  refine lv_iload_n hx hb (D_27 W_prog_9_method_12_code_0 0 rfl rfl) rfl (lv_at hl 1 rfl) ?_
  refine lv_istore_n (lv' := [(3, .int (iI l1)), (0, .ref (ad 7 l0 0)), (1, .int (iI l1)), (2, .int (iI l2))]) hx hb (D_62 W_prog_9_method_12_code_0 1 rfl rfl) rfl hl (by decide) rfl (fun ls hl => ?_)
  refine lv_iconst (v := iI 0) hx hb (D_3 W_prog_9_method_12_code_0 2 rfl rfl) rfl ?_
  refine lv_istore (lv' := [(4, .int (iI 0)), (3, .int (iI l1)), (0, .ref (ad 7 l0 0)), (1, .int (iI l1)), (2, .int (iI l2))]) hx hb (D_54 W_prog_9_method_12_code_0 3 rfl rfl) hl (by decide) rfl (fun ls hl => ?_)
  exact b_Scribe_writeSpan_5 X hf hZ hS (lv_sub hl [0, 1, 2, 4] rfl)

abbrev Q_S_play (K : zK) (D : va_G) (ca : Nat → ClassId) (ad : Nat → Int → Nat → Nat) (L : List Nat) (r : Int) (F : zF) (B : zB) (A : Nat → Prop) : Array Value → State → Outcome → State → Prop := va_Qi (S := Unit) (fun p _ => p = iI r) (fun _ => zPo D ca ad lnC K.2 L F B A) A
def f_S_play_33 (K : zK)  (F : zF) (B : zB) : zO := some ((-1), F, B)
set_option maxHeartbeats 4000000 in
set_option maxRecDepth 100000 in
theorem b_S_play_33 {D : va_G} {ca : Nat → ClassId} {ad : Nat → Int → Nat → Nat} {L : List Nat} {aS vS : Nat → Nat} {A : Nat → Prop} {p : Program} {l : Launch} {e : Env} {s : State} {m : MethodId} {args : Array Value} {below : List Frame} {meth : Method} {c : Code} {K : zK} {r : Int} {F9 : zF} {B9 : zB} (X : zX D ca L aS vS A p s m args meth c prog_1_method_28_code 5 (Option.some Jvm.ClassFile.FieldType.int) "StaveHouse")  {F : zF} {B : zB} {H : Heap} {locs : List Loc} {ls : Array Slot} (hf : f_S_play_33 K  F B = some (r, F9, B9)) (hZ : zH D ca ad lnC K.2 L F B A H) (hS : va_S A s.heap H locs) (hl : lv_has ls 5 []) : W p l e ({ frames := 5, cells := 0, slots := 0, locals := 112 } : Room) s m args below meth c H locs 0 0 (MQ below (Q_S_play K D ca ad L r F9 B9 A) args s 0 0 A) (F0 m 33 ls []) := by
  obtain ⟨hx, hb, hr, hml, hown, hts, hlk, hK, hA, hL, hX⟩ := id X
  replace hf : (some ((-1), F, B)) = some (r, F9, B9) := hf
  refine lv_iconst (v := iI (-1)) hx hb (D_2 W_prog_1_method_28_code_32 1 rfl rfl) rfl ?_
  cases hf
  exact W.iret hx hb hr (fun t ht hW => ⟨⟨_, (), rfl, rfl, by rw [ht]; exact hZ, va_K.moved hW.alike hK⟩, hS.F ht⟩) hS.2.2 (D_172 W_prog_1_method_28_code_32 2 rfl rfl) hlk

def f_S_play (K : zK) (l0 : Int) (l1 : Int) (l2 : Int) (F : zF) (B : zB) : zO := if 0 ≤ l0 ∧ l0 < K.2 12 then zbind (f_S_performanceOf K l0 l1 F B) (fun r2 F2 B2 => zbind (f_S_pieceAt K l0 l1 F2 B2) (fun r3 F3 B3 => (if r2 < 0 then f_S_play_33 K F3 B3 else (if r3 < 0 then f_S_play_33 K F3 B3 else if r32 l2 then (if l2 < 0 then f_S_play_33 K F3 B3 else (if l2 ≤ 1000 then if 0 ≤ r2 ∧ r2 < K.2 5 then if 0 ≤ r3 ∧ r3 < K.2 6 then zbind (f_Performance_playOn K r2 r3 l2 F3 B3) (fun r11 F11 B11 => some (r11, F11, B11)) else none else none else f_S_play_33 K F3 B3)) else none)))) else none
set_option maxHeartbeats 4000000 in
set_option maxRecDepth 100000 in
theorem c_S_play {l : Launch} {D : va_G} {ca : Nat → ClassId} {ad : Nat → Int → Nat → Nat} {L : List Nat} {aS vS : Nat → Nat} {sz : Nat} {K : zK}  {l0 : Int} {l1 : Int} {l2 : Int} {F F9 : zF} {B B9 : zB} {r : Int} (hf : f_S_play K l0 l1 l2 F B = some (r, F9, B9)) : Met l ({ cls := "StaveHouse", name := "play", desc := "(II)I" } : Jvm.MethodName) (Cond.code ({ cls := "StaveHouse", name := "play", desc := "(II)I" } : Jvm.MethodName) prog_1_method_28_code 5 (Option.some Jvm.ClassFile.FieldType.int) :: wAll) ({ frames := 5, cells := 0, slots := 0, locals := 112 } : Room) (va_Pc [.ref (ad 12 l0 0), .int (iI l1), .int (iI l2)] (zPre D ca ad lnC K.2 L aS vS F B sz)) (Q_S_play K D ca ad L r F9 B9 (zA L sz)) 0 0 (zA L sz) := by
  refine zMet (Qc := Q_S_play K D ca ad L r F9 B9) (lv := [(0, .ref (ad 12 l0 0)), (1, .int (iI l1)), (2, .int (iI l2))]) (by decide) (Nat.le_of_ble_eq_true rfl) rfl (fun A p e s m below meth c ls X hZ hS hl => ?_)
  obtain ⟨hx, hb, hr, hml, hown, hts, hlk, hK, hA, hL, hX⟩ := id X
  replace hf : (if 0 ≤ l0 ∧ l0 < K.2 12 then zbind (f_S_performanceOf K l0 l1 F B) (fun r2 F2 B2 => zbind (f_S_pieceAt K l0 l1 F2 B2) (fun r3 F3 B3 => (if r2 < 0 then f_S_play_33 K F3 B3 else (if r3 < 0 then f_S_play_33 K F3 B3 else if r32 l2 then (if l2 < 0 then f_S_play_33 K F3 B3 else (if l2 ≤ 1000 then if 0 ≤ r2 ∧ r2 < K.2 5 then if 0 ≤ r3 ∧ r3 < K.2 6 then zbind (f_Performance_playOn K r2 r3 l2 F3 B3) (fun r11 F11 B11 => some (r11, F11, B11)) else none else none else f_S_play_33 K F3 B3)) else none)))) else none) = some (r, F9, B9) := hf
  refine lv_aload_n hx hb (D_42 W_prog_1_method_28_code_0 0 rfl rfl) rfl (lv_at hl 0 rfl) ?_
  refine lv_iload_n hx hb (D_27 W_prog_1_method_28_code_0 1 rfl rfl) rfl (lv_at hl 1 rfl) ?_
  obtain ⟨g1, hf⟩ := gif hf
  obtain ⟨r2, F2, B2, hc2, hf⟩ := gbind hf
  refine va_callq (va_runV (As := [.int (iI l1)]) (rest := []) ⟨hx, hb, hml, hown, hts⟩ (c_S_performanceOf (l := l) hc2) (cwV 1 hts (gdV k_7_108 k_7_110 ks_89 k_1_1 k_7_111) rfl rfl rfl (by decide +kernel) ⟨Nat.le_of_ble_eq_true rfl, Nat.le_of_ble_eq_true rfl⟩) (zPV X hZ hS (ci := 12) g1.1 g1.2 (r := (RX12, TX12, 10)) rfl [.int (iI l1)]) rfl rfl hl.1 rfl (lv_room (Nat.le_of_ble_eq_true rfl)) (D_182 W_prog_1_method_28_code_0 2 rfl rfl rfl) ⟨Nat.le_of_ble_eq_true rfl, Nat.le_of_ble_eq_true rfl⟩) hS (fun q _ h => zAin X hS q h) (zAin X hS) (fun p2 u2 t2 H2 locs2 ht2 hv2 hw2 hB2 hz2 hk2 hS2 => ?_)
  have hZ2 := zBack X ht2 hB2
  subst hw2
  refine zastore_n (lv' := [(0, .ref (ad 12 l0 0)), (1, .int (iI l1)), (2, .int (iI l2))]) hx hb (D_78 W_prog_1_method_28_code_0 5 rfl rfl) rfl hl (by decide) (fun _ _ => rfl) (fun ls hl => ?_)
  refine lv_aload_n hx hb (D_42 W_prog_1_method_28_code_0 6 rfl rfl) rfl (lv_at hl 1 rfl) ?_
  refine lv_iload_n hx hb (D_27 W_prog_1_method_28_code_0 7 rfl rfl) rfl (lv_at hl 2 rfl) ?_
  obtain ⟨r3, F3, B3, hc3, hf⟩ := gbind hf
  refine va_callq (va_runV (As := [.int (iI l1)]) (rest := []) ⟨hx, hb, hml, hown, hts⟩ (c_S_pieceAt (l := l) hc3) (cwV 1 hts (gdV k_5_182 k_5_184 ks_65 k_1_1 k_5_185) rfl rfl rfl (by decide +kernel) ⟨Nat.le_of_ble_eq_true rfl, Nat.le_of_ble_eq_true rfl⟩) (zPV X hZ2 hS2 (ci := 12) g1.1 g1.2 (r := (RX12, TX12, 10)) rfl [.int (iI l1)]) rfl rfl hl.1 rfl (lv_room (Nat.le_of_ble_eq_true rfl)) (D_182 W_prog_1_method_28_code_0 8 rfl rfl rfl) ⟨Nat.le_of_ble_eq_true rfl, Nat.le_of_ble_eq_true rfl⟩) hS2 (fun q _ h => zAin X hS2 q h) (zAin X hS2) (fun p3 u3 t3 H3 locs3 ht3 hv3 hw3 hB3 hz3 hk3 hS3 => ?_)
  have hZ3 := zBack X ht3 hB3
  subst hw3
  refine zastore (lv' := [(3, va_rf (zrf ad 5 r2)), (0, .ref (ad 12 l0 0)), (1, .int (iI l1)), (2, .int (iI l2))]) hx hb (D_58 W_prog_1_method_28_code_0 11 rfl rfl) hl (by decide) (fun v hv => by cases zrf ad 5 r2 <;> rfl) (fun ls hl => ?_)
  refine zaload_n hx hb (D_45 W_prog_1_method_28_code_0 13 rfl rfl) rfl (lv_at hl 1 rfl) ?_
  refine zifnull (tgt := 33) hx hb (D_198 W_prog_1_method_28_code_0 14 rfl rfl rfl) (by decide) (fun h4 => ?_) (fun h4 => ?_)
  · replace hf := gpos hf h4
    exact b_S_play_33 X hf hZ3 hS3 (lv_sub hl [] rfl)
  · replace hf := gneg hf h4
    refine zaload hx hb (D_25 W_prog_1_method_28_code_0 17 rfl rfl) (lv_at hl 0 rfl) ?_
    refine zifnull (tgt := 33) hx hb (D_198 W_prog_1_method_28_code_0 19 rfl rfl rfl) (by decide) (fun h5 => ?_) (fun h5 => ?_)
    · replace hf := gpos hf h5
      exact b_S_play_33 X hf hZ3 hS3 (lv_sub hl [] rfl)
    · replace hf := gneg hf h5
      refine lv_iload_n hx hb (D_28 W_prog_1_method_28_code_0 22 rfl rfl) rfl (lv_at hl 4 rfl) ?_
      obtain ⟨g6, hf⟩ := gif hf
      refine z0lt (tgt := 33) hx hb g6 (D_155 W_prog_1_method_28_code_0 23 rfl rfl rfl) (by decide) (fun h7 => ?_) (fun h7 => ?_)
      · replace hf := gpos hf h7
        exact b_S_play_33 X hf hZ3 hS3 (lv_sub hl [] rfl)
      · replace hf := gneg hf h7
        refine lv_iload_n hx hb (D_28 W_prog_1_method_28_code_0 26 rfl rfl) rfl (lv_at hl 4 rfl) ?_
        refine lv_sipush (v := iI 1000) hx hb (D_17 W_prog_1_method_28_code_0 27 rfl rfl rfl) (by decide) ?_
        refine zle (tgt := 35) hx hb g6 (by decide) (D_164 W_prog_1_method_28_code_0 30 rfl rfl rfl) (by decide) (fun h8 => ?_) (fun h8 => ?_)
        · replace hf := gpos hf h8
          refine zaload_n hx hb (D_45 W_prog_1_method_28_code_32 3 rfl rfl) rfl (lv_at hl 1 rfl) ?_
          refine zaload hx hb (D_25 W_prog_1_method_28_code_32 4 rfl rfl) (lv_at hl 0 rfl) ?_
          refine lv_iload_n hx hb (D_28 W_prog_1_method_28_code_32 6 rfl rfl) rfl (lv_at hl 4 rfl) ?_
          obtain ⟨g9, hf⟩ := gif hf
          refine W.eq (g2 := F0 m 39 ls [.int (iI l2), va_rf (zrf ad 6 r3), .ref (ad 5 r2 0)]) (by rw [zrf_pos (ad := ad) (t := 5) g9.1]; try rfl) ?_
          obtain ⟨g10, hf⟩ := gif hf
          refine W.eq (g2 := F0 m 39 ls [.int (iI l2), .ref (ad 6 r3 0), .ref (ad 5 r2 0)]) (by rw [zrf_pos (ad := ad) (t := 6) g10.1]; try rfl) ?_
          obtain ⟨r11, F11, B11, hc11, hf⟩ := gbind hf
          refine va_calli (va_runV (As := [.ref (ad 6 r3 0), .int (iI l2)]) (rest := []) ⟨hx, hb, hml, hown, hts⟩ (c_Performance_playOn (l := l) hc11) (cwV 2 hts (gdV k_8_238 k_8_239 k_9_0 k_1_20 k_9_1) rfl rfl rfl (by decide +kernel) ⟨Nat.le_of_ble_eq_true rfl, Nat.le_of_ble_eq_true rfl⟩) (zPV X hZ3 hS3 (ci := 5) g9.1 g9.2 (r := (RX5, TX5, 14)) rfl [.ref (ad 6 r3 0), .int (iI l2)]) rfl rfl hl.1 rfl (lv_room (Nat.le_of_ble_eq_true rfl)) (D_182 W_prog_1_method_28_code_32 7 rfl rfl rfl) ⟨Nat.le_of_ble_eq_true rfl, Nat.le_of_ble_eq_true rfl⟩) hS3 (fun q _ h => zAin X hS3 q h) (zAin X hS3) (fun p11 u11 t11 H11 locs11 ht11 hv11 hw11 hB11 hz11 hk11 hS11 => ?_)
          have hZ11 := zBack X ht11 hB11
          subst hw11
          cases hf
          exact W.iret hx hb hr (fun t ht hW => ⟨⟨_, (), rfl, rfl, by rw [ht]; exact hZ11, va_K.moved hW.alike hK⟩, hS11.F ht⟩) hS11.2.2 (D_172 W_prog_1_method_28_code_32 10 rfl rfl) hlk
        · replace hf := gneg hf h8
          exact b_S_play_33 X hf hZ3 hS3 (lv_sub hl [] rfl)

abbrev Q_S_follows (K : zK) (D : va_G) (ca : Nat → ClassId) (ad : Nat → Int → Nat → Nat) (L : List Nat) (r : Int) (F : zF) (B : zB) (A : Nat → Prop) : Array Value → State → Outcome → State → Prop := va_Ql (S := Unit) (fun p _ => p = lI r) (fun _ => zPo D ca ad lnC K.2 L F B A) A
def f_S_follows_87 (K : zK) (l8 : Int) (l7 : Int) (l6 : Int) (l5 : Int) (l4 : Int) (s0 : Int) (F : zF) (B : zB) : zO := if r32 s0 then (if s0 = 0 then some (0, F, B) else if 0 ≤ l6 ∧ l6 < K.2 4 then if 0 ≤ l8 ∧ l8 < 200 then if 0 ≤ (B 4 l6 5 l8) ∧ (B 4 l6 5 l8) < K.2 1 then if 0 ≤ l5 ∧ l5 < K.2 4 then if 0 ≤ l7 ∧ l7 < 200 then if 0 ≤ (B 4 l5 5 l7) ∧ (B 4 l5 5 l7) < K.2 1 then if r32 l4 then (if l4 = 0 then some (s0, F, B) else (if l4 = 1 then zbind (f_Event_topStep K (B 4 l6 5 l8) F B) (fun r33 F33 B33 => if 0 ≤ (B33 4 l5 5 l7) ∧ (B33 4 l5 5 l7) < K.2 1 then zbind (f_Event_topStep K (B33 4 l5 5 l7) F33 B33) (fun r35 F35 B35 => if r32 (r33 - r35) then some (r33 - r35, F35, B35) else none) else none) else (if l4 = 2 then zbind (f_S_above K ((F 1 (B 4 l6 5 l8) 0) - (F 1 (B 4 l5 5 l7) 0)) F B) (fun r38 F38 B38 => some (r38, F38, B38)) else zbind (f_S_below K ((F 1 (B 4 l6 5 l8) 0) - (F 1 (B 4 l5 5 l7) 0)) F B) (fun r39 F39 B39 => some (r39, F39, B39))))) else none else none else none else none else none else none else none) else none
set_option maxHeartbeats 4000000 in
set_option maxRecDepth 100000 in
theorem b_S_follows_87 {D : va_G} {ca : Nat → ClassId} {ad : Nat → Int → Nat → Nat} {L : List Nat} {aS vS : Nat → Nat} {A : Nat → Prop} {p : Program} {l : Launch} {e : Env} {s : State} {m : MethodId} {args : Array Value} {below : List Frame} {meth : Method} {c : Code} {K : zK} {r : Int} {F9 : zF} {B9 : zB} (X : zX D ca L aS vS A p s m args meth c prog_1_method_32_code 12 (Option.some Jvm.ClassFile.FieldType.long) "StaveHouse") {l8 : Int} {l7 : Int} {l6 : Int} {l5 : Int} {l4 : Int} {s0 : Int} {F : zF} {B : zB} {H : Heap} {locs : List Loc} {ls : Array Slot} (hf : f_S_follows_87 K l8 l7 l6 l5 l4 s0 F B = some (r, F9, B9)) (hZ : zH D ca ad lnC K.2 L F B A H) (hS : va_S A s.heap H locs) (hl : lv_has ls 12 [(8, .int (iI l8)), (7, .int (iI l7)), (6, va_rf (zrf ad 4 l6)), (5, va_rf (zrf ad 4 l5)), (4, .int (iI l4))]) : W p l e ({ frames := 6, cells := 0, slots := 0, locals := 134 } : Room) s m args below meth c H locs 0 0 (MQ below (Q_S_follows K D ca ad L r F9 B9 A) args s 0 0 A) (F0 m 87 ls [.int (iI s0)]) := by
  obtain ⟨hx, hb, hr, hml, hown, hts, hlk, hK, hA, hL, hX⟩ := id X
  replace hf : (if r32 s0 then (if s0 = 0 then some (0, F, B) else if 0 ≤ l6 ∧ l6 < K.2 4 then if 0 ≤ l8 ∧ l8 < 200 then if 0 ≤ (B 4 l6 5 l8) ∧ (B 4 l6 5 l8) < K.2 1 then if 0 ≤ l5 ∧ l5 < K.2 4 then if 0 ≤ l7 ∧ l7 < 200 then if 0 ≤ (B 4 l5 5 l7) ∧ (B 4 l5 5 l7) < K.2 1 then if r32 l4 then (if l4 = 0 then some (s0, F, B) else (if l4 = 1 then zbind (f_Event_topStep K (B 4 l6 5 l8) F B) (fun r33 F33 B33 => if 0 ≤ (B33 4 l5 5 l7) ∧ (B33 4 l5 5 l7) < K.2 1 then zbind (f_Event_topStep K (B33 4 l5 5 l7) F33 B33) (fun r35 F35 B35 => if r32 (r33 - r35) then some (r33 - r35, F35, B35) else none) else none) else (if l4 = 2 then zbind (f_S_above K ((F 1 (B 4 l6 5 l8) 0) - (F 1 (B 4 l5 5 l7) 0)) F B) (fun r38 F38 B38 => some (r38, F38, B38)) else zbind (f_S_below K ((F 1 (B 4 l6 5 l8) 0) - (F 1 (B 4 l5 5 l7) 0)) F B) (fun r39 F39 B39 => some (r39, F39, B39))))) else none else none else none else none else none else none else none) else none) = some (r, F9, B9) := hf
  refine lv_istore (lv' := [(9, .int (iI s0)), (8, .int (iI l8)), (7, .int (iI l7)), (6, va_rf (zrf ad 4 l6)), (5, va_rf (zrf ad 4 l5)), (4, .int (iI l4))]) hx hb (D_54 W_prog_1_method_32_code_64 23 rfl rfl) hl (by decide) rfl (fun ls hl => ?_)
  refine lv_iload hx hb (D_21 W_prog_1_method_32_code_64 25 rfl rfl) (lv_at hl 0 rfl) ?_
  obtain ⟨g21, hf⟩ := gif hf
  refine z0ne (tgt := 96) hx hb g21 (D_154 W_prog_1_method_32_code_64 27 rfl rfl rfl) (by decide) (fun h22 => ?_) (fun h22 => ?_)
  · replace hf := gneg hf h22
    refine zaload hx hb (D_25 W_prog_1_method_32_code_96 0 rfl rfl) (lv_at hl 3 rfl) ?_
    obtain ⟨g23, hf⟩ := gif hf
    refine zunrf g23.1 ?_
    refine zget (ci := 4) (C := RX4) (T := TX4) (v := .ref (ad 4 l6 (5 + 1))) (k := 5) hx hb hts inW_4 hown hK hZ g23.1 g23.2 rfl (by decide) k_4_133 rfl (D_180 W_prog_1_method_32_code_96 2 rfl rfl rfl) ?_
    refine lv_iload hx hb (D_21 W_prog_1_method_32_code_96 5 rfl rfl) (lv_at hl 1 rfl) ?_
    obtain ⟨g24, hf⟩ := gif hf
    refine zaldR (t := 1) (x := 7) (ci := 4) (k := 5) hx hb hK rfl rfl hZ g23.1 g23.2 rfl (Nat.le_of_ble_eq_true rfl) g24.1 g24.2 (D_50 W_prog_1_method_32_code_96 7 rfl rfl) ?_
    obtain ⟨g25, hf⟩ := gif hf
    refine zunrf g25.1 ?_
    refine zget (ci := 1) (C := RX1) (T := TX1) (v := .long (lI (F 1 (B 4 l6 5 l8) 0))) (k := 0) hx hb hts inW_1 hown hK hZ g25.1 g25.2 rfl (by decide) k_2_23 rfl (D_180 W_prog_1_method_32_code_96 8 rfl rfl rfl) ?_
    refine zaload hx hb (D_25 W_prog_1_method_32_code_96 11 rfl rfl) (lv_at hl 4 rfl) ?_
    obtain ⟨g26, hf⟩ := gif hf
    refine zunrf g26.1 ?_
    refine zget (ci := 4) (C := RX4) (T := TX4) (v := .ref (ad 4 l5 (5 + 1))) (k := 5) hx hb hts inW_4 hown hK hZ g26.1 g26.2 rfl (by decide) k_4_133 rfl (D_180 W_prog_1_method_32_code_96 13 rfl rfl rfl) ?_
    refine lv_iload hx hb (D_21 W_prog_1_method_32_code_96 16 rfl rfl) (lv_at hl 2 rfl) ?_
    obtain ⟨g27, hf⟩ := gif hf
    refine zaldR (t := 1) (x := 7) (ci := 4) (k := 5) hx hb hK rfl rfl hZ g26.1 g26.2 rfl (Nat.le_of_ble_eq_true rfl) g27.1 g27.2 (D_50 W_prog_1_method_32_code_96 18 rfl rfl) ?_
    obtain ⟨g28, hf⟩ := gif hf
    refine zunrf g28.1 ?_
    refine zget (ci := 1) (C := RX1) (T := TX1) (v := .long (lI (F 1 (B 4 l5 5 l7) 0))) (k := 0) hx hb hts inW_1 hown hK hZ g28.1 g28.2 rfl (by decide) k_2_23 rfl (D_180 W_prog_1_method_32_code_96 19 rfl rfl rfl) ?_
    refine zlsub hx hb (D_101 W_prog_1_method_32_code_96 22 rfl rfl) ?_
    refine lv_lstore (lv' := [(10, .long (lI ((F 1 (B 4 l6 5 l8) 0) - (F 1 (B 4 l5 5 l7) 0)))), (9, .int (iI s0)), (8, .int (iI l8)), (7, .int (iI l7)), (6, va_rf (zrf ad 4 l6)), (5, va_rf (zrf ad 4 l5)), (4, .int (iI l4))]) hx hb (D_55 W_prog_1_method_32_code_96 23 rfl rfl) hl (by decide) rfl (fun ls hl => ?_)
    refine lv_iload hx hb (D_21 W_prog_1_method_32_code_96 25 rfl rfl) (lv_at hl 6 rfl) ?_
    obtain ⟨g29, hf⟩ := gif hf
    by_cases h30 : l4 = 0
    · replace hf := gpos hf h30
      refine lv_tableIn (off := 25) (tgt := 148) hx hb d_1_32_123 (by rw [iI_to g29, h30]; decide) (by rw [iI_to g29, h30]; decide) (by rw [iI_to g29, h30]; rfl) (by decide) ?_
      refine lv_iload hx hb (D_21 W_prog_1_method_32_code_128 20 rfl rfl) (lv_at hl 1 rfl) ?_
      refine zi2l hx hb g21 (D_133 W_prog_1_method_32_code_128 22 rfl rfl) ?_
      cases hf
      exact W.lret hx hb hr (fun t ht hW => ⟨⟨_, (), rfl, rfl, by rw [ht]; exact hZ, va_K.moved hW.alike hK⟩, hS.F ht⟩) hS.2.2 (D_173 W_prog_1_method_32_code_128 23 rfl rfl) hlk
    replace hf := gneg hf h30
    by_cases h31 : l4 = 1
    · replace hf := gpos hf h31
      refine lv_tableIn (off := 29) (tgt := 152) hx hb d_1_32_123 (by rw [iI_to g29, h31]; decide) (by rw [iI_to g29, h31]; decide) (by rw [iI_to g29, h31]; rfl) (by decide) ?_
      refine zaload hx hb (D_25 W_prog_1_method_32_code_128 24 rfl rfl) (lv_at hl 4 rfl) ?_
      refine zunrf g23.1 ?_
      refine zget (ci := 4) (C := RX4) (T := TX4) (v := .ref (ad 4 l6 (5 + 1))) (k := 5) hx hb hts inW_4 hown hK hZ g23.1 g23.2 rfl (by decide) k_4_133 rfl (D_180 W_prog_1_method_32_code_128 26 rfl rfl rfl) ?_
      refine lv_iload hx hb (D_21 W_prog_1_method_32_code_128 29 rfl rfl) (lv_at hl 2 rfl) ?_
      refine zaldR (t := 1) (x := 7) (ci := 4) (k := 5) hx hb hK rfl rfl hZ g23.1 g23.2 rfl (Nat.le_of_ble_eq_true rfl) g24.1 g24.2 (D_50 W_prog_1_method_32_code_128 31 rfl rfl) ?_
      refine W.eq (g2 := F0 m 160 ls [.ref (ad 1 (B 4 l6 5 l8) 0)]) (by rw [zrf_pos (ad := ad) (t := 1) g25.1]; try rfl) ?_
      obtain ⟨r33, F33, B33, hc33, hf⟩ := gbind hf
      refine va_calli (va_runV (As := []) (rest := []) ⟨hx, hb, hml, hown, hts⟩ (c_Event_topStep (l := l) hc33) (cwV 0 hts (gdV k_9_98 k_9_94 k_9_95 k_1_8 k_9_96) rfl rfl rfl (by decide +kernel) ⟨Nat.le_of_ble_eq_true rfl, Nat.le_of_ble_eq_true rfl⟩) (zPV X hZ hS (ci := 1) g25.1 g25.2 (r := (RX1, TX1, 14)) rfl []) rfl rfl hl.1 rfl (lv_room (Nat.le_of_ble_eq_true rfl)) (D_182 W_prog_1_method_32_code_160 0 rfl rfl rfl) ⟨Nat.le_of_ble_eq_true rfl, Nat.le_of_ble_eq_true rfl⟩) hS (fun q _ h => zAin X hS q h) (zAin X hS) (fun p33 u33 t33 H33 locs33 ht33 hv33 hw33 hB33 hz33 hk33 hS33 => ?_)
      have hZ33 := zBack X ht33 hB33
      subst hw33
      refine zaload hx hb (D_25 W_prog_1_method_32_code_160 3 rfl rfl) (lv_at hl 5 rfl) ?_
      refine zunrf g26.1 ?_
      refine zget (ci := 4) (C := RX4) (T := TX4) (v := .ref (ad 4 l5 (5 + 1))) (k := 5) hx hb hts inW_4 hown hK hZ33 g26.1 g26.2 rfl (by decide) k_4_133 rfl (D_180 W_prog_1_method_32_code_160 5 rfl rfl rfl) ?_
      refine lv_iload hx hb (D_21 W_prog_1_method_32_code_160 8 rfl rfl) (lv_at hl 3 rfl) ?_
      refine zaldR (t := 1) (x := 7) (ci := 4) (k := 5) hx hb hK rfl rfl hZ33 g26.1 g26.2 rfl (Nat.le_of_ble_eq_true rfl) g27.1 g27.2 (D_50 W_prog_1_method_32_code_160 10 rfl rfl) ?_
      obtain ⟨g34, hf⟩ := gif hf
      refine W.eq (g2 := F0 m 171 ls [.ref (ad 1 (B33 4 l5 5 l7) 0), .int (iI r33)]) (by rw [zrf_pos (ad := ad) (t := 1) g34.1]; try rfl) ?_
      obtain ⟨r35, F35, B35, hc35, hf⟩ := gbind hf
      refine va_calli (va_runV (As := []) (rest := [.int (iI r33)]) ⟨hx, hb, hml, hown, hts⟩ (c_Event_topStep (l := l) hc35) (cwV 0 hts (gdV k_9_98 k_9_94 k_9_95 k_1_8 k_9_96) rfl rfl rfl (by decide +kernel) ⟨Nat.le_of_ble_eq_true rfl, Nat.le_of_ble_eq_true rfl⟩) (zPV X hZ33 hS33 (ci := 1) g34.1 g34.2 (r := (RX1, TX1, 14)) rfl []) rfl rfl hl.1 rfl (lv_room (Nat.le_of_ble_eq_true rfl)) (D_182 W_prog_1_method_32_code_160 11 rfl rfl rfl) ⟨Nat.le_of_ble_eq_true rfl, Nat.le_of_ble_eq_true rfl⟩) hS33 (fun q _ h => zAin X hS33 q h) (zAin X hS33) (fun p35 u35 t35 H35 locs35 ht35 hv35 hw35 hB35 hz35 hk35 hS35 => ?_)
      have hZ35 := zBack X ht35 hB35
      subst hw35
      refine zsub hx hb (D_100 W_prog_1_method_32_code_160 14 rfl rfl) ?_
      obtain ⟨g36, hf⟩ := gif hf
      refine zi2l hx hb g36 (D_133 W_prog_1_method_32_code_160 15 rfl rfl) ?_
      cases hf
      exact W.lret hx hb hr (fun t ht hW => ⟨⟨_, (), rfl, rfl, by rw [ht]; exact hZ35, va_K.moved hW.alike hK⟩, hS35.F ht⟩) hS35.2.2 (D_173 W_prog_1_method_32_code_160 16 rfl rfl) hlk
    replace hf := gneg hf h31
    by_cases h37 : l4 = 2
    · replace hf := gpos hf h37
      refine lv_tableIn (off := 54) (tgt := 177) hx hb d_1_32_123 (by rw [iI_to g29, h37]; decide) (by rw [iI_to g29, h37]; decide) (by rw [iI_to g29, h37]; rfl) (by decide) ?_
      refine lv_lload hx hb (D_22 W_prog_1_method_32_code_160 17 rfl rfl) (lv_at hl 0 rfl) ?_
      obtain ⟨r38, F38, B38, hc38, hf⟩ := gbind hf
      refine va_calll (va_runS (As := [.long (lI ((F 1 (B 4 l6 5 l8) 0) - (F 1 (B 4 l5 5 l7) 0)))]) (rest := []) ⟨hx, hb, hml, hown, hts⟩ (c_S_above (l := l) hc38) (va_cwS 1 hts (gdS k_6_185 k_6_186 k_1_1 k_6_187) rfl rfl rfl (by decide +kernel) ⟨Nat.le_of_ble_eq_true rfl, Nat.le_of_ble_eq_true rfl⟩) (zPS X hZ hS [.long (lI ((F 1 (B 4 l6 5 l8) 0) - (F 1 (B 4 l5 5 l7) 0)))]) rfl rfl hl.1 rfl (lv_room (Nat.le_of_ble_eq_true rfl)) (D_184 W_prog_1_method_32_code_160 19 rfl rfl rfl) ⟨Nat.le_of_ble_eq_true rfl, Nat.le_of_ble_eq_true rfl⟩) hS (fun q _ h => zAin X hS q h) (zAin X hS) (fun p38 u38 t38 H38 locs38 ht38 hv38 hw38 hB38 hz38 hk38 hS38 => ?_)
      have hZ38 := zBack X ht38 hB38
      subst hw38
      cases hf
      exact W.lret hx hb hr (fun t ht hW => ⟨⟨_, (), rfl, rfl, by rw [ht]; exact hZ38, va_K.moved hW.alike hK⟩, hS38.F ht⟩) hS38.2.2 (D_173 W_prog_1_method_32_code_160 22 rfl rfl) hlk
    replace hf := gneg hf h37
    refine lv_tableOut (tgt := 183) hx hb d_1_32_123 (by rw [iI_to g29]; omega) (by decide) ?_
    refine lv_lload hx hb (D_22 W_prog_1_method_32_code_160 23 rfl rfl) (lv_at hl 0 rfl) ?_
    obtain ⟨r39, F39, B39, hc39, hf⟩ := gbind hf
    refine va_calll (va_runS (As := [.long (lI ((F 1 (B 4 l6 5 l8) 0) - (F 1 (B 4 l5 5 l7) 0)))]) (rest := []) ⟨hx, hb, hml, hown, hts⟩ (c_S_below (l := l) hc39) (va_cwS 1 hts (gdS k_6_192 k_6_193 k_1_1 k_6_194) rfl rfl rfl (by decide +kernel) ⟨Nat.le_of_ble_eq_true rfl, Nat.le_of_ble_eq_true rfl⟩) (zPS X hZ hS [.long (lI ((F 1 (B 4 l6 5 l8) 0) - (F 1 (B 4 l5 5 l7) 0)))]) rfl rfl hl.1 rfl (lv_room (Nat.le_of_ble_eq_true rfl)) (D_184 W_prog_1_method_32_code_160 25 rfl rfl rfl) ⟨Nat.le_of_ble_eq_true rfl, Nat.le_of_ble_eq_true rfl⟩) hS (fun q _ h => zAin X hS q h) (zAin X hS) (fun p39 u39 t39 H39 locs39 ht39 hv39 hw39 hB39 hz39 hk39 hS39 => ?_)
    have hZ39 := zBack X ht39 hB39
    subst hw39
    cases hf
    exact W.lret hx hb hr (fun t ht hW => ⟨⟨_, (), rfl, rfl, by rw [ht]; exact hZ39, va_K.moved hW.alike hK⟩, hS39.F ht⟩) hS39.2.2 (D_173 W_prog_1_method_32_code_160 28 rfl rfl) hlk
  · replace hf := gpos hf h22
    refine lv_lconst (v := lI 0) hx hb (D_9 W_prog_1_method_32_code_64 30 rfl rfl) (by decide) ?_
    cases hf
    exact W.lret hx hb hr (fun t ht hW => ⟨⟨_, (), rfl, rfl, by rw [ht]; exact hZ, va_K.moved hW.alike hK⟩, hS.F ht⟩) hS.2.2 (D_173 W_prog_1_method_32_code_64 31 rfl rfl) hlk

def f_S_follows_72 (K : zK) (l8 : Int) (l7 : Int) (l6 : Int) (l5 : Int) (l4 : Int) (F : zF) (B : zB) : zO := f_S_follows_87 K l8 l7 l6 l5 l4 0 F B
set_option maxHeartbeats 4000000 in
set_option maxRecDepth 100000 in
theorem b_S_follows_72 {D : va_G} {ca : Nat → ClassId} {ad : Nat → Int → Nat → Nat} {L : List Nat} {aS vS : Nat → Nat} {A : Nat → Prop} {p : Program} {l : Launch} {e : Env} {s : State} {m : MethodId} {args : Array Value} {below : List Frame} {meth : Method} {c : Code} {K : zK} {r : Int} {F9 : zF} {B9 : zB} (X : zX D ca L aS vS A p s m args meth c prog_1_method_32_code 12 (Option.some Jvm.ClassFile.FieldType.long) "StaveHouse") {l8 : Int} {l7 : Int} {l6 : Int} {l5 : Int} {l4 : Int} {F : zF} {B : zB} {H : Heap} {locs : List Loc} {ls : Array Slot} (hf : f_S_follows_72 K l8 l7 l6 l5 l4 F B = some (r, F9, B9)) (hZ : zH D ca ad lnC K.2 L F B A H) (hS : va_S A s.heap H locs) (hl : lv_has ls 12 [(8, .int (iI l8)), (7, .int (iI l7)), (6, va_rf (zrf ad 4 l6)), (5, va_rf (zrf ad 4 l5)), (4, .int (iI l4))]) : W p l e ({ frames := 6, cells := 0, slots := 0, locals := 134 } : Room) s m args below meth c H locs 0 0 (MQ below (Q_S_follows K D ca ad L r F9 B9 A) args s 0 0 A) (F0 m 72 ls []) := by
  obtain ⟨hx, hb, hr, hml, hown, hts, hlk, hK, hA, hL, hX⟩ := id X
  replace hf : (f_S_follows_87 K l8 l7 l6 l5 l4 0 F B) = some (r, F9, B9) := hf
  refine lv_iconst (v := iI 0) hx hb (D_3 W_prog_1_method_32_code_64 8 rfl rfl) rfl ?_
  refine lv_goto (tgt := 87) hx hb (D_167 W_prog_1_method_32_code_64 9 rfl rfl rfl) (by decide) ?_
  exact b_S_follows_87 X hf hZ hS (lv_sub hl [0, 1, 2, 3, 4] rfl)

def f_S_follows_42 (K : zK)  (F : zF) (B : zB) : zO := some ((-1), F, B)
set_option maxHeartbeats 4000000 in
set_option maxRecDepth 100000 in
theorem b_S_follows_42 {D : va_G} {ca : Nat → ClassId} {ad : Nat → Int → Nat → Nat} {L : List Nat} {aS vS : Nat → Nat} {A : Nat → Prop} {p : Program} {l : Launch} {e : Env} {s : State} {m : MethodId} {args : Array Value} {below : List Frame} {meth : Method} {c : Code} {K : zK} {r : Int} {F9 : zF} {B9 : zB} (X : zX D ca L aS vS A p s m args meth c prog_1_method_32_code 12 (Option.some Jvm.ClassFile.FieldType.long) "StaveHouse")  {F : zF} {B : zB} {H : Heap} {locs : List Loc} {ls : Array Slot} (hf : f_S_follows_42 K  F B = some (r, F9, B9)) (hZ : zH D ca ad lnC K.2 L F B A H) (hS : va_S A s.heap H locs) (hl : lv_has ls 12 []) : W p l e ({ frames := 6, cells := 0, slots := 0, locals := 134 } : Room) s m args below meth c H locs 0 0 (MQ below (Q_S_follows K D ca ad L r F9 B9 A) args s 0 0 A) (F0 m 42 ls []) := by
  obtain ⟨hx, hb, hr, hml, hown, hts, hlk, hK, hA, hL, hX⟩ := id X
  replace hf : (some ((-1), F, B)) = some (r, F9, B9) := hf
  refine lv_ldc2 hx hb hown (hts _ k_6_184) (D_20 W_prog_1_method_32_code_32 10 rfl rfl rfl) ?_
  refine W.eq (g2 := F0 m 45 ls [.long (lI (-1))]) rfl ?_
  cases hf
  exact W.lret hx hb hr (fun t ht hW => ⟨⟨_, (), rfl, rfl, by rw [ht]; exact hZ, va_K.moved hW.alike hK⟩, hS.F ht⟩) hS.2.2 (D_173 W_prog_1_method_32_code_32 13 rfl rfl) hlk

def f_S_follows (K : zK) (l0 : Int) (l1 : Int) (l2 : Int) (l3 : Int) (l4 : Int) (F : zF) (B : zB) : zO := if 0 ≤ l0 ∧ l0 < K.2 12 then zbind (f_S_partAt K l0 l1 l2 F B) (fun r2 F2 B2 => zbind (f_S_partAt K l0 l1 l3 F2 B2) (fun r3 F3 B3 => (if r2 < 0 then f_S_follows_42 K F3 B3 else (if r3 < 0 then f_S_follows_42 K F3 B3 else if r32 l2 then if r32 l3 then (if l2 = l3 then f_S_follows_42 K F3 B3 else if r32 l4 then (if l4 < 0 then f_S_follows_42 K F3 B3 else (if l4 ≤ 3 then if 0 ≤ r2 ∧ r2 < K.2 4 then zbind (f_Part_firstSounding K r2 F3 B3) (fun r13 F13 B13 => if 0 ≤ r3 ∧ r3 < K.2 4 then zbind (f_Part_firstSounding K r3 F13 B13) (fun r15 F15 B15 => if r32 r13 then (if r13 = (-1) then f_S_follows_72 K r15 r13 r3 r2 l4 F15 B15 else if r32 r15 then (if r15 = (-1) then f_S_follows_72 K r15 r13 r3 r2 l4 F15 B15 else zbind (f_Part_followedFor K r3 r2 r13 r15 F15 B15) (fun r20 F20 B20 => f_S_follows_87 K r15 r13 r3 r2 l4 r20 F20 B20)) else none) else none) else none) else none else f_S_follows_42 K F3 B3)) else none) else none else none)))) else none
set_option maxHeartbeats 4000000 in
set_option maxRecDepth 100000 in
theorem c_S_follows {l : Launch} {D : va_G} {ca : Nat → ClassId} {ad : Nat → Int → Nat → Nat} {L : List Nat} {aS vS : Nat → Nat} {sz : Nat} {K : zK}  {l0 : Int} {l1 : Int} {l2 : Int} {l3 : Int} {l4 : Int} {F F9 : zF} {B B9 : zB} {r : Int} (hf : f_S_follows K l0 l1 l2 l3 l4 F B = some (r, F9, B9)) : Met l ({ cls := "StaveHouse", name := "follows", desc := "(IIII)J" } : Jvm.MethodName) (Cond.code ({ cls := "StaveHouse", name := "follows", desc := "(IIII)J" } : Jvm.MethodName) prog_1_method_32_code 12 (Option.some Jvm.ClassFile.FieldType.long) :: wAll) ({ frames := 6, cells := 0, slots := 0, locals := 134 } : Room) (va_Pc [.ref (ad 12 l0 0), .int (iI l1), .int (iI l2), .int (iI l3), .int (iI l4)] (zPre D ca ad lnC K.2 L aS vS F B sz)) (Q_S_follows K D ca ad L r F9 B9 (zA L sz)) 0 0 (zA L sz) := by
  refine zMet (Qc := Q_S_follows K D ca ad L r F9 B9) (lv := [(0, .ref (ad 12 l0 0)), (1, .int (iI l1)), (2, .int (iI l2)), (3, .int (iI l3)), (4, .int (iI l4))]) (by decide) (Nat.le_of_ble_eq_true rfl) rfl (fun A p e s m below meth c ls X hZ hS hl => ?_)
  obtain ⟨hx, hb, hr, hml, hown, hts, hlk, hK, hA, hL, hX⟩ := id X
  replace hf : (if 0 ≤ l0 ∧ l0 < K.2 12 then zbind (f_S_partAt K l0 l1 l2 F B) (fun r2 F2 B2 => zbind (f_S_partAt K l0 l1 l3 F2 B2) (fun r3 F3 B3 => (if r2 < 0 then f_S_follows_42 K F3 B3 else (if r3 < 0 then f_S_follows_42 K F3 B3 else if r32 l2 then if r32 l3 then (if l2 = l3 then f_S_follows_42 K F3 B3 else if r32 l4 then (if l4 < 0 then f_S_follows_42 K F3 B3 else (if l4 ≤ 3 then if 0 ≤ r2 ∧ r2 < K.2 4 then zbind (f_Part_firstSounding K r2 F3 B3) (fun r13 F13 B13 => if 0 ≤ r3 ∧ r3 < K.2 4 then zbind (f_Part_firstSounding K r3 F13 B13) (fun r15 F15 B15 => if r32 r13 then (if r13 = (-1) then f_S_follows_72 K r15 r13 r3 r2 l4 F15 B15 else if r32 r15 then (if r15 = (-1) then f_S_follows_72 K r15 r13 r3 r2 l4 F15 B15 else zbind (f_Part_followedFor K r3 r2 r13 r15 F15 B15) (fun r20 F20 B20 => f_S_follows_87 K r15 r13 r3 r2 l4 r20 F20 B20)) else none) else none) else none) else none else f_S_follows_42 K F3 B3)) else none) else none else none)))) else none) = some (r, F9, B9) := hf
  refine lv_aload_n hx hb (D_42 W_prog_1_method_32_code_0 0 rfl rfl) rfl (lv_at hl 0 rfl) ?_
  refine lv_iload_n hx hb (D_27 W_prog_1_method_32_code_0 1 rfl rfl) rfl (lv_at hl 1 rfl) ?_
  refine lv_iload_n hx hb (D_28 W_prog_1_method_32_code_0 2 rfl rfl) rfl (lv_at hl 2 rfl) ?_
  obtain ⟨g1, hf⟩ := gif hf
  obtain ⟨r2, F2, B2, hc2, hf⟩ := gbind hf
  refine va_callq (va_runV (As := [.int (iI l1), .int (iI l2)]) (rest := []) ⟨hx, hb, hml, hown, hts⟩ (c_S_partAt (l := l) hc2) (cwV 2 hts (gdV k_6_168 k_6_170 ks_77 k_1_1 k_6_171) rfl rfl rfl (by decide +kernel) ⟨Nat.le_of_ble_eq_true rfl, Nat.le_of_ble_eq_true rfl⟩) (zPV X hZ hS (ci := 12) g1.1 g1.2 (r := (RX12, TX12, 10)) rfl [.int (iI l1), .int (iI l2)]) rfl rfl hl.1 rfl (lv_room (Nat.le_of_ble_eq_true rfl)) (D_182 W_prog_1_method_32_code_0 3 rfl rfl rfl) ⟨Nat.le_of_ble_eq_true rfl, Nat.le_of_ble_eq_true rfl⟩) hS (fun q _ h => zAin X hS q h) (zAin X hS) (fun p2 u2 t2 H2 locs2 ht2 hv2 hw2 hB2 hz2 hk2 hS2 => ?_)
  have hZ2 := zBack X ht2 hB2
  subst hw2
  refine zastore (lv' := [(0, .ref (ad 12 l0 0)), (1, .int (iI l1)), (2, .int (iI l2)), (3, .int (iI l3)), (4, .int (iI l4))]) hx hb (D_58 W_prog_1_method_32_code_0 6 rfl rfl) hl (by decide) (fun _ _ => rfl) (fun ls hl => ?_)
  refine lv_aload_n hx hb (D_42 W_prog_1_method_32_code_0 8 rfl rfl) rfl (lv_at hl 1 rfl) ?_
  refine lv_iload_n hx hb (D_27 W_prog_1_method_32_code_0 9 rfl rfl) rfl (lv_at hl 2 rfl) ?_
  refine lv_iload_n hx hb (D_29 W_prog_1_method_32_code_0 10 rfl rfl) rfl (lv_at hl 4 rfl) ?_
  obtain ⟨r3, F3, B3, hc3, hf⟩ := gbind hf
  refine va_callq (va_runV (As := [.int (iI l1), .int (iI l3)]) (rest := []) ⟨hx, hb, hml, hown, hts⟩ (c_S_partAt (l := l) hc3) (cwV 2 hts (gdV k_6_168 k_6_170 ks_77 k_1_1 k_6_171) rfl rfl rfl (by decide +kernel) ⟨Nat.le_of_ble_eq_true rfl, Nat.le_of_ble_eq_true rfl⟩) (zPV X hZ2 hS2 (ci := 12) g1.1 g1.2 (r := (RX12, TX12, 10)) rfl [.int (iI l1), .int (iI l3)]) rfl rfl hl.1 rfl (lv_room (Nat.le_of_ble_eq_true rfl)) (D_182 W_prog_1_method_32_code_0 11 rfl rfl rfl) ⟨Nat.le_of_ble_eq_true rfl, Nat.le_of_ble_eq_true rfl⟩) hS2 (fun q _ h => zAin X hS2 q h) (zAin X hS2) (fun p3 u3 t3 H3 locs3 ht3 hv3 hw3 hB3 hz3 hk3 hS3 => ?_)
  have hZ3 := zBack X ht3 hB3
  subst hw3
  refine zastore (lv' := [(5, va_rf (zrf ad 4 r2)), (0, .ref (ad 12 l0 0)), (1, .int (iI l1)), (2, .int (iI l2)), (3, .int (iI l3)), (4, .int (iI l4))]) hx hb (D_58 W_prog_1_method_32_code_0 14 rfl rfl) hl (by decide) (fun v hv => by cases zrf ad 4 r2 <;> rfl) (fun ls hl => ?_)
  refine zaload hx hb (D_25 W_prog_1_method_32_code_0 16 rfl rfl) (lv_at hl 1 rfl) ?_
  refine zifnull (tgt := 42) hx hb (D_198 W_prog_1_method_32_code_0 18 rfl rfl rfl) (by decide) (fun h4 => ?_) (fun h4 => ?_)
  · replace hf := gpos hf h4
    exact b_S_follows_42 X hf hZ3 hS3 (lv_sub hl [] rfl)
  · replace hf := gneg hf h4
    refine zaload hx hb (D_25 W_prog_1_method_32_code_0 21 rfl rfl) (lv_at hl 0 rfl) ?_
    refine zifnull (tgt := 42) hx hb (D_198 W_prog_1_method_32_code_0 23 rfl rfl rfl) (by decide) (fun h5 => ?_) (fun h5 => ?_)
    · replace hf := gpos hf h5
      exact b_S_follows_42 X hf hZ3 hS3 (lv_sub hl [] rfl)
    · replace hf := gneg hf h5
      refine lv_iload_n hx hb (D_28 W_prog_1_method_32_code_0 26 rfl rfl) rfl (lv_at hl 4 rfl) ?_
      refine lv_iload_n hx hb (D_29 W_prog_1_method_32_code_0 27 rfl rfl) rfl (lv_at hl 5 rfl) ?_
      obtain ⟨g6, hf⟩ := gif hf
      obtain ⟨g7, hf⟩ := gif hf
      refine zeq (tgt := 42) hx hb g6 g7 (D_159 W_prog_1_method_32_code_0 28 rfl rfl rfl) (by decide) (fun h8 => ?_) (fun h8 => ?_)
      · replace hf := gpos hf h8
        exact b_S_follows_42 X hf hZ3 hS3 (lv_sub hl [] rfl)
      · replace hf := gneg hf h8
        refine lv_iload hx hb (D_21 W_prog_1_method_32_code_0 31 rfl rfl) (lv_at hl 6 rfl) ?_
        obtain ⟨g9, hf⟩ := gif hf
        refine z0lt (tgt := 42) hx hb g9 (D_155 W_prog_1_method_32_code_32 1 rfl rfl rfl) (by decide) (fun h10 => ?_) (fun h10 => ?_)
        · replace hf := gpos hf h10
          exact b_S_follows_42 X hf hZ3 hS3 (lv_sub hl [] rfl)
        · replace hf := gneg hf h10
          refine lv_iload hx hb (D_21 W_prog_1_method_32_code_32 4 rfl rfl) (lv_at hl 6 rfl) ?_
          refine lv_iconst (v := iI 3) hx hb (D_6 W_prog_1_method_32_code_32 6 rfl rfl) rfl ?_
          refine zle (tgt := 46) hx hb g9 (by decide) (D_164 W_prog_1_method_32_code_32 7 rfl rfl rfl) (by decide) (fun h11 => ?_) (fun h11 => ?_)
          · replace hf := gpos hf h11
            refine zaload hx hb (D_25 W_prog_1_method_32_code_32 14 rfl rfl) (lv_at hl 1 rfl) ?_
            obtain ⟨g12, hf⟩ := gif hf
            refine W.eq (g2 := F0 m 48 ls [.ref (ad 4 r2 0)]) (by rw [zrf_pos (ad := ad) (t := 4) g12.1]; try rfl) ?_
            obtain ⟨r13, F13, B13, hc13, hf⟩ := gbind hf
            refine va_calli (va_runV (As := []) (rest := []) ⟨hx, hb, hml, hown, hts⟩ (c_Part_firstSounding (l := l) hc13) (cwV 0 hts (gdV k_9_85 k_9_86 k_9_87 k_1_18 k_9_88) rfl rfl rfl (by decide +kernel) ⟨Nat.le_of_ble_eq_true rfl, Nat.le_of_ble_eq_true rfl⟩) (zPV X hZ3 hS3 (ci := 4) g12.1 g12.2 (r := (RX4, TX4, 13)) rfl []) rfl rfl hl.1 rfl (lv_room (Nat.le_of_ble_eq_true rfl)) (D_182 W_prog_1_method_32_code_32 16 rfl rfl rfl) ⟨Nat.le_of_ble_eq_true rfl, Nat.le_of_ble_eq_true rfl⟩) hS3 (fun q _ h => zAin X hS3 q h) (zAin X hS3) (fun p13 u13 t13 H13 locs13 ht13 hv13 hw13 hB13 hz13 hk13 hS13 => ?_)
            have hZ13 := zBack X ht13 hB13
            subst hw13
            refine lv_istore (lv' := [(7, .int (iI r13)), (6, va_rf (zrf ad 4 r3)), (5, va_rf (zrf ad 4 r2)), (0, .ref (ad 12 l0 0)), (1, .int (iI l1)), (2, .int (iI l2)), (3, .int (iI l3)), (4, .int (iI l4))]) hx hb (D_54 W_prog_1_method_32_code_32 19 rfl rfl) hl (by decide) (by cases zrf ad 4 r3 <;> rfl) (fun ls hl => ?_)
            refine zaload hx hb (D_25 W_prog_1_method_32_code_32 21 rfl rfl) (lv_at hl 1 rfl) ?_
            obtain ⟨g14, hf⟩ := gif hf
            refine W.eq (g2 := F0 m 55 ls [.ref (ad 4 r3 0)]) (by rw [zrf_pos (ad := ad) (t := 4) g14.1]; try rfl) ?_
            obtain ⟨r15, F15, B15, hc15, hf⟩ := gbind hf
            refine va_calli (va_runV (As := []) (rest := []) ⟨hx, hb, hml, hown, hts⟩ (c_Part_firstSounding (l := l) hc15) (cwV 0 hts (gdV k_9_85 k_9_86 k_9_87 k_1_18 k_9_88) rfl rfl rfl (by decide +kernel) ⟨Nat.le_of_ble_eq_true rfl, Nat.le_of_ble_eq_true rfl⟩) (zPV X hZ13 hS13 (ci := 4) g14.1 g14.2 (r := (RX4, TX4, 13)) rfl []) rfl rfl hl.1 rfl (lv_room (Nat.le_of_ble_eq_true rfl)) (D_182 W_prog_1_method_32_code_32 23 rfl rfl rfl) ⟨Nat.le_of_ble_eq_true rfl, Nat.le_of_ble_eq_true rfl⟩) hS13 (fun q _ h => zAin X hS13 q h) (zAin X hS13) (fun p15 u15 t15 H15 locs15 ht15 hv15 hw15 hB15 hz15 hk15 hS15 => ?_)
            have hZ15 := zBack X ht15 hB15
            subst hw15
            refine lv_istore (lv' := [(8, .int (iI r15)), (7, .int (iI r13)), (6, va_rf (zrf ad 4 r3)), (5, va_rf (zrf ad 4 r2)), (0, .ref (ad 12 l0 0)), (1, .int (iI l1)), (2, .int (iI l2)), (3, .int (iI l3)), (4, .int (iI l4))]) hx hb (D_54 W_prog_1_method_32_code_32 26 rfl rfl) hl (by decide) rfl (fun ls hl => ?_)
            refine lv_iload hx hb (D_21 W_prog_1_method_32_code_32 28 rfl rfl) (lv_at hl 1 rfl) ?_
            refine lv_iconst (v := iI (-1)) hx hb (D_2 W_prog_1_method_32_code_32 30 rfl rfl) rfl ?_
            obtain ⟨g16, hf⟩ := gif hf
            refine zeq (tgt := 72) hx hb g16 (by decide) (D_159 W_prog_1_method_32_code_32 31 rfl rfl rfl) (by decide) (fun h17 => ?_) (fun h17 => ?_)
            · replace hf := gpos hf h17
              exact b_S_follows_72 X hf hZ15 hS15 (lv_sub hl [0, 1, 2, 3, 8] rfl)
            · replace hf := gneg hf h17
              refine lv_iload hx hb (D_21 W_prog_1_method_32_code_64 2 rfl rfl) (lv_at hl 0 rfl) ?_
              refine lv_iconst (v := iI (-1)) hx hb (D_2 W_prog_1_method_32_code_64 4 rfl rfl) rfl ?_
              obtain ⟨g18, hf⟩ := gif hf
              refine zne (tgt := 76) hx hb g18 (by decide) (D_160 W_prog_1_method_32_code_64 5 rfl rfl rfl) (by decide) (fun h19 => ?_) (fun h19 => ?_)
              · replace hf := gneg hf h19
                refine zaload hx hb (D_25 W_prog_1_method_32_code_64 12 rfl rfl) (lv_at hl 2 rfl) ?_
                refine zaload hx hb (D_25 W_prog_1_method_32_code_64 14 rfl rfl) (lv_at hl 3 rfl) ?_
                refine lv_iload hx hb (D_21 W_prog_1_method_32_code_64 16 rfl rfl) (lv_at hl 1 rfl) ?_
                refine lv_iload hx hb (D_21 W_prog_1_method_32_code_64 18 rfl rfl) (lv_at hl 0 rfl) ?_
                refine W.eq (g2 := F0 m 84 ls [.int (iI r15), .int (iI r13), va_rf (zrf ad 4 r2), .ref (ad 4 r3 0)]) (by rw [zrf_pos (ad := ad) (t := 4) g14.1]; try rfl) ?_
                refine W.eq (g2 := F0 m 84 ls [.int (iI r15), .int (iI r13), .ref (ad 4 r2 0), .ref (ad 4 r3 0)]) (by rw [zrf_pos (ad := ad) (t := 4) g12.1]; try rfl) ?_
                obtain ⟨r20, F20, B20, hc20, hf⟩ := gbind hf
                refine va_calli (va_runV (As := [.ref (ad 4 r2 0), .int (iI r13), .int (iI r15)]) (rest := []) ⟨hx, hb, hml, hown, hts⟩ (c_Part_followedFor (l := l) hc20) (cwV 3 hts (gdV k_9_89 k_9_90 k_9_91 k_1_18 k_9_92) rfl rfl rfl (by decide +kernel) ⟨Nat.le_of_ble_eq_true rfl, Nat.le_of_ble_eq_true rfl⟩) (zPV X hZ15 hS15 (ci := 4) g14.1 g14.2 (r := (RX4, TX4, 13)) rfl [.ref (ad 4 r2 0), .int (iI r13), .int (iI r15)]) rfl rfl hl.1 rfl (lv_room (Nat.le_of_ble_eq_true rfl)) (D_182 W_prog_1_method_32_code_64 20 rfl rfl rfl) ⟨Nat.le_of_ble_eq_true rfl, Nat.le_of_ble_eq_true rfl⟩) hS15 (fun q _ h => zAin X hS15 q h) (zAin X hS15) (fun p20 u20 t20 H20 locs20 ht20 hv20 hw20 hB20 hz20 hk20 hS20 => ?_)
                have hZ20 := zBack X ht20 hB20
                subst hw20
                exact b_S_follows_87 X hf hZ20 hS20 (lv_sub hl [0, 1, 2, 3, 8] rfl)
              · replace hf := gpos hf h19
                exact b_S_follows_72 X hf hZ15 hS15 (lv_sub hl [0, 1, 2, 3, 8] rfl)
          · replace hf := gneg hf h11
            exact b_S_follows_42 X hf hZ3 hS3 (lv_sub hl [] rfl)

abbrev Q_Part_judge (K : zK) (D : va_G) (ca : Nat → ClassId) (ad : Nat → Int → Nat → Nat) (L : List Nat) (r : Int) (F : zF) (B : zB) (A : Nat → Prop) : Array Value → State → Outcome → State → Prop := va_Qi (S := Unit) (fun p _ => p = iI r) (fun _ => zPo D ca ad lnC K.2 L F B A) A
def f_Part_judge_227 (K : zK) (s0 : Int) (F : zF) (B : zB) : zO := some (s0, F, B)
set_option maxHeartbeats 4000000 in
set_option maxRecDepth 100000 in
theorem b_Part_judge_227 {D : va_G} {ca : Nat → ClassId} {ad : Nat → Int → Nat → Nat} {L : List Nat} {aS vS : Nat → Nat} {A : Nat → Prop} {p : Program} {l : Launch} {e : Env} {s : State} {m : MethodId} {args : Array Value} {below : List Frame} {meth : Method} {c : Code} {K : zK} {r : Int} {F9 : zF} {B9 : zB} (X : zX D ca L aS vS A p s m args meth c prog_6_method_4_code 6 (Option.some Jvm.ClassFile.FieldType.int) "StaveHouse$Part") {s0 : Int} {F : zF} {B : zB} {H : Heap} {locs : List Loc} {ls : Array Slot} (hf : f_Part_judge_227 K s0 F B = some (r, F9, B9)) (hZ : zH D ca ad lnC K.2 L F B A H) (hS : va_S A s.heap H locs) (hl : lv_has ls 6 []) : W p l e ({ frames := 6, cells := 0, slots := 0, locals := 168 } : Room) s m args below meth c H locs 0 0 (MQ below (Q_Part_judge K D ca ad L r F9 B9 A) args s 0 0 A) (F0 m 227 ls [.int (iI s0)]) := by
  obtain ⟨hx, hb, hr, hml, hown, hts, hlk, hK, hA, hL, hX⟩ := id X
  replace hf : (some (s0, F, B)) = some (r, F9, B9) := hf
  cases hf
  exact W.iret hx hb hr (fun t ht hW => ⟨⟨_, (), rfl, rfl, by rw [ht]; exact hZ, va_K.moved hW.alike hK⟩, hS.F ht⟩) hS.2.2 (D_172 W_prog_6_method_4_code_224 3 rfl rfl) hlk

def f_Part_judge_173 (rec26 : Int → Int → Int → Int → zF → zB → zO) (K : zK) (l4 : Int) (l3 : Int) (l0 : Int) (l1 : Int) (s0 : Int) (F : zF) (B : zB) : zO := if 0 ≤ l4 ∧ l4 < K.2 1 then if (s0 = 0 ∨ s0 = 1) then rec26 (l3 + 1) s0 l0 l1 (zup3 F 1 l4 11 s0) B else none else none
set_option maxHeartbeats 4000000 in
set_option maxRecDepth 100000 in
theorem b_Part_judge_173 {D : va_G} {ca : Nat → ClassId} {ad : Nat → Int → Nat → Nat} {L : List Nat} {aS vS : Nat → Nat} {A : Nat → Prop} {p : Program} {l : Launch} {e : Env} {s : State} {m : MethodId} {args : Array Value} {below : List Frame} {meth : Method} {c : Code} {K : zK} {r : Int} {F9 : zF} {B9 : zB} (X : zX D ca L aS vS A p s m args meth c prog_6_method_4_code 6 (Option.some Jvm.ClassFile.FieldType.int) "StaveHouse$Part") {rec26 : Int → Int → Int → Int → zF → zB → zO} (hrec26 : ∀ {l3 : Int} {l2 : Int} {l0 : Int} {l1 : Int} {F : zF} {B : zB} {H : Heap} {locs : List Loc} {ls : Array Slot}, rec26 l3 l2 l0 l1 F B = some (r, F9, B9) → zH D ca ad lnC K.2 L F B A H → va_S A s.heap H locs → lv_has ls 6 [(3, .int (iI l3)), (2, .int (iI l2)), (0, .ref (ad 4 l0 0)), (1, .ref (ad 6 l1 0))] → W p l e ({ frames := 6, cells := 0, slots := 0, locals := 168 } : Room) s m args below meth c H locs 0 0 (MQ below (Q_Part_judge K D ca ad L r F9 B9 A) args s 0 0 A) (F0 m 26 ls [])) {l4 : Int} {l3 : Int} {l0 : Int} {l1 : Int} {s0 : Int} {F : zF} {B : zB} {H : Heap} {locs : List Loc} {ls : Array Slot} (hf : f_Part_judge_173 rec26 K l4 l3 l0 l1 s0 F B = some (r, F9, B9)) (hZ : zH D ca ad lnC K.2 L F B A H) (hS : va_S A s.heap H locs) (hl : lv_has ls 6 [(4, va_rf (zrf ad 1 l4)), (3, .int (iI l3)), (0, .ref (ad 4 l0 0)), (1, .ref (ad 6 l1 0))]) : W p l e ({ frames := 6, cells := 0, slots := 0, locals := 168 } : Room) s m args below meth c H locs 0 0 (MQ below (Q_Part_judge K D ca ad L r F9 B9 A) args s 0 0 A) (F0 m 173 ls [.int (iI s0)]) := by
  obtain ⟨hx, hb, hr, hml, hown, hts, hlk, hK, hA, hL, hX⟩ := id X
  replace hf : (if 0 ≤ l4 ∧ l4 < K.2 1 then if (s0 = 0 ∨ s0 = 1) then rec26 (l3 + 1) s0 l0 l1 (zup3 F 1 l4 11 s0) B else none else none) = some (r, F9, B9) := hf
  refine lv_istore_n (lv' := [(2, .int (iI s0)), (4, va_rf (zrf ad 1 l4)), (3, .int (iI l3)), (0, .ref (ad 4 l0 0)), (1, .ref (ad 6 l1 0))]) hx hb (D_61 W_prog_6_method_4_code_160 13 rfl rfl) rfl hl (by decide) rfl (fun ls hl => ?_)
  refine zaload hx hb (D_25 W_prog_6_method_4_code_160 14 rfl rfl) (lv_at hl 1 rfl) ?_
  refine lv_iload_n hx hb (D_28 W_prog_6_method_4_code_160 16 rfl rfl) rfl (lv_at hl 0 rfl) ?_
  obtain ⟨g54, hf⟩ := gif hf
  refine W.eq (g2 := F0 m 177 ls [.int (iI s0), .ref (ad 1 l4 0)]) (by rw [zrf_pos (ad := ad) (t := 1) g54.1]; try rfl) ?_
  obtain ⟨g55, hf⟩ := gif hf
  refine zput (ci := 1) (C := RX1) (T := TX1) (k := 11) (v := s0) (w := .int (iI s0)) hx hb hts inW_1 tyX1 tyX1_ok nmX1 hown hK hZ hS g54.1 g54.2 rfl (by decide) k_2_55 rfl (fun G h => congrArg (fun q => Value.int (iI q)) h) (zbool g55) (zboolF g55) (zno (by decide)) (D_181 W_prog_6_method_4_code_160 17 rfl rfl rfl) (fun H56 locs56 hZ56 hS56 => ?_)
  refine lv_iinc (v := iI (l3 + 1)) (lv' := [(3, .int (iI (l3 + 1))), (2, .int (iI s0)), (4, va_rf (zrf ad 1 l4)), (0, .ref (ad 4 l0 0)), (1, .ref (ad 6 l1 0))]) hx hb d_6_4_180 hl (k := 2) rfl (iI_add _ 1) (by decide) rfl (fun ls hl => ?_)
  refine lv_goto (tgt := 26) hx hb (D_167 W_prog_6_method_4_code_160 23 rfl rfl rfl) (by decide) ?_
  exact hrec26 hf hZ56 hS56 (lv_sub hl [0, 1, 3, 4] rfl)

def f_Part_judge_168 (rec26 : Int → Int → Int → Int → zF → zB → zO) (K : zK) (l4 : Int) (l3 : Int) (l0 : Int) (l1 : Int) (F : zF) (B : zB) : zO := f_Part_judge_173 rec26 K l4 l3 l0 l1 1 F B
set_option maxHeartbeats 4000000 in
set_option maxRecDepth 100000 in
theorem b_Part_judge_168 {D : va_G} {ca : Nat → ClassId} {ad : Nat → Int → Nat → Nat} {L : List Nat} {aS vS : Nat → Nat} {A : Nat → Prop} {p : Program} {l : Launch} {e : Env} {s : State} {m : MethodId} {args : Array Value} {below : List Frame} {meth : Method} {c : Code} {K : zK} {r : Int} {F9 : zF} {B9 : zB} (X : zX D ca L aS vS A p s m args meth c prog_6_method_4_code 6 (Option.some Jvm.ClassFile.FieldType.int) "StaveHouse$Part") {rec26 : Int → Int → Int → Int → zF → zB → zO} (hrec26 : ∀ {l3 : Int} {l2 : Int} {l0 : Int} {l1 : Int} {F : zF} {B : zB} {H : Heap} {locs : List Loc} {ls : Array Slot}, rec26 l3 l2 l0 l1 F B = some (r, F9, B9) → zH D ca ad lnC K.2 L F B A H → va_S A s.heap H locs → lv_has ls 6 [(3, .int (iI l3)), (2, .int (iI l2)), (0, .ref (ad 4 l0 0)), (1, .ref (ad 6 l1 0))] → W p l e ({ frames := 6, cells := 0, slots := 0, locals := 168 } : Room) s m args below meth c H locs 0 0 (MQ below (Q_Part_judge K D ca ad L r F9 B9 A) args s 0 0 A) (F0 m 26 ls [])) {l4 : Int} {l3 : Int} {l0 : Int} {l1 : Int} {F : zF} {B : zB} {H : Heap} {locs : List Loc} {ls : Array Slot} (hf : f_Part_judge_168 rec26 K l4 l3 l0 l1 F B = some (r, F9, B9)) (hZ : zH D ca ad lnC K.2 L F B A H) (hS : va_S A s.heap H locs) (hl : lv_has ls 6 [(4, va_rf (zrf ad 1 l4)), (3, .int (iI l3)), (0, .ref (ad 4 l0 0)), (1, .ref (ad 6 l1 0))]) : W p l e ({ frames := 6, cells := 0, slots := 0, locals := 168 } : Room) s m args below meth c H locs 0 0 (MQ below (Q_Part_judge K D ca ad L r F9 B9 A) args s 0 0 A) (F0 m 168 ls []) := by
  obtain ⟨hx, hb, hr, hml, hown, hts, hlk, hK, hA, hL, hX⟩ := id X
  replace hf : (f_Part_judge_173 rec26 K l4 l3 l0 l1 1 F B) = some (r, F9, B9) := hf
  refine lv_iconst (v := iI 1) hx hb (D_4 W_prog_6_method_4_code_160 8 rfl rfl) rfl ?_
  refine lv_goto (tgt := 173) hx hb (D_167 W_prog_6_method_4_code_160 9 rfl rfl rfl) (by decide) ?_
  exact b_Part_judge_173 X hrec26 hf hZ hS (lv_sub hl [0, 1, 2, 3] rfl)

def f_Part_judge_154 (rec26 : Int → Int → Int → Int → zF → zB → zO) (K : zK) (l5 : Int) (l4 : Int) (l3 : Int) (l0 : Int) (l1 : Int) (F : zF) (B : zB) : zO := if r32 l5 then (if l5 = 0 then if 0 ≤ l4 ∧ l4 < K.2 1 then zbind (f_Event_has K l4 2 F B) (fun r51 F51 B51 => if r32 r51 then (if r51 = 0 then f_Part_judge_173 rec26 K l4 l3 l0 l1 0 F51 B51 else f_Part_judge_168 rec26 K l4 l3 l0 l1 F51 B51) else none) else none else f_Part_judge_168 rec26 K l4 l3 l0 l1 F B) else none
set_option maxHeartbeats 4000000 in
set_option maxRecDepth 100000 in
theorem b_Part_judge_154 {D : va_G} {ca : Nat → ClassId} {ad : Nat → Int → Nat → Nat} {L : List Nat} {aS vS : Nat → Nat} {A : Nat → Prop} {p : Program} {l : Launch} {e : Env} {s : State} {m : MethodId} {args : Array Value} {below : List Frame} {meth : Method} {c : Code} {K : zK} {r : Int} {F9 : zF} {B9 : zB} (X : zX D ca L aS vS A p s m args meth c prog_6_method_4_code 6 (Option.some Jvm.ClassFile.FieldType.int) "StaveHouse$Part") {rec26 : Int → Int → Int → Int → zF → zB → zO} (hrec26 : ∀ {l3 : Int} {l2 : Int} {l0 : Int} {l1 : Int} {F : zF} {B : zB} {H : Heap} {locs : List Loc} {ls : Array Slot}, rec26 l3 l2 l0 l1 F B = some (r, F9, B9) → zH D ca ad lnC K.2 L F B A H → va_S A s.heap H locs → lv_has ls 6 [(3, .int (iI l3)), (2, .int (iI l2)), (0, .ref (ad 4 l0 0)), (1, .ref (ad 6 l1 0))] → W p l e ({ frames := 6, cells := 0, slots := 0, locals := 168 } : Room) s m args below meth c H locs 0 0 (MQ below (Q_Part_judge K D ca ad L r F9 B9 A) args s 0 0 A) (F0 m 26 ls [])) {l5 : Int} {l4 : Int} {l3 : Int} {l0 : Int} {l1 : Int} {F : zF} {B : zB} {H : Heap} {locs : List Loc} {ls : Array Slot} (hf : f_Part_judge_154 rec26 K l5 l4 l3 l0 l1 F B = some (r, F9, B9)) (hZ : zH D ca ad lnC K.2 L F B A H) (hS : va_S A s.heap H locs) (hl : lv_has ls 6 [(5, .int (iI l5)), (4, va_rf (zrf ad 1 l4)), (3, .int (iI l3)), (0, .ref (ad 4 l0 0)), (1, .ref (ad 6 l1 0))]) : W p l e ({ frames := 6, cells := 0, slots := 0, locals := 168 } : Room) s m args below meth c H locs 0 0 (MQ below (Q_Part_judge K D ca ad L r F9 B9 A) args s 0 0 A) (F0 m 154 ls []) := by
  obtain ⟨hx, hb, hr, hml, hown, hts, hlk, hK, hA, hL, hX⟩ := id X
  replace hf : (if r32 l5 then (if l5 = 0 then if 0 ≤ l4 ∧ l4 < K.2 1 then zbind (f_Event_has K l4 2 F B) (fun r51 F51 B51 => if r32 r51 then (if r51 = 0 then f_Part_judge_173 rec26 K l4 l3 l0 l1 0 F51 B51 else f_Part_judge_168 rec26 K l4 l3 l0 l1 F51 B51) else none) else none else f_Part_judge_168 rec26 K l4 l3 l0 l1 F B) else none) = some (r, F9, B9) := hf
  refine lv_iload hx hb (D_21 W_prog_6_method_4_code_128 26 rfl rfl) (lv_at hl 0 rfl) ?_
  obtain ⟨g48, hf⟩ := gif hf
  refine z0ne (tgt := 168) hx hb g48 (D_154 W_prog_6_method_4_code_128 28 rfl rfl rfl) (by decide) (fun h49 => ?_) (fun h49 => ?_)
  · replace hf := gneg hf h49
    exact b_Part_judge_168 X hrec26 hf hZ hS (lv_sub hl [1, 2, 3, 4] rfl)
  · replace hf := gpos hf h49
    refine zaload hx hb (D_25 W_prog_6_method_4_code_128 31 rfl rfl) (lv_at hl 1 rfl) ?_
    refine lv_iconst (v := iI 2) hx hb (D_5 W_prog_6_method_4_code_160 1 rfl rfl) rfl ?_
    obtain ⟨g50, hf⟩ := gif hf
    refine W.eq (g2 := F0 m 162 ls [.int (iI 2), .ref (ad 1 l4 0)]) (by rw [zrf_pos (ad := ad) (t := 1) g50.1]; try rfl) ?_
    obtain ⟨r51, F51, B51, hc51, hf⟩ := gbind hf
    refine va_calli (va_runV (As := [.int (iI 2)]) (rest := []) ⟨hx, hb, hml, hown, hts⟩ (c_Event_has (l := l) hc51) (cwV 1 hts (gdV k_5_15 k_5_16 k_5_17 k_1_8 k_5_18) rfl rfl rfl (by decide +kernel) ⟨Nat.le_of_ble_eq_true rfl, Nat.le_of_ble_eq_true rfl⟩) (zPV X hZ hS (ci := 1) g50.1 g50.2 (r := (RX1, TX1, 14)) rfl [.int (iI 2)]) rfl rfl hl.1 rfl (lv_room (Nat.le_of_ble_eq_true rfl)) (D_182 W_prog_6_method_4_code_160 2 rfl rfl rfl) ⟨Nat.le_of_ble_eq_true rfl, Nat.le_of_ble_eq_true rfl⟩) hS (fun q _ h => zAin X hS q h) (zAin X hS) (fun p51 u51 t51 H51 locs51 ht51 hv51 hw51 hB51 hz51 hk51 hS51 => ?_)
    have hZ51 := zBack X ht51 hB51
    subst hw51
    obtain ⟨g52, hf⟩ := gif hf
    refine z0eq (tgt := 172) hx hb g52 (D_153 W_prog_6_method_4_code_160 5 rfl rfl rfl) (by decide) (fun h53 => ?_) (fun h53 => ?_)
    · replace hf := gpos hf h53
      refine lv_iconst (v := iI 0) hx hb (D_3 W_prog_6_method_4_code_160 12 rfl rfl) rfl ?_
      exact b_Part_judge_173 X hrec26 hf hZ51 hS51 (lv_sub hl [1, 2, 3, 4] rfl)
    · replace hf := gneg hf h53
      exact b_Part_judge_168 X hrec26 hf hZ51 hS51 (lv_sub hl [1, 2, 3, 4] rfl)

def f_Part_judge_142 (K : zK) (l4 : Int) (F : zF) (B : zB) : zO := if 0 ≤ l4 ∧ l4 < K.2 1 then some (11 + (16 * (F 1 l4 9)), F, B) else none
set_option maxHeartbeats 4000000 in
set_option maxRecDepth 100000 in
theorem b_Part_judge_142 {D : va_G} {ca : Nat → ClassId} {ad : Nat → Int → Nat → Nat} {L : List Nat} {aS vS : Nat → Nat} {A : Nat → Prop} {p : Program} {l : Launch} {e : Env} {s : State} {m : MethodId} {args : Array Value} {below : List Frame} {meth : Method} {c : Code} {K : zK} {r : Int} {F9 : zF} {B9 : zB} (X : zX D ca L aS vS A p s m args meth c prog_6_method_4_code 6 (Option.some Jvm.ClassFile.FieldType.int) "StaveHouse$Part") {l4 : Int} {F : zF} {B : zB} {H : Heap} {locs : List Loc} {ls : Array Slot} (hf : f_Part_judge_142 K l4 F B = some (r, F9, B9)) (hZ : zH D ca ad lnC K.2 L F B A H) (hS : va_S A s.heap H locs) (hl : lv_has ls 6 [(4, va_rf (zrf ad 1 l4))]) : W p l e ({ frames := 6, cells := 0, slots := 0, locals := 168 } : Room) s m args below meth c H locs 0 0 (MQ below (Q_Part_judge K D ca ad L r F9 B9 A) args s 0 0 A) (F0 m 142 ls []) := by
  obtain ⟨hx, hb, hr, hml, hown, hts, hlk, hK, hA, hL, hX⟩ := id X
  replace hf : (if 0 ≤ l4 ∧ l4 < K.2 1 then some (11 + (16 * (F 1 l4 9)), F, B) else none) = some (r, F9, B9) := hf
  refine lv_bipush (v := iI 11) hx hb (D_16 W_prog_6_method_4_code_128 14 rfl rfl rfl) (by decide) ?_
  refine lv_bipush (v := iI 16) hx hb (D_16 W_prog_6_method_4_code_128 16 rfl rfl rfl) (by decide) ?_
  refine zaload hx hb (D_25 W_prog_6_method_4_code_128 18 rfl rfl) (lv_at hl 0 rfl) ?_
  obtain ⟨g47, hf⟩ := gif hf
  refine zunrf g47.1 ?_
  refine zget (ci := 1) (C := RX1) (T := TX1) (v := .int (iI (F 1 l4 9))) (k := 9) hx hb hts inW_1 hown hK hZ g47.1 g47.2 rfl (by decide) k_2_45 rfl (D_180 W_prog_6_method_4_code_128 20 rfl rfl rfl) ?_
  refine zmul hx hb (D_104 W_prog_6_method_4_code_128 23 rfl rfl) ?_
  refine zadd hx hb (D_96 W_prog_6_method_4_code_128 24 rfl rfl) ?_
  cases hf
  exact W.iret hx hb hr (fun t ht hW => ⟨⟨_, (), rfl, rfl, by rw [ht]; exact hZ, va_K.moved hW.alike hK⟩, hS.F ht⟩) hS.2.2 (D_172 W_prog_6_method_4_code_128 25 rfl rfl) hlk

def f_Part_judge_128 (rec26 : Int → Int → Int → Int → zF → zB → zO) (K : zK) (l5 : Int) (l4 : Int) (l3 : Int) (l0 : Int) (l1 : Int) (F : zF) (B : zB) : zO := if 0 ≤ l4 ∧ l4 < K.2 1 then zbind (f_Event_has K l4 2 F B) (fun r42 F42 B42 => if r32 r42 then (if r42 = 0 then f_Part_judge_154 rec26 K l5 l4 l3 l0 l1 F42 B42 else if r32 l5 then (if l5 = 0 then f_Part_judge_154 rec26 K l5 l4 l3 l0 l1 F42 B42 else f_Part_judge_142 K l4 F42 B42) else none) else none) else none
set_option maxHeartbeats 4000000 in
set_option maxRecDepth 100000 in
theorem b_Part_judge_128 {D : va_G} {ca : Nat → ClassId} {ad : Nat → Int → Nat → Nat} {L : List Nat} {aS vS : Nat → Nat} {A : Nat → Prop} {p : Program} {l : Launch} {e : Env} {s : State} {m : MethodId} {args : Array Value} {below : List Frame} {meth : Method} {c : Code} {K : zK} {r : Int} {F9 : zF} {B9 : zB} (X : zX D ca L aS vS A p s m args meth c prog_6_method_4_code 6 (Option.some Jvm.ClassFile.FieldType.int) "StaveHouse$Part") {rec26 : Int → Int → Int → Int → zF → zB → zO} (hrec26 : ∀ {l3 : Int} {l2 : Int} {l0 : Int} {l1 : Int} {F : zF} {B : zB} {H : Heap} {locs : List Loc} {ls : Array Slot}, rec26 l3 l2 l0 l1 F B = some (r, F9, B9) → zH D ca ad lnC K.2 L F B A H → va_S A s.heap H locs → lv_has ls 6 [(3, .int (iI l3)), (2, .int (iI l2)), (0, .ref (ad 4 l0 0)), (1, .ref (ad 6 l1 0))] → W p l e ({ frames := 6, cells := 0, slots := 0, locals := 168 } : Room) s m args below meth c H locs 0 0 (MQ below (Q_Part_judge K D ca ad L r F9 B9 A) args s 0 0 A) (F0 m 26 ls [])) {l5 : Int} {l4 : Int} {l3 : Int} {l0 : Int} {l1 : Int} {F : zF} {B : zB} {H : Heap} {locs : List Loc} {ls : Array Slot} (hf : f_Part_judge_128 rec26 K l5 l4 l3 l0 l1 F B = some (r, F9, B9)) (hZ : zH D ca ad lnC K.2 L F B A H) (hS : va_S A s.heap H locs) (hl : lv_has ls 6 [(5, .int (iI l5)), (4, va_rf (zrf ad 1 l4)), (3, .int (iI l3)), (0, .ref (ad 4 l0 0)), (1, .ref (ad 6 l1 0))]) : W p l e ({ frames := 6, cells := 0, slots := 0, locals := 168 } : Room) s m args below meth c H locs 0 0 (MQ below (Q_Part_judge K D ca ad L r F9 B9 A) args s 0 0 A) (F0 m 128 ls []) := by
  obtain ⟨hx, hb, hr, hml, hown, hts, hlk, hK, hA, hL, hX⟩ := id X
  replace hf : (if 0 ≤ l4 ∧ l4 < K.2 1 then zbind (f_Event_has K l4 2 F B) (fun r42 F42 B42 => if r32 r42 then (if r42 = 0 then f_Part_judge_154 rec26 K l5 l4 l3 l0 l1 F42 B42 else if r32 l5 then (if l5 = 0 then f_Part_judge_154 rec26 K l5 l4 l3 l0 l1 F42 B42 else f_Part_judge_142 K l4 F42 B42) else none) else none) else none) = some (r, F9, B9) := hf
  refine zaload hx hb (D_25 W_prog_6_method_4_code_128 0 rfl rfl) (lv_at hl 1 rfl) ?_
  refine lv_iconst (v := iI 2) hx hb (D_5 W_prog_6_method_4_code_128 2 rfl rfl) rfl ?_
  obtain ⟨g41, hf⟩ := gif hf
  refine W.eq (g2 := F0 m 131 ls [.int (iI 2), .ref (ad 1 l4 0)]) (by rw [zrf_pos (ad := ad) (t := 1) g41.1]; try rfl) ?_
  obtain ⟨r42, F42, B42, hc42, hf⟩ := gbind hf
  refine va_calli (va_runV (As := [.int (iI 2)]) (rest := []) ⟨hx, hb, hml, hown, hts⟩ (c_Event_has (l := l) hc42) (cwV 1 hts (gdV k_5_15 k_5_16 k_5_17 k_1_8 k_5_18) rfl rfl rfl (by decide +kernel) ⟨Nat.le_of_ble_eq_true rfl, Nat.le_of_ble_eq_true rfl⟩) (zPV X hZ hS (ci := 1) g41.1 g41.2 (r := (RX1, TX1, 14)) rfl [.int (iI 2)]) rfl rfl hl.1 rfl (lv_room (Nat.le_of_ble_eq_true rfl)) (D_182 W_prog_6_method_4_code_128 3 rfl rfl rfl) ⟨Nat.le_of_ble_eq_true rfl, Nat.le_of_ble_eq_true rfl⟩) hS (fun q _ h => zAin X hS q h) (zAin X hS) (fun p42 u42 t42 H42 locs42 ht42 hv42 hw42 hB42 hz42 hk42 hS42 => ?_)
  have hZ42 := zBack X ht42 hB42
  subst hw42
  obtain ⟨g43, hf⟩ := gif hf
  refine z0eq (tgt := 154) hx hb g43 (D_153 W_prog_6_method_4_code_128 6 rfl rfl rfl) (by decide) (fun h44 => ?_) (fun h44 => ?_)
  · replace hf := gpos hf h44
    exact b_Part_judge_154 X hrec26 hf hZ42 hS42 (lv_sub hl [0, 1, 2, 3, 4] rfl)
  · replace hf := gneg hf h44
    refine lv_iload hx hb (D_21 W_prog_6_method_4_code_128 9 rfl rfl) (lv_at hl 0 rfl) ?_
    obtain ⟨g45, hf⟩ := gif hf
    refine z0eq (tgt := 154) hx hb g45 (D_153 W_prog_6_method_4_code_128 11 rfl rfl rfl) (by decide) (fun h46 => ?_) (fun h46 => ?_)
    · replace hf := gpos hf h46
      exact b_Part_judge_154 X hrec26 hf hZ42 hS42 (lv_sub hl [0, 1, 2, 3, 4] rfl)
    · replace hf := gneg hf h46
      exact b_Part_judge_142 X hf hZ42 hS42 (lv_sub hl [1] rfl)

def f_Part_judge_113 (rec26 : Int → Int → Int → Int → zF → zB → zO) (K : zK) (l4 : Int) (l3 : Int) (l2 : Int) (l0 : Int) (l1 : Int) (s0 : Int) (F : zF) (B : zB) : zO := if 0 ≤ l4 ∧ l4 < K.2 1 then zbind (f_Event_has K l4 4 F B) (fun r36 F36 B36 => if r32 r36 then (if r36 = 0 then f_Part_judge_128 rec26 K s0 l4 l3 l0 l1 F36 B36 else if r32 l2 then (if l2 = 0 then f_Part_judge_142 K l4 F36 B36 else f_Part_judge_128 rec26 K s0 l4 l3 l0 l1 F36 B36) else none) else none) else none
set_option maxHeartbeats 4000000 in
set_option maxRecDepth 100000 in
theorem b_Part_judge_113 {D : va_G} {ca : Nat → ClassId} {ad : Nat → Int → Nat → Nat} {L : List Nat} {aS vS : Nat → Nat} {A : Nat → Prop} {p : Program} {l : Launch} {e : Env} {s : State} {m : MethodId} {args : Array Value} {below : List Frame} {meth : Method} {c : Code} {K : zK} {r : Int} {F9 : zF} {B9 : zB} (X : zX D ca L aS vS A p s m args meth c prog_6_method_4_code 6 (Option.some Jvm.ClassFile.FieldType.int) "StaveHouse$Part") {rec26 : Int → Int → Int → Int → zF → zB → zO} (hrec26 : ∀ {l3 : Int} {l2 : Int} {l0 : Int} {l1 : Int} {F : zF} {B : zB} {H : Heap} {locs : List Loc} {ls : Array Slot}, rec26 l3 l2 l0 l1 F B = some (r, F9, B9) → zH D ca ad lnC K.2 L F B A H → va_S A s.heap H locs → lv_has ls 6 [(3, .int (iI l3)), (2, .int (iI l2)), (0, .ref (ad 4 l0 0)), (1, .ref (ad 6 l1 0))] → W p l e ({ frames := 6, cells := 0, slots := 0, locals := 168 } : Room) s m args below meth c H locs 0 0 (MQ below (Q_Part_judge K D ca ad L r F9 B9 A) args s 0 0 A) (F0 m 26 ls [])) {l4 : Int} {l3 : Int} {l2 : Int} {l0 : Int} {l1 : Int} {s0 : Int} {F : zF} {B : zB} {H : Heap} {locs : List Loc} {ls : Array Slot} (hf : f_Part_judge_113 rec26 K l4 l3 l2 l0 l1 s0 F B = some (r, F9, B9)) (hZ : zH D ca ad lnC K.2 L F B A H) (hS : va_S A s.heap H locs) (hl : lv_has ls 6 [(4, va_rf (zrf ad 1 l4)), (3, .int (iI l3)), (2, .int (iI l2)), (0, .ref (ad 4 l0 0)), (1, .ref (ad 6 l1 0))]) : W p l e ({ frames := 6, cells := 0, slots := 0, locals := 168 } : Room) s m args below meth c H locs 0 0 (MQ below (Q_Part_judge K D ca ad L r F9 B9 A) args s 0 0 A) (F0 m 113 ls [.int (iI s0)]) := by
  obtain ⟨hx, hb, hr, hml, hown, hts, hlk, hK, hA, hL, hX⟩ := id X
  replace hf : (if 0 ≤ l4 ∧ l4 < K.2 1 then zbind (f_Event_has K l4 4 F B) (fun r36 F36 B36 => if r32 r36 then (if r36 = 0 then f_Part_judge_128 rec26 K s0 l4 l3 l0 l1 F36 B36 else if r32 l2 then (if l2 = 0 then f_Part_judge_142 K l4 F36 B36 else f_Part_judge_128 rec26 K s0 l4 l3 l0 l1 F36 B36) else none) else none) else none) = some (r, F9, B9) := hf
  refine lv_istore (lv' := [(5, .int (iI s0)), (4, va_rf (zrf ad 1 l4)), (3, .int (iI l3)), (2, .int (iI l2)), (0, .ref (ad 4 l0 0)), (1, .ref (ad 6 l1 0))]) hx hb (D_54 W_prog_6_method_4_code_96 17 rfl rfl) hl (by decide) (by cases zrf ad 1 l4 <;> rfl) (fun ls hl => ?_)
  refine zaload hx hb (D_25 W_prog_6_method_4_code_96 19 rfl rfl) (lv_at hl 1 rfl) ?_
  refine lv_iconst (v := iI 4) hx hb (D_7 W_prog_6_method_4_code_96 21 rfl rfl) rfl ?_
  obtain ⟨g35, hf⟩ := gif hf
  refine W.eq (g2 := F0 m 118 ls [.int (iI 4), .ref (ad 1 l4 0)]) (by rw [zrf_pos (ad := ad) (t := 1) g35.1]; try rfl) ?_
  obtain ⟨r36, F36, B36, hc36, hf⟩ := gbind hf
  refine va_calli (va_runV (As := [.int (iI 4)]) (rest := []) ⟨hx, hb, hml, hown, hts⟩ (c_Event_has (l := l) hc36) (cwV 1 hts (gdV k_5_15 k_5_16 k_5_17 k_1_8 k_5_18) rfl rfl rfl (by decide +kernel) ⟨Nat.le_of_ble_eq_true rfl, Nat.le_of_ble_eq_true rfl⟩) (zPV X hZ hS (ci := 1) g35.1 g35.2 (r := (RX1, TX1, 14)) rfl [.int (iI 4)]) rfl rfl hl.1 rfl (lv_room (Nat.le_of_ble_eq_true rfl)) (D_182 W_prog_6_method_4_code_96 22 rfl rfl rfl) ⟨Nat.le_of_ble_eq_true rfl, Nat.le_of_ble_eq_true rfl⟩) hS (fun q _ h => zAin X hS q h) (zAin X hS) (fun p36 u36 t36 H36 locs36 ht36 hv36 hw36 hB36 hz36 hk36 hS36 => ?_)
  have hZ36 := zBack X ht36 hB36
  subst hw36
  obtain ⟨g37, hf⟩ := gif hf
  refine z0eq (tgt := 128) hx hb g37 (D_153 W_prog_6_method_4_code_96 25 rfl rfl rfl) (by decide) (fun h38 => ?_) (fun h38 => ?_)
  · replace hf := gpos hf h38
    exact b_Part_judge_128 X hrec26 hf hZ36 hS36 (lv_sub hl [0, 1, 2, 4, 5] rfl)
  · replace hf := gneg hf h38
    refine lv_iload_n hx hb (D_28 W_prog_6_method_4_code_96 28 rfl rfl) rfl (lv_at hl 3 rfl) ?_
    obtain ⟨g39, hf⟩ := gif hf
    refine z0eq (tgt := 142) hx hb g39 (D_153 W_prog_6_method_4_code_96 29 rfl rfl rfl) (by decide) (fun h40 => ?_) (fun h40 => ?_)
    · replace hf := gpos hf h40
      exact b_Part_judge_142 X hf hZ36 hS36 (lv_sub hl [1] rfl)
    · replace hf := gneg hf h40
      exact b_Part_judge_128 X hrec26 hf hZ36 hS36 (lv_sub hl [0, 1, 2, 4, 5] rfl)

def f_Part_judge_112 (rec26 : Int → Int → Int → Int → zF → zB → zO) (K : zK) (l4 : Int) (l3 : Int) (l2 : Int) (l0 : Int) (l1 : Int) (F : zF) (B : zB) : zO := f_Part_judge_113 rec26 K l4 l3 l2 l0 l1 0 F B
set_option maxHeartbeats 4000000 in
set_option maxRecDepth 100000 in
theorem b_Part_judge_112 {D : va_G} {ca : Nat → ClassId} {ad : Nat → Int → Nat → Nat} {L : List Nat} {aS vS : Nat → Nat} {A : Nat → Prop} {p : Program} {l : Launch} {e : Env} {s : State} {m : MethodId} {args : Array Value} {below : List Frame} {meth : Method} {c : Code} {K : zK} {r : Int} {F9 : zF} {B9 : zB} (X : zX D ca L aS vS A p s m args meth c prog_6_method_4_code 6 (Option.some Jvm.ClassFile.FieldType.int) "StaveHouse$Part") {rec26 : Int → Int → Int → Int → zF → zB → zO} (hrec26 : ∀ {l3 : Int} {l2 : Int} {l0 : Int} {l1 : Int} {F : zF} {B : zB} {H : Heap} {locs : List Loc} {ls : Array Slot}, rec26 l3 l2 l0 l1 F B = some (r, F9, B9) → zH D ca ad lnC K.2 L F B A H → va_S A s.heap H locs → lv_has ls 6 [(3, .int (iI l3)), (2, .int (iI l2)), (0, .ref (ad 4 l0 0)), (1, .ref (ad 6 l1 0))] → W p l e ({ frames := 6, cells := 0, slots := 0, locals := 168 } : Room) s m args below meth c H locs 0 0 (MQ below (Q_Part_judge K D ca ad L r F9 B9 A) args s 0 0 A) (F0 m 26 ls [])) {l4 : Int} {l3 : Int} {l2 : Int} {l0 : Int} {l1 : Int} {F : zF} {B : zB} {H : Heap} {locs : List Loc} {ls : Array Slot} (hf : f_Part_judge_112 rec26 K l4 l3 l2 l0 l1 F B = some (r, F9, B9)) (hZ : zH D ca ad lnC K.2 L F B A H) (hS : va_S A s.heap H locs) (hl : lv_has ls 6 [(4, va_rf (zrf ad 1 l4)), (3, .int (iI l3)), (2, .int (iI l2)), (0, .ref (ad 4 l0 0)), (1, .ref (ad 6 l1 0))]) : W p l e ({ frames := 6, cells := 0, slots := 0, locals := 168 } : Room) s m args below meth c H locs 0 0 (MQ below (Q_Part_judge K D ca ad L r F9 B9 A) args s 0 0 A) (F0 m 112 ls []) := by
  obtain ⟨hx, hb, hr, hml, hown, hts, hlk, hK, hA, hL, hX⟩ := id X
  replace hf : (f_Part_judge_113 rec26 K l4 l3 l2 l0 l1 0 F B) = some (r, F9, B9) := hf
  refine lv_iconst (v := iI 0) hx hb (D_3 W_prog_6_method_4_code_96 16 rfl rfl) rfl ?_
  exact b_Part_judge_113 X hrec26 hf hZ hS (lv_sub hl [0, 1, 2, 3, 4] rfl)

def f_Part_judge_95 (rec26 : Int → Int → Int → Int → zF → zB → zO) (K : zK) (l4 : Int) (l3 : Int) (l2 : Int) (l0 : Int) (l1 : Int) (F : zF) (B : zB) : zO := if r32 l2 then (if l2 = 0 then f_Part_judge_112 rec26 K l4 l3 l2 l0 l1 F B else if 0 ≤ l4 ∧ l4 < K.2 1 then zbind (f_Event_has K l4 4 F B) (fun r31 F31 B31 => if r32 r31 then (if r31 = 0 then f_Part_judge_113 rec26 K l4 l3 l2 l0 l1 1 F31 B31 else f_Part_judge_112 rec26 K l4 l3 l2 l0 l1 F31 B31) else none) else none) else none
set_option maxHeartbeats 4000000 in
set_option maxRecDepth 100000 in
theorem b_Part_judge_95 {D : va_G} {ca : Nat → ClassId} {ad : Nat → Int → Nat → Nat} {L : List Nat} {aS vS : Nat → Nat} {A : Nat → Prop} {p : Program} {l : Launch} {e : Env} {s : State} {m : MethodId} {args : Array Value} {below : List Frame} {meth : Method} {c : Code} {K : zK} {r : Int} {F9 : zF} {B9 : zB} (X : zX D ca L aS vS A p s m args meth c prog_6_method_4_code 6 (Option.some Jvm.ClassFile.FieldType.int) "StaveHouse$Part") {rec26 : Int → Int → Int → Int → zF → zB → zO} (hrec26 : ∀ {l3 : Int} {l2 : Int} {l0 : Int} {l1 : Int} {F : zF} {B : zB} {H : Heap} {locs : List Loc} {ls : Array Slot}, rec26 l3 l2 l0 l1 F B = some (r, F9, B9) → zH D ca ad lnC K.2 L F B A H → va_S A s.heap H locs → lv_has ls 6 [(3, .int (iI l3)), (2, .int (iI l2)), (0, .ref (ad 4 l0 0)), (1, .ref (ad 6 l1 0))] → W p l e ({ frames := 6, cells := 0, slots := 0, locals := 168 } : Room) s m args below meth c H locs 0 0 (MQ below (Q_Part_judge K D ca ad L r F9 B9 A) args s 0 0 A) (F0 m 26 ls [])) {l4 : Int} {l3 : Int} {l2 : Int} {l0 : Int} {l1 : Int} {F : zF} {B : zB} {H : Heap} {locs : List Loc} {ls : Array Slot} (hf : f_Part_judge_95 rec26 K l4 l3 l2 l0 l1 F B = some (r, F9, B9)) (hZ : zH D ca ad lnC K.2 L F B A H) (hS : va_S A s.heap H locs) (hl : lv_has ls 6 [(4, va_rf (zrf ad 1 l4)), (3, .int (iI l3)), (2, .int (iI l2)), (0, .ref (ad 4 l0 0)), (1, .ref (ad 6 l1 0))]) : W p l e ({ frames := 6, cells := 0, slots := 0, locals := 168 } : Room) s m args below meth c H locs 0 0 (MQ below (Q_Part_judge K D ca ad L r F9 B9 A) args s 0 0 A) (F0 m 95 ls []) := by
  obtain ⟨hx, hb, hr, hml, hown, hts, hlk, hK, hA, hL, hX⟩ := id X
  replace hf : (if r32 l2 then (if l2 = 0 then f_Part_judge_112 rec26 K l4 l3 l2 l0 l1 F B else if 0 ≤ l4 ∧ l4 < K.2 1 then zbind (f_Event_has K l4 4 F B) (fun r31 F31 B31 => if r32 r31 then (if r31 = 0 then f_Part_judge_113 rec26 K l4 l3 l2 l0 l1 1 F31 B31 else f_Part_judge_112 rec26 K l4 l3 l2 l0 l1 F31 B31) else none) else none) else none) = some (r, F9, B9) := hf
  refine lv_iload_n hx hb (D_28 W_prog_6_method_4_code_64 31 rfl rfl) rfl (lv_at hl 2 rfl) ?_
  obtain ⟨g28, hf⟩ := gif hf
  refine z0eq (tgt := 112) hx hb g28 (D_153 W_prog_6_method_4_code_96 0 rfl rfl rfl) (by decide) (fun h29 => ?_) (fun h29 => ?_)
  · replace hf := gpos hf h29
    exact b_Part_judge_112 X hrec26 hf hZ hS (lv_sub hl [0, 1, 2, 3, 4] rfl)
  · replace hf := gneg hf h29
    refine zaload hx hb (D_25 W_prog_6_method_4_code_96 3 rfl rfl) (lv_at hl 0 rfl) ?_
    refine lv_iconst (v := iI 4) hx hb (D_7 W_prog_6_method_4_code_96 5 rfl rfl) rfl ?_
    obtain ⟨g30, hf⟩ := gif hf
    refine W.eq (g2 := F0 m 102 ls [.int (iI 4), .ref (ad 1 l4 0)]) (by rw [zrf_pos (ad := ad) (t := 1) g30.1]; try rfl) ?_
    obtain ⟨r31, F31, B31, hc31, hf⟩ := gbind hf
    refine va_calli (va_runV (As := [.int (iI 4)]) (rest := []) ⟨hx, hb, hml, hown, hts⟩ (c_Event_has (l := l) hc31) (cwV 1 hts (gdV k_5_15 k_5_16 k_5_17 k_1_8 k_5_18) rfl rfl rfl (by decide +kernel) ⟨Nat.le_of_ble_eq_true rfl, Nat.le_of_ble_eq_true rfl⟩) (zPV X hZ hS (ci := 1) g30.1 g30.2 (r := (RX1, TX1, 14)) rfl [.int (iI 4)]) rfl rfl hl.1 rfl (lv_room (Nat.le_of_ble_eq_true rfl)) (D_182 W_prog_6_method_4_code_96 6 rfl rfl rfl) ⟨Nat.le_of_ble_eq_true rfl, Nat.le_of_ble_eq_true rfl⟩) hS (fun q _ h => zAin X hS q h) (zAin X hS) (fun p31 u31 t31 H31 locs31 ht31 hv31 hw31 hB31 hz31 hk31 hS31 => ?_)
    have hZ31 := zBack X ht31 hB31
    subst hw31
    obtain ⟨g33, hf⟩ := gif hf
    refine z0ne (tgt := 112) hx hb g33 (D_154 W_prog_6_method_4_code_96 9 rfl rfl rfl) (by decide) (fun h34 => ?_) (fun h34 => ?_)
    · replace hf := gneg hf h34
      exact b_Part_judge_112 X hrec26 hf hZ31 hS31 (lv_sub hl [0, 1, 2, 3, 4] rfl)
    · replace hf := gpos hf h34
      refine lv_iconst (v := iI 1) hx hb (D_4 W_prog_6_method_4_code_96 12 rfl rfl) rfl ?_
      refine lv_goto (tgt := 113) hx hb (D_167 W_prog_6_method_4_code_96 13 rfl rfl rfl) (by decide) ?_
      exact b_Part_judge_113 X hrec26 hf hZ31 hS31 (lv_sub hl [0, 1, 2, 3, 4] rfl)

def f_Part_judge_26 (K : zK) : Nat → Int → Int → Int → Int → zF → zB → zO
  | 0, _, _, _, _, _, _ => none
  | n + 1, l3, l2, l0, l1, F, B => if 0 ≤ l0 ∧ l0 < K.2 4 then if r32 l3 then if r32 (F 4 l0 6) then (if (F 4 l0 6) ≤ l3 then if r32 l2 then (if l2 = 0 then zbind (f_Part_writeNotes K l0 l1 F B) (fun r11 F11 B11 => if r32 (F11 4 l0 11) then (if (F11 4 l0 11) = 0 then f_Part_judge_227 K 0 F11 B11 else f_Part_judge_227 K (14 + (16 * (F11 4 l0 3))) F11 B11) else none) else some (11 + (16 * (F 4 l0 3)), F, B)) else none else if 0 ≤ l3 ∧ l3 < 200 then if 0 ≤ l1 ∧ l1 < K.2 6 then zbind (f_Piece_barLength K l1 F B) (fun r16 F16 B16 => zbind (f_Part_bracketStands K l0 l3 r16 F16 B16) (fun r17 F17 B17 => if r32 r17 then (if r17 = 0 then if 0 ≤ (B 4 l0 5 l3) ∧ (B 4 l0 5 l3) < K.2 1 then some (13 + (16 * (F17 1 (B 4 l0 5 l3) 6)), F17, B17) else none else if 0 ≤ (B 4 l0 5 l3) ∧ (B 4 l0 5 l3) < K.2 1 then zbind (f_Event_has K (B 4 l0 5 l3) 1 F17 B17) (fun r21 F21 B21 => if r32 r21 then (if r21 = 0 then f_Part_judge_95 (f_Part_judge_26 K n) K (B 4 l0 5 l3) l3 l2 l0 l1 F21 B21 else zbind (f_Part_tiedPitches K l0 l3 F21 B21) (fun r24 F24 B24 => if r32 r24 then (if r24 = 0 then some (10 + (16 * (F24 1 (B 4 l0 5 l3) 9)), F24, B24) else f_Part_judge_95 (f_Part_judge_26 K n) K (B 4 l0 5 l3) l3 l2 l0 l1 F24 B24) else none)) else none) else none) else none)) else none else none) else none else none else none
set_option maxHeartbeats 4000000 in
set_option maxRecDepth 100000 in
theorem b_Part_judge_26 {D : va_G} {ca : Nat → ClassId} {ad : Nat → Int → Nat → Nat} {L : List Nat} {aS vS : Nat → Nat} {A : Nat → Prop} {p : Program} {l : Launch} {e : Env} {s : State} {m : MethodId} {args : Array Value} {below : List Frame} {meth : Method} {c : Code} {K : zK} {r : Int} {F9 : zF} {B9 : zB} (X : zX D ca L aS vS A p s m args meth c prog_6_method_4_code 6 (Option.some Jvm.ClassFile.FieldType.int) "StaveHouse$Part") : ∀ {n : Nat} {l3 : Int} {l2 : Int} {l0 : Int} {l1 : Int} {F : zF} {B : zB} {H : Heap} {locs : List Loc} {ls : Array Slot}, f_Part_judge_26 K n l3 l2 l0 l1 F B = some (r, F9, B9) → zH D ca ad lnC K.2 L F B A H → va_S A s.heap H locs → lv_has ls 6 [(3, .int (iI l3)), (2, .int (iI l2)), (0, .ref (ad 4 l0 0)), (1, .ref (ad 6 l1 0))] → W p l e ({ frames := 6, cells := 0, slots := 0, locals := 168 } : Room) s m args below meth c H locs 0 0 (MQ below (Q_Part_judge K D ca ad L r F9 B9 A) args s 0 0 A) (F0 m 26 ls []) := by
  obtain ⟨hx, hb, hr, hml, hown, hts, hlk, hK, hA, hL, hX⟩ := id X
  intro n
  induction n with
  | zero =>
    intros
    rename_i hf _ _ _
    cases hf
  | succ n ih =>
    intro l3 l2 l0 l1 F B H locs ls hf hZ hS hl
    replace hf : (if 0 ≤ l0 ∧ l0 < K.2 4 then if r32 l3 then if r32 (F 4 l0 6) then (if (F 4 l0 6) ≤ l3 then if r32 l2 then (if l2 = 0 then zbind (f_Part_writeNotes K l0 l1 F B) (fun r11 F11 B11 => if r32 (F11 4 l0 11) then (if (F11 4 l0 11) = 0 then f_Part_judge_227 K 0 F11 B11 else f_Part_judge_227 K (14 + (16 * (F11 4 l0 3))) F11 B11) else none) else some (11 + (16 * (F 4 l0 3)), F, B)) else none else if 0 ≤ l3 ∧ l3 < 200 then if 0 ≤ l1 ∧ l1 < K.2 6 then zbind (f_Piece_barLength K l1 F B) (fun r16 F16 B16 => zbind (f_Part_bracketStands K l0 l3 r16 F16 B16) (fun r17 F17 B17 => if r32 r17 then (if r17 = 0 then if 0 ≤ (B 4 l0 5 l3) ∧ (B 4 l0 5 l3) < K.2 1 then some (13 + (16 * (F17 1 (B 4 l0 5 l3) 6)), F17, B17) else none else if 0 ≤ (B 4 l0 5 l3) ∧ (B 4 l0 5 l3) < K.2 1 then zbind (f_Event_has K (B 4 l0 5 l3) 1 F17 B17) (fun r21 F21 B21 => if r32 r21 then (if r21 = 0 then f_Part_judge_95 (f_Part_judge_26 K n) K (B 4 l0 5 l3) l3 l2 l0 l1 F21 B21 else zbind (f_Part_tiedPitches K l0 l3 F21 B21) (fun r24 F24 B24 => if r32 r24 then (if r24 = 0 then some (10 + (16 * (F24 1 (B 4 l0 5 l3) 9)), F24, B24) else f_Part_judge_95 (f_Part_judge_26 K n) K (B 4 l0 5 l3) l3 l2 l0 l1 F24 B24) else none)) else none) else none) else none)) else none else none) else none else none else none) = some (r, F9, B9) := hf
    refine lv_iload_n hx hb (D_29 W_prog_6_method_4_code_0 26 rfl rfl) rfl (lv_at hl 0 rfl) ?_
    refine lv_aload_n hx hb (D_42 W_prog_6_method_4_code_0 27 rfl rfl) rfl (lv_at hl 2 rfl) ?_
    obtain ⟨g5, hf⟩ := gif hf
    refine zget (ci := 4) (C := RX4) (T := TX4) (v := .int (iI (F 4 l0 6))) (k := 6) hx hb hts inW_4 hown hK hZ g5.1 g5.2 rfl (by decide) k_4_135 rfl (D_180 W_prog_6_method_4_code_0 28 rfl rfl rfl) ?_
    obtain ⟨g6, hf⟩ := gif hf
    obtain ⟨g7, hf⟩ := gif hf
    refine zge (tgt := 186) hx hb g6 g7 (D_162 W_prog_6_method_4_code_0 31 rfl rfl rfl) (by decide) (fun h8 => ?_) (fun h8 => ?_)
    · replace hf := gpos hf h8
      refine lv_iload_n hx hb (D_28 W_prog_6_method_4_code_160 26 rfl rfl) rfl (lv_at hl 1 rfl) ?_
      obtain ⟨g9, hf⟩ := gif hf
      refine z0eq (tgt := 201) hx hb g9 (D_153 W_prog_6_method_4_code_160 27 rfl rfl rfl) (by decide) (fun h10 => ?_) (fun h10 => ?_)
      · replace hf := gpos hf h10
        refine lv_aload_n hx hb (D_42 W_prog_6_method_4_code_192 9 rfl rfl) rfl (lv_at hl 2 rfl) ?_
        refine lv_aload_n hx hb (D_43 W_prog_6_method_4_code_192 10 rfl rfl) rfl (lv_at hl 3 rfl) ?_
        obtain ⟨r11, F11, B11, hc11, hf⟩ := gbind hf
        refine va_callv (va_runV (As := [.ref (ad 6 l1 0)]) (rest := []) ⟨hx, hb, hml, hown, hts⟩ (c_Part_writeNotes (l := l) hc11) (cwV 1 hts (gdV k_5_49 k_5_51 ks_48 k_1_18 k_5_52) rfl rfl rfl (by decide +kernel) ⟨Nat.le_of_ble_eq_true rfl, Nat.le_of_ble_eq_true rfl⟩) (zPV X hZ hS (ci := 4) g5.1 g5.2 (r := (RX4, TX4, 13)) rfl [.ref (ad 6 l1 0)]) rfl rfl hl.1 rfl (lv_room (Nat.le_of_ble_eq_true rfl)) (D_182 W_prog_6_method_4_code_192 11 rfl rfl rfl) ⟨Nat.le_of_ble_eq_true rfl, Nat.le_of_ble_eq_true rfl⟩) hS (fun q _ h => zAin X hS q h) (zAin X hS) (fun u11 t11 H11 locs11 ht11 hv11 hw11 hB11 hz11 hk11 hS11 => ?_)
        have hZ11 := zBack X ht11 hB11
        refine lv_aload_n hx hb (D_42 W_prog_6_method_4_code_192 14 rfl rfl) rfl (lv_at hl 2 rfl) ?_
        refine zget (ci := 4) (C := RX4) (T := TX4) (v := .int (iI (F11 4 l0 11))) (k := 11) hx hb hts inW_4 hown hK hZ11 g5.1 g5.2 rfl (by decide) k_4_151 rfl (D_180 W_prog_6_method_4_code_192 15 rfl rfl rfl) ?_
        obtain ⟨g12, hf⟩ := gif hf
        refine z0eq (tgt := 226) hx hb g12 (D_153 W_prog_6_method_4_code_192 18 rfl rfl rfl) (by decide) (fun h13 => ?_) (fun h13 => ?_)
        · replace hf := gpos hf h13
          refine lv_iconst (v := iI 0) hx hb (D_3 W_prog_6_method_4_code_224 2 rfl rfl) rfl ?_
          exact b_Part_judge_227 X hf hZ11 hS11 (lv_sub hl [] rfl)
        · replace hf := gneg hf h13
          refine lv_bipush (v := iI 14) hx hb (D_16 W_prog_6_method_4_code_192 21 rfl rfl rfl) (by decide) ?_
          refine lv_bipush (v := iI 16) hx hb (D_16 W_prog_6_method_4_code_192 23 rfl rfl rfl) (by decide) ?_
          refine lv_aload_n hx hb (D_42 W_prog_6_method_4_code_192 25 rfl rfl) rfl (lv_at hl 2 rfl) ?_
          refine zget (ci := 4) (C := RX4) (T := TX4) (v := .int (iI (F11 4 l0 3))) (k := 3) hx hb hts inW_4 hown hK hZ11 g5.1 g5.2 rfl (by decide) k_4_125 rfl (D_180 W_prog_6_method_4_code_192 26 rfl rfl rfl) ?_
          refine zmul hx hb (D_104 W_prog_6_method_4_code_192 29 rfl rfl) ?_
          refine zadd hx hb (D_96 W_prog_6_method_4_code_192 30 rfl rfl) ?_
          refine lv_goto (tgt := 227) hx hb (D_167 W_prog_6_method_4_code_192 31 rfl rfl rfl) (by decide) ?_
          exact b_Part_judge_227 X hf hZ11 hS11 (lv_sub hl [] rfl)
      · replace hf := gneg hf h10
        refine lv_bipush (v := iI 11) hx hb (D_16 W_prog_6_method_4_code_160 30 rfl rfl rfl) (by decide) ?_
        refine lv_bipush (v := iI 16) hx hb (D_16 W_prog_6_method_4_code_192 0 rfl rfl rfl) (by decide) ?_
        refine lv_aload_n hx hb (D_42 W_prog_6_method_4_code_192 2 rfl rfl) rfl (lv_at hl 2 rfl) ?_
        refine zget (ci := 4) (C := RX4) (T := TX4) (v := .int (iI (F 4 l0 3))) (k := 3) hx hb hts inW_4 hown hK hZ g5.1 g5.2 rfl (by decide) k_4_125 rfl (D_180 W_prog_6_method_4_code_192 3 rfl rfl rfl) ?_
        refine zmul hx hb (D_104 W_prog_6_method_4_code_192 6 rfl rfl) ?_
        refine zadd hx hb (D_96 W_prog_6_method_4_code_192 7 rfl rfl) ?_
        cases hf
        exact W.iret hx hb hr (fun t ht hW => ⟨⟨_, (), rfl, rfl, by rw [ht]; exact hZ, va_K.moved hW.alike hK⟩, hS.F ht⟩) hS.2.2 (D_172 W_prog_6_method_4_code_192 8 rfl rfl) hlk
    · replace hf := gneg hf h8
      refine lv_aload_n hx hb (D_42 W_prog_6_method_4_code_32 2 rfl rfl) rfl (lv_at hl 2 rfl) ?_
      refine zget (ci := 4) (C := RX4) (T := TX4) (v := .ref (ad 4 l0 (5 + 1))) (k := 5) hx hb hts inW_4 hown hK hZ g5.1 g5.2 rfl (by decide) k_4_130 rfl (D_180 W_prog_6_method_4_code_32 3 rfl rfl rfl) ?_
      refine lv_iload_n hx hb (D_29 W_prog_6_method_4_code_32 6 rfl rfl) rfl (lv_at hl 0 rfl) ?_
      obtain ⟨g14, hf⟩ := gif hf
      refine zaldR (t := 1) (x := 7) (ci := 4) (k := 5) hx hb hK rfl rfl hZ g5.1 g5.2 rfl (Nat.le_of_ble_eq_true rfl) g14.1 g14.2 (D_50 W_prog_6_method_4_code_32 7 rfl rfl) ?_
      refine zastore (lv' := [(3, .int (iI l3)), (2, .int (iI l2)), (0, .ref (ad 4 l0 0)), (1, .ref (ad 6 l1 0))]) hx hb (D_58 W_prog_6_method_4_code_32 8 rfl rfl) hl (by decide) (fun _ _ => rfl) (fun ls hl => ?_)
      refine lv_aload_n hx hb (D_42 W_prog_6_method_4_code_32 10 rfl rfl) rfl (lv_at hl 3 rfl) ?_
      refine lv_iload_n hx hb (D_29 W_prog_6_method_4_code_32 11 rfl rfl) rfl (lv_at hl 1 rfl) ?_
      refine lv_aload_n hx hb (D_43 W_prog_6_method_4_code_32 12 rfl rfl) rfl (lv_at hl 4 rfl) ?_
      obtain ⟨g15, hf⟩ := gif hf
      obtain ⟨r16, F16, B16, hc16, hf⟩ := gbind hf
      refine va_calll (va_runV (As := []) (rest := [.int (iI l3), .ref (ad 4 l0 0)]) ⟨hx, hb, hml, hown, hts⟩ (c_Piece_barLength (l := l) hc16) (cwV 0 hts (gdV k_5_31 k_4_190 k_4_191 k_1_15 k_4_192) rfl rfl rfl (by decide +kernel) ⟨Nat.le_of_ble_eq_true rfl, Nat.le_of_ble_eq_true rfl⟩) (zPV X hZ hS (ci := 6) g15.1 g15.2 (r := (RX6, TX6, 14)) rfl []) rfl rfl hl.1 rfl (lv_room (Nat.le_of_ble_eq_true rfl)) (D_182 W_prog_6_method_4_code_32 13 rfl rfl rfl) ⟨Nat.le_of_ble_eq_true rfl, Nat.le_of_ble_eq_true rfl⟩) hS (fun q _ h => zAin X hS q h) (zAin X hS) (fun p16 u16 t16 H16 locs16 ht16 hv16 hw16 hB16 hz16 hk16 hS16 => ?_)
      have hZ16 := zBack X ht16 hB16
      subst hw16
      obtain ⟨r17, F17, B17, hc17, hf⟩ := gbind hf
      refine va_calli (va_runV (As := [.int (iI l3), .long (lI r16)]) (rest := []) ⟨hx, hb, hml, hown, hts⟩ (c_Part_bracketStands (l := l) hc17) (cwV 2 hts (gdV k_5_32 k_5_34 ks_47 k_1_18 k_5_35) rfl rfl rfl (by decide +kernel) ⟨Nat.le_of_ble_eq_true rfl, Nat.le_of_ble_eq_true rfl⟩) (zPV X hZ16 hS16 (ci := 4) g5.1 g5.2 (r := (RX4, TX4, 13)) rfl [.int (iI l3), .long (lI r16)]) rfl rfl hl.1 rfl (lv_room (Nat.le_of_ble_eq_true rfl)) (D_182 W_prog_6_method_4_code_32 16 rfl rfl rfl) ⟨Nat.le_of_ble_eq_true rfl, Nat.le_of_ble_eq_true rfl⟩) hS16 (fun q _ h => zAin X hS16 q h) (zAin X hS16) (fun p17 u17 t17 H17 locs17 ht17 hv17 hw17 hB17 hz17 hk17 hS17 => ?_)
      have hZ17 := zBack X ht17 hB17
      subst hw17
      obtain ⟨g18, hf⟩ := gif hf
      refine z0ne (tgt := 66) hx hb g18 (D_154 W_prog_6_method_4_code_32 19 rfl rfl rfl) (by decide) (fun h19 => ?_) (fun h19 => ?_)
      · replace hf := gneg hf h19
        refine zaload hx hb (D_25 W_prog_6_method_4_code_64 2 rfl rfl) (lv_at hl 0 rfl) ?_
        refine lv_iconst (v := iI 1) hx hb (D_4 W_prog_6_method_4_code_64 4 rfl rfl) rfl ?_
        obtain ⟨g20, hf⟩ := gif hf
        refine W.eq (g2 := F0 m 69 ls [.int (iI 1), .ref (ad 1 (B 4 l0 5 l3) 0)]) (by rw [zrf_pos (ad := ad) (t := 1) g20.1]; try rfl) ?_
        obtain ⟨r21, F21, B21, hc21, hf⟩ := gbind hf
        refine va_calli (va_runV (As := [.int (iI 1)]) (rest := []) ⟨hx, hb, hml, hown, hts⟩ (c_Event_has (l := l) hc21) (cwV 1 hts (gdV k_5_15 k_5_16 k_5_17 k_1_8 k_5_18) rfl rfl rfl (by decide +kernel) ⟨Nat.le_of_ble_eq_true rfl, Nat.le_of_ble_eq_true rfl⟩) (zPV X hZ17 hS17 (ci := 1) g20.1 g20.2 (r := (RX1, TX1, 14)) rfl [.int (iI 1)]) rfl rfl hl.1 rfl (lv_room (Nat.le_of_ble_eq_true rfl)) (D_182 W_prog_6_method_4_code_64 5 rfl rfl rfl) ⟨Nat.le_of_ble_eq_true rfl, Nat.le_of_ble_eq_true rfl⟩) hS17 (fun q _ h => zAin X hS17 q h) (zAin X hS17) (fun p21 u21 t21 H21 locs21 ht21 hv21 hw21 hB21 hz21 hk21 hS21 => ?_)
        have hZ21 := zBack X ht21 hB21
        subst hw21
        obtain ⟨g22, hf⟩ := gif hf
        refine z0eq (tgt := 95) hx hb g22 (D_153 W_prog_6_method_4_code_64 8 rfl rfl rfl) (by decide) (fun h23 => ?_) (fun h23 => ?_)
        · replace hf := gpos hf h23
          exact b_Part_judge_95 X ih hf hZ21 hS21 (lv_sub hl [0, 1, 2, 3, 4] rfl)
        · replace hf := gneg hf h23
          refine lv_aload_n hx hb (D_42 W_prog_6_method_4_code_64 11 rfl rfl) rfl (lv_at hl 3 rfl) ?_
          refine lv_iload_n hx hb (D_29 W_prog_6_method_4_code_64 12 rfl rfl) rfl (lv_at hl 1 rfl) ?_
          obtain ⟨r24, F24, B24, hc24, hf⟩ := gbind hf
          refine va_calli (va_runV (As := [.int (iI l3)]) (rest := []) ⟨hx, hb, hml, hown, hts⟩ (c_Part_tiedPitches (l := l) hc24) (cwV 1 hts (gdV k_5_37 k_5_38 k_5_39 k_1_18 k_5_40) rfl rfl rfl (by decide +kernel) ⟨Nat.le_of_ble_eq_true rfl, Nat.le_of_ble_eq_true rfl⟩) (zPV X hZ21 hS21 (ci := 4) g5.1 g5.2 (r := (RX4, TX4, 13)) rfl [.int (iI l3)]) rfl rfl hl.1 rfl (lv_room (Nat.le_of_ble_eq_true rfl)) (D_182 W_prog_6_method_4_code_64 13 rfl rfl rfl) ⟨Nat.le_of_ble_eq_true rfl, Nat.le_of_ble_eq_true rfl⟩) hS21 (fun q _ h => zAin X hS21 q h) (zAin X hS21) (fun p24 u24 t24 H24 locs24 ht24 hv24 hw24 hB24 hz24 hk24 hS24 => ?_)
          have hZ24 := zBack X ht24 hB24
          subst hw24
          obtain ⟨g25, hf⟩ := gif hf
          refine z0ne (tgt := 95) hx hb g25 (D_154 W_prog_6_method_4_code_64 16 rfl rfl rfl) (by decide) (fun h26 => ?_) (fun h26 => ?_)
          · replace hf := gneg hf h26
            exact b_Part_judge_95 X ih hf hZ24 hS24 (lv_sub hl [0, 1, 2, 3, 4] rfl)
          · replace hf := gpos hf h26
            refine lv_bipush (v := iI 10) hx hb (D_16 W_prog_6_method_4_code_64 19 rfl rfl rfl) (by decide) ?_
            refine lv_bipush (v := iI 16) hx hb (D_16 W_prog_6_method_4_code_64 21 rfl rfl rfl) (by decide) ?_
            refine zaload hx hb (D_25 W_prog_6_method_4_code_64 23 rfl rfl) (lv_at hl 0 rfl) ?_
            refine zunrf g20.1 ?_
            refine zget (ci := 1) (C := RX1) (T := TX1) (v := .int (iI (F24 1 (B 4 l0 5 l3) 9))) (k := 9) hx hb hts inW_1 hown hK hZ24 g20.1 g20.2 rfl (by decide) k_2_45 rfl (D_180 W_prog_6_method_4_code_64 25 rfl rfl rfl) ?_
            refine zmul hx hb (D_104 W_prog_6_method_4_code_64 28 rfl rfl) ?_
            refine zadd hx hb (D_96 W_prog_6_method_4_code_64 29 rfl rfl) ?_
            cases hf
            exact W.iret hx hb hr (fun t ht hW => ⟨⟨_, (), rfl, rfl, by rw [ht]; exact hZ24, va_K.moved hW.alike hK⟩, hS24.F ht⟩) hS24.2.2 (D_172 W_prog_6_method_4_code_64 30 rfl rfl) hlk
      · replace hf := gpos hf h19
        refine lv_bipush (v := iI 13) hx hb (D_16 W_prog_6_method_4_code_32 22 rfl rfl rfl) (by decide) ?_
        refine lv_bipush (v := iI 16) hx hb (D_16 W_prog_6_method_4_code_32 24 rfl rfl rfl) (by decide) ?_
        refine zaload hx hb (D_25 W_prog_6_method_4_code_32 26 rfl rfl) (lv_at hl 0 rfl) ?_
        obtain ⟨g27, hf⟩ := gif hf
        refine zunrf g27.1 ?_
        refine zget (ci := 1) (C := RX1) (T := TX1) (v := .int (iI (F17 1 (B 4 l0 5 l3) 6))) (k := 6) hx hb hts inW_1 hown hK hZ17 g27.1 g27.2 rfl (by decide) k_2_36 rfl (D_180 W_prog_6_method_4_code_32 28 rfl rfl rfl) ?_
        refine zmul hx hb (D_104 W_prog_6_method_4_code_32 31 rfl rfl) ?_
        refine zadd hx hb (D_96 W_prog_6_method_4_code_64 0 rfl rfl) ?_
        cases hf
        exact W.iret hx hb hr (fun t ht hW => ⟨⟨_, (), rfl, rfl, by rw [ht]; exact hZ17, va_K.moved hW.alike hK⟩, hS17.F ht⟩) hS17.2.2 (D_172 W_prog_6_method_4_code_64 1 rfl rfl) hlk

def f_Part_judge (K : zK) (l0 : Int) (l1 : Int) (F : zF) (B : zB) : zO := if 0 ≤ l0 ∧ l0 < K.2 4 then if r32 (F 4 l0 6) then (if (F 4 l0 6) = 0 then some (15 + (16 * (F 4 l0 3)), F, B) else zbind (f_Part_placeEvents K l0 F B) (fun r4 F4 B4 => f_Part_judge_26 K K.1 0 0 l0 l1 F4 B4)) else none else none
set_option maxHeartbeats 4000000 in
set_option maxRecDepth 100000 in
theorem c_Part_judge {l : Launch} {D : va_G} {ca : Nat → ClassId} {ad : Nat → Int → Nat → Nat} {L : List Nat} {aS vS : Nat → Nat} {sz : Nat} {K : zK}  {l0 : Int} {l1 : Int} {F F9 : zF} {B B9 : zB} {r : Int} (hf : f_Part_judge K l0 l1 F B = some (r, F9, B9)) : Met l ({ cls := "StaveHouse$Part", name := "judge", desc := "(LStaveHouse$Piece;)I" } : Jvm.MethodName) (Cond.code ({ cls := "StaveHouse$Part", name := "judge", desc := "(LStaveHouse$Piece;)I" } : Jvm.MethodName) prog_6_method_4_code 6 (Option.some Jvm.ClassFile.FieldType.int) :: wAll) ({ frames := 6, cells := 0, slots := 0, locals := 168 } : Room) (va_Pc [.ref (ad 4 l0 0), .ref (ad 6 l1 0)] (zPre D ca ad lnC K.2 L aS vS F B sz)) (Q_Part_judge K D ca ad L r F9 B9 (zA L sz)) 0 0 (zA L sz) := by
  refine zMet (Qc := Q_Part_judge K D ca ad L r F9 B9) (lv := [(0, .ref (ad 4 l0 0)), (1, .ref (ad 6 l1 0))]) (by decide) (Nat.le_of_ble_eq_true rfl) rfl (fun A p e s m below meth c ls X hZ hS hl => ?_)
  obtain ⟨hx, hb, hr, hml, hown, hts, hlk, hK, hA, hL, hX⟩ := id X
  replace hf : (if 0 ≤ l0 ∧ l0 < K.2 4 then if r32 (F 4 l0 6) then (if (F 4 l0 6) = 0 then some (15 + (16 * (F 4 l0 3)), F, B) else zbind (f_Part_placeEvents K l0 F B) (fun r4 F4 B4 => f_Part_judge_26 K K.1 0 0 l0 l1 F4 B4)) else none else none) = some (r, F9, B9) := hf
  refine lv_aload_n hx hb (D_42 W_prog_6_method_4_code_0 0 rfl rfl) rfl (lv_at hl 0 rfl) ?_
  obtain ⟨g1, hf⟩ := gif hf
  refine zget (ci := 4) (C := RX4) (T := TX4) (v := .int (iI (F 4 l0 6))) (k := 6) hx hb hts inW_4 hown hK hZ g1.1 g1.2 rfl (by decide) k_4_135 rfl (D_180 W_prog_6_method_4_code_0 1 rfl rfl rfl) ?_
  obtain ⟨g2, hf⟩ := gif hf
  refine z0ne (tgt := 18) hx hb g2 (D_154 W_prog_6_method_4_code_0 4 rfl rfl rfl) (by decide) (fun h3 => ?_) (fun h3 => ?_)
  · replace hf := gneg hf h3
    refine lv_aload_n hx hb (D_42 W_prog_6_method_4_code_0 18 rfl rfl) rfl (lv_at hl 0 rfl) ?_
    obtain ⟨r4, F4, B4, hc4, hf⟩ := gbind hf
    refine va_callv (va_runV (As := []) (rest := []) ⟨hx, hb, hml, hown, hts⟩ (c_Part_placeEvents (l := l) hc4) (cwV 0 hts (gdV k_5_27 k_5_29 ks_46 k_1_18 k_5_30) rfl rfl rfl (by decide +kernel) ⟨Nat.le_of_ble_eq_true rfl, Nat.le_of_ble_eq_true rfl⟩) (zPV X hZ hS (ci := 4) g1.1 g1.2 (r := (RX4, TX4, 13)) rfl []) rfl rfl hl.1 rfl (lv_room (Nat.le_of_ble_eq_true rfl)) (D_182 W_prog_6_method_4_code_0 19 rfl rfl rfl) ⟨Nat.le_of_ble_eq_true rfl, Nat.le_of_ble_eq_true rfl⟩) hS (fun q _ h => zAin X hS q h) (zAin X hS) (fun u4 t4 H4 locs4 ht4 hv4 hw4 hB4 hz4 hk4 hS4 => ?_)
    have hZ4 := zBack X ht4 hB4
    refine lv_iconst (v := iI 0) hx hb (D_3 W_prog_6_method_4_code_0 22 rfl rfl) rfl ?_
    refine lv_istore_n (lv' := [(2, .int (iI 0)), (0, .ref (ad 4 l0 0)), (1, .ref (ad 6 l1 0))]) hx hb (D_61 W_prog_6_method_4_code_0 23 rfl rfl) rfl hl (by decide) rfl (fun ls hl => ?_)
    refine lv_iconst (v := iI 0) hx hb (D_3 W_prog_6_method_4_code_0 24 rfl rfl) rfl ?_
    refine lv_istore_n (lv' := [(3, .int (iI 0)), (2, .int (iI 0)), (0, .ref (ad 4 l0 0)), (1, .ref (ad 6 l1 0))]) hx hb (D_62 W_prog_6_method_4_code_0 25 rfl rfl) rfl hl (by decide) rfl (fun ls hl => ?_)
    exact b_Part_judge_26 X hf hZ4 hS4 (lv_sub hl [0, 1, 2, 3] rfl)
  · replace hf := gpos hf h3
    refine lv_bipush (v := iI 15) hx hb (D_16 W_prog_6_method_4_code_0 7 rfl rfl rfl) (by decide) ?_
    refine lv_bipush (v := iI 16) hx hb (D_16 W_prog_6_method_4_code_0 9 rfl rfl rfl) (by decide) ?_
    refine lv_aload_n hx hb (D_42 W_prog_6_method_4_code_0 11 rfl rfl) rfl (lv_at hl 0 rfl) ?_
    refine zget (ci := 4) (C := RX4) (T := TX4) (v := .int (iI (F 4 l0 3))) (k := 3) hx hb hts inW_4 hown hK hZ g1.1 g1.2 rfl (by decide) k_4_125 rfl (D_180 W_prog_6_method_4_code_0 12 rfl rfl rfl) ?_
    refine zmul hx hb (D_104 W_prog_6_method_4_code_0 15 rfl rfl) ?_
    refine zadd hx hb (D_96 W_prog_6_method_4_code_0 16 rfl rfl) ?_
    cases hf
    exact W.iret hx hb hr (fun t ht hW => ⟨⟨_, (), rfl, rfl, by rw [ht]; exact hZ, va_K.moved hW.alike hK⟩, hS.F ht⟩) hS.2.2 (D_172 W_prog_6_method_4_code_0 17 rfl rfl) hlk

abbrev Q_Performance_write (K : zK) (D : va_G) (ca : Nat → ClassId) (ad : Nat → Int → Nat → Nat) (L : List Nat) (r : Int) (F : zF) (B : zB) (A : Nat → Prop) : Array Value → State → Outcome → State → Prop := va_Qv (S := Unit) (fun _ => True) (fun _ => zPo D ca ad lnC K.2 L F B A) A
def f_Performance_write_44 (K : zK) : Nat → Int → Int → Int → Int → zF → zB → zO
  | 0, _, _, _, _, _, _ => none
  | n + 1, l3, l0, l1, l2, F, B => if 0 ≤ l1 ∧ l1 < K.2 6 then if r32 l3 then if r32 (F 6 l1 1) then (if (F 6 l1 1) ≤ l3 then some (0, F, B) else if 0 ≤ l3 ∧ l3 < 4 then if 0 ≤ (B 6 l1 0 l3) ∧ (B 6 l1 0 l3) < K.2 4 then if 0 ≤ l0 ∧ l0 < K.2 5 then zbind (f_Performance_writeVoice K l0 (B 6 l1 0 l3) l3 l2 F B) (fun r16 F16 B16 => f_Performance_write_44 K n (l3 + 1) l0 l1 l2 F16 B16) else none else none else none) else none else none else none
set_option maxHeartbeats 4000000 in
set_option maxRecDepth 100000 in
theorem b_Performance_write_44 {D : va_G} {ca : Nat → ClassId} {ad : Nat → Int → Nat → Nat} {L : List Nat} {aS vS : Nat → Nat} {A : Nat → Prop} {p : Program} {l : Launch} {e : Env} {s : State} {m : MethodId} {args : Array Value} {below : List Frame} {meth : Method} {c : Code} {K : zK} {r : Int} {F9 : zF} {B9 : zB} (X : zX D ca L aS vS A p s m args meth c prog_7_method_17_code 4 (Option.none : Option Jvm.ClassFile.FieldType) "StaveHouse$Performance") : ∀ {n : Nat} {l3 : Int} {l0 : Int} {l1 : Int} {l2 : Int} {F : zF} {B : zB} {H : Heap} {locs : List Loc} {ls : Array Slot}, f_Performance_write_44 K n l3 l0 l1 l2 F B = some (r, F9, B9) → zH D ca ad lnC K.2 L F B A H → va_S A s.heap H locs → lv_has ls 4 [(3, .int (iI l3)), (0, .ref (ad 5 l0 0)), (1, .ref (ad 6 l1 0)), (2, .ref (ad 0 l2 0))] → W p l e ({ frames := 7, cells := 0, slots := 0, locals := 153 } : Room) s m args below meth c H locs 0 0 (MQ below (Q_Performance_write K D ca ad L r F9 B9 A) args s 0 0 A) (F0 m 44 ls []) := by
  obtain ⟨hx, hb, hr, hml, hown, hts, hlk, hK, hA, hL, hX⟩ := id X
  intro n
  induction n with
  | zero =>
    intros
    rename_i hf _ _ _
    cases hf
  | succ n ih =>
    intro l3 l0 l1 l2 F B H locs ls hf hZ hS hl
    replace hf : (if 0 ≤ l1 ∧ l1 < K.2 6 then if r32 l3 then if r32 (F 6 l1 1) then (if (F 6 l1 1) ≤ l3 then some (0, F, B) else if 0 ≤ l3 ∧ l3 < 4 then if 0 ≤ (B 6 l1 0 l3) ∧ (B 6 l1 0 l3) < K.2 4 then if 0 ≤ l0 ∧ l0 < K.2 5 then zbind (f_Performance_writeVoice K l0 (B 6 l1 0 l3) l3 l2 F B) (fun r16 F16 B16 => f_Performance_write_44 K n (l3 + 1) l0 l1 l2 F16 B16) else none else none else none) else none else none else none) = some (r, F9, B9) := hf
    refine lv_iload_n hx hb (D_29 W_prog_7_method_17_code_32 12 rfl rfl) rfl (lv_at hl 0 rfl) ?_
    refine lv_aload_n hx hb (D_43 W_prog_7_method_17_code_32 13 rfl rfl) rfl (lv_at hl 2 rfl) ?_
    obtain ⟨g9, hf⟩ := gif hf
    refine zget (ci := 6) (C := RX6) (T := TX6) (v := .int (iI (F 6 l1 1))) (k := 1) hx hb hts inW_6 hown hK hZ g9.1 g9.2 rfl (by decide) k_2_191 rfl (D_180 W_prog_7_method_17_code_32 14 rfl rfl rfl) ?_
    obtain ⟨g10, hf⟩ := gif hf
    obtain ⟨g11, hf⟩ := gif hf
    refine zge (tgt := 70) hx hb g10 g11 (D_162 W_prog_7_method_17_code_32 17 rfl rfl rfl) (by decide) (fun h12 => ?_) (fun h12 => ?_)
    · replace hf := gpos hf h12
      cases hf
      exact W.vret hx hb hr (fun t ht hW => ⟨⟨(), rfl, trivial, by rw [ht]; exact hZ, va_K.moved hW.alike hK⟩, hS.F ht⟩) hS.2.2 (D_177 W_prog_7_method_17_code_64 6 rfl rfl) hlk
    · replace hf := gneg hf h12
      refine lv_aload_n hx hb (D_42 W_prog_7_method_17_code_32 20 rfl rfl) rfl (lv_at hl 1 rfl) ?_
      refine lv_aload_n hx hb (D_43 W_prog_7_method_17_code_32 21 rfl rfl) rfl (lv_at hl 2 rfl) ?_
      refine zget (ci := 6) (C := RX6) (T := TX6) (v := .ref (ad 6 l1 (0 + 1))) (k := 0) hx hb hts inW_6 hown hK hZ g9.1 g9.2 rfl (by decide) k_2_186 rfl (D_180 W_prog_7_method_17_code_32 22 rfl rfl rfl) ?_
      refine lv_iload_n hx hb (D_29 W_prog_7_method_17_code_32 25 rfl rfl) rfl (lv_at hl 0 rfl) ?_
      obtain ⟨g13, hf⟩ := gif hf
      refine zaldR (t := 4) (x := 6) (ci := 6) (k := 0) hx hb hK rfl rfl hZ g9.1 g9.2 rfl (Nat.le_of_ble_eq_true rfl) g13.1 g13.2 (D_50 W_prog_7_method_17_code_32 26 rfl rfl) ?_
      refine lv_iload_n hx hb (D_29 W_prog_7_method_17_code_32 27 rfl rfl) rfl (lv_at hl 0 rfl) ?_
      refine lv_aload_n hx hb (D_44 W_prog_7_method_17_code_32 28 rfl rfl) rfl (lv_at hl 3 rfl) ?_
      obtain ⟨g14, hf⟩ := gif hf
      refine W.eq (g2 := F0 m 61 ls [.ref (ad 0 l2 0), .int (iI l3), .ref (ad 4 (B 6 l1 0 l3) 0), .ref (ad 5 l0 0)]) (by rw [zrf_pos (ad := ad) (t := 4) g14.1]; try rfl) ?_
      obtain ⟨g15, hf⟩ := gif hf
      obtain ⟨r16, F16, B16, hc16, hf⟩ := gbind hf
      refine va_callv (va_runV (As := [.ref (ad 4 (B 6 l1 0 l3) 0), .int (iI l3), .ref (ad 0 l2 0)]) (rest := []) ⟨hx, hb, hml, hown, hts⟩ (c_Performance_writeVoice (l := l) hc16) (cwV 3 hts (gdV k_7_183 k_7_185 ks_90 k_1_20 k_7_186) rfl rfl rfl (by decide +kernel) ⟨Nat.le_of_ble_eq_true rfl, Nat.le_of_ble_eq_true rfl⟩) (zPV X hZ hS (ci := 5) g15.1 g15.2 (r := (RX5, TX5, 14)) rfl [.ref (ad 4 (B 6 l1 0 l3) 0), .int (iI l3), .ref (ad 0 l2 0)]) rfl rfl hl.1 rfl (lv_room (Nat.le_of_ble_eq_true rfl)) (D_182 W_prog_7_method_17_code_32 29 rfl rfl rfl) ⟨Nat.le_of_ble_eq_true rfl, Nat.le_of_ble_eq_true rfl⟩) hS (fun q _ h => zAin X hS q h) (zAin X hS) (fun u16 t16 H16 locs16 ht16 hv16 hw16 hB16 hz16 hk16 hS16 => ?_)
      have hZ16 := zBack X ht16 hB16
      refine lv_iinc (v := iI (l3 + 1)) (lv' := [(3, .int (iI (l3 + 1))), (0, .ref (ad 5 l0 0)), (1, .ref (ad 6 l1 0)), (2, .ref (ad 0 l2 0))]) hx hb d_7_17_64 hl (k := 0) rfl (iI_add _ 1) (by decide) rfl (fun ls hl => ?_)
      refine lv_goto (tgt := 44) hx hb (D_167 W_prog_7_method_17_code_64 3 rfl rfl rfl) (by decide) ?_
      exact ih hf hZ16 hS16 (lv_sub hl [0, 1, 2, 3] rfl)

def f_Performance_write (K : zK) (l0 : Int) (l1 : Int) (l2 : Int) (F : zF) (B : zB) : zO := if 0 ≤ l2 ∧ l2 < K.2 0 then zbind (f_ByteRow_putText K l2 1 F B) (fun r2 F2 B2 => zbind (f_ByteRow_putWide K l2 6 4 F2 B2) (fun r3 F3 B3 => zbind (f_ByteRow_putWide K l2 1 2 F3 B3) (fun r4 F4 B4 => if 0 ≤ l1 ∧ l1 < K.2 6 then zbind (f_ByteRow_putWide K l2 ((F4 6 l1 1) + 1) 2 F4 B4) (fun r6 F6 B6 => zbind (f_ByteRow_putWide K l2 96 2 F6 B6) (fun r7 F7 B7 => zbind (f_Performance_writeHead K l1 l2 F7 B7) (fun r8 F8 B8 => f_Performance_write_44 K K.1 0 l0 l1 l2 F8 B8))) else none))) else none
set_option maxHeartbeats 4000000 in
set_option maxRecDepth 100000 in
theorem c_Performance_write {l : Launch} {D : va_G} {ca : Nat → ClassId} {ad : Nat → Int → Nat → Nat} {L : List Nat} {aS vS : Nat → Nat} {sz : Nat} {K : zK}  {l0 : Int} {l1 : Int} {l2 : Int} {F F9 : zF} {B B9 : zB} {r : Int} (hf : f_Performance_write K l0 l1 l2 F B = some (r, F9, B9)) : Met l ({ cls := "StaveHouse$Performance", name := "write", desc := "(LStaveHouse$Piece;LStaveHouse$ByteRow;)V" } : Jvm.MethodName) (Cond.code ({ cls := "StaveHouse$Performance", name := "write", desc := "(LStaveHouse$Piece;LStaveHouse$ByteRow;)V" } : Jvm.MethodName) prog_7_method_17_code 4 (Option.none : Option Jvm.ClassFile.FieldType) :: wAll) ({ frames := 7, cells := 0, slots := 0, locals := 153 } : Room) (va_Pc [.ref (ad 5 l0 0), .ref (ad 6 l1 0), .ref (ad 0 l2 0)] (zPre D ca ad lnC K.2 L aS vS F B sz)) (Q_Performance_write K D ca ad L r F9 B9 (zA L sz)) 0 0 (zA L sz) := by
  refine zMet (Qc := Q_Performance_write K D ca ad L r F9 B9) (lv := [(0, .ref (ad 5 l0 0)), (1, .ref (ad 6 l1 0)), (2, .ref (ad 0 l2 0))]) (by decide) (Nat.le_of_ble_eq_true rfl) rfl (fun A p e s m below meth c ls X hZ hS hl => ?_)
  obtain ⟨hx, hb, hr, hml, hown, hts, hlk, hK, hA, hL, hX⟩ := id X
  replace hf : (if 0 ≤ l2 ∧ l2 < K.2 0 then zbind (f_ByteRow_putText K l2 1 F B) (fun r2 F2 B2 => zbind (f_ByteRow_putWide K l2 6 4 F2 B2) (fun r3 F3 B3 => zbind (f_ByteRow_putWide K l2 1 2 F3 B3) (fun r4 F4 B4 => if 0 ≤ l1 ∧ l1 < K.2 6 then zbind (f_ByteRow_putWide K l2 ((F4 6 l1 1) + 1) 2 F4 B4) (fun r6 F6 B6 => zbind (f_ByteRow_putWide K l2 96 2 F6 B6) (fun r7 F7 B7 => zbind (f_Performance_writeHead K l1 l2 F7 B7) (fun r8 F8 B8 => f_Performance_write_44 K K.1 0 l0 l1 l2 F8 B8))) else none))) else none) = some (r, F9, B9) := hf
  refine lv_aload_n hx hb (D_44 W_prog_7_method_17_code_0 0 rfl rfl) rfl (lv_at hl 2 rfl) ?_
  refine va_ldcS hx hb hown (hX.2.2.2.2.1 1 _ rfl).1 (D_18 W_prog_7_method_17_code_0 1 rfl rfl) ?_
  obtain ⟨g1, hf⟩ := gif hf
  obtain ⟨r2, F2, B2, hc2, hf⟩ := gbind hf
  refine va_callv (va_runV (As := [.ref (aS 1)]) (rest := []) ⟨hx, hb, hml, hown, hts⟩ (c_ByteRow_putText (l := l) hc2) (cwV 1 hts (gdV k_7_128 k_7_129 k_7_130 k_1_2 k_7_131) rfl rfl rfl (by decide +kernel) ⟨Nat.le_of_ble_eq_true rfl, Nat.le_of_ble_eq_true rfl⟩) (zPV X hZ hS (ci := 0) g1.1 g1.2 (r := (RX0, TX0, 3)) rfl [.ref (aS 1)]) rfl rfl hl.1 rfl (lv_room (Nat.le_of_ble_eq_true rfl)) (D_182 W_prog_7_method_17_code_0 3 rfl rfl rfl) ⟨Nat.le_of_ble_eq_true rfl, Nat.le_of_ble_eq_true rfl⟩) hS (fun q _ h => zAin X hS q h) (zAin X hS) (fun u2 t2 H2 locs2 ht2 hv2 hw2 hB2 hz2 hk2 hS2 => ?_)
  have hZ2 := zBack X ht2 hB2
  refine lv_aload_n hx hb (D_44 W_prog_7_method_17_code_0 6 rfl rfl) rfl (lv_at hl 2 rfl) ?_
  refine lv_bipush (v := iI 6) hx hb (D_16 W_prog_7_method_17_code_0 7 rfl rfl rfl) (by decide) ?_
  refine lv_iconst (v := iI 4) hx hb (D_7 W_prog_7_method_17_code_0 9 rfl rfl) rfl ?_
  obtain ⟨r3, F3, B3, hc3, hf⟩ := gbind hf
  refine va_callv (va_runV (As := [.int (iI 6), .int (iI 4)]) (rest := []) ⟨hx, hb, hml, hown, hts⟩ (c_ByteRow_putWide (l := l) hc3) (cwV 2 hts (gdV k_7_154 k_7_155 k_7_156 k_1_2 k_7_157) rfl rfl rfl (by decide +kernel) ⟨Nat.le_of_ble_eq_true rfl, Nat.le_of_ble_eq_true rfl⟩) (zPV X hZ2 hS2 (ci := 0) g1.1 g1.2 (r := (RX0, TX0, 3)) rfl [.int (iI 6), .int (iI 4)]) rfl rfl hl.1 rfl (lv_room (Nat.le_of_ble_eq_true rfl)) (D_182 W_prog_7_method_17_code_0 10 rfl rfl rfl) ⟨Nat.le_of_ble_eq_true rfl, Nat.le_of_ble_eq_true rfl⟩) hS2 (fun q _ h => zAin X hS2 q h) (zAin X hS2) (fun u3 t3 H3 locs3 ht3 hv3 hw3 hB3 hz3 hk3 hS3 => ?_)
  have hZ3 := zBack X ht3 hB3
  refine lv_aload_n hx hb (D_44 W_prog_7_method_17_code_0 13 rfl rfl) rfl (lv_at hl 2 rfl) ?_
  refine lv_iconst (v := iI 1) hx hb (D_4 W_prog_7_method_17_code_0 14 rfl rfl) rfl ?_
  refine lv_iconst (v := iI 2) hx hb (D_5 W_prog_7_method_17_code_0 15 rfl rfl) rfl ?_
  obtain ⟨r4, F4, B4, hc4, hf⟩ := gbind hf
  refine va_callv (va_runV (As := [.int (iI 1), .int (iI 2)]) (rest := []) ⟨hx, hb, hml, hown, hts⟩ (c_ByteRow_putWide (l := l) hc4) (cwV 2 hts (gdV k_7_154 k_7_155 k_7_156 k_1_2 k_7_157) rfl rfl rfl (by decide +kernel) ⟨Nat.le_of_ble_eq_true rfl, Nat.le_of_ble_eq_true rfl⟩) (zPV X hZ3 hS3 (ci := 0) g1.1 g1.2 (r := (RX0, TX0, 3)) rfl [.int (iI 1), .int (iI 2)]) rfl rfl hl.1 rfl (lv_room (Nat.le_of_ble_eq_true rfl)) (D_182 W_prog_7_method_17_code_0 16 rfl rfl rfl) ⟨Nat.le_of_ble_eq_true rfl, Nat.le_of_ble_eq_true rfl⟩) hS3 (fun q _ h => zAin X hS3 q h) (zAin X hS3) (fun u4 t4 H4 locs4 ht4 hv4 hw4 hB4 hz4 hk4 hS4 => ?_)
  have hZ4 := zBack X ht4 hB4
  refine lv_aload_n hx hb (D_44 W_prog_7_method_17_code_0 19 rfl rfl) rfl (lv_at hl 2 rfl) ?_
  refine lv_aload_n hx hb (D_43 W_prog_7_method_17_code_0 20 rfl rfl) rfl (lv_at hl 1 rfl) ?_
  obtain ⟨g5, hf⟩ := gif hf
  refine zget (ci := 6) (C := RX6) (T := TX6) (v := .int (iI (F4 6 l1 1))) (k := 1) hx hb hts inW_6 hown hK hZ4 g5.1 g5.2 rfl (by decide) k_2_191 rfl (D_180 W_prog_7_method_17_code_0 21 rfl rfl rfl) ?_
  refine lv_iconst (v := iI 1) hx hb (D_4 W_prog_7_method_17_code_0 24 rfl rfl) rfl ?_
  refine zadd hx hb (D_96 W_prog_7_method_17_code_0 25 rfl rfl) ?_
  refine lv_iconst (v := iI 2) hx hb (D_5 W_prog_7_method_17_code_0 26 rfl rfl) rfl ?_
  obtain ⟨r6, F6, B6, hc6, hf⟩ := gbind hf
  refine va_callv (va_runV (As := [.int (iI ((F4 6 l1 1) + 1)), .int (iI 2)]) (rest := []) ⟨hx, hb, hml, hown, hts⟩ (c_ByteRow_putWide (l := l) hc6) (cwV 2 hts (gdV k_7_154 k_7_155 k_7_156 k_1_2 k_7_157) rfl rfl rfl (by decide +kernel) ⟨Nat.le_of_ble_eq_true rfl, Nat.le_of_ble_eq_true rfl⟩) (zPV X hZ4 hS4 (ci := 0) g1.1 g1.2 (r := (RX0, TX0, 3)) rfl [.int (iI ((F4 6 l1 1) + 1)), .int (iI 2)]) rfl rfl hl.1 rfl (lv_room (Nat.le_of_ble_eq_true rfl)) (D_182 W_prog_7_method_17_code_0 27 rfl rfl rfl) ⟨Nat.le_of_ble_eq_true rfl, Nat.le_of_ble_eq_true rfl⟩) hS4 (fun q _ h => zAin X hS4 q h) (zAin X hS4) (fun u6 t6 H6 locs6 ht6 hv6 hw6 hB6 hz6 hk6 hS6 => ?_)
  have hZ6 := zBack X ht6 hB6
  refine lv_aload_n hx hb (D_44 W_prog_7_method_17_code_0 30 rfl rfl) rfl (lv_at hl 2 rfl) ?_
  refine lv_bipush (v := iI 96) hx hb (D_16 W_prog_7_method_17_code_0 31 rfl rfl rfl) (by decide) ?_
  refine lv_iconst (v := iI 2) hx hb (D_5 W_prog_7_method_17_code_32 1 rfl rfl) rfl ?_
  obtain ⟨r7, F7, B7, hc7, hf⟩ := gbind hf
  refine va_callv (va_runV (As := [.int (iI 96), .int (iI 2)]) (rest := []) ⟨hx, hb, hml, hown, hts⟩ (c_ByteRow_putWide (l := l) hc7) (cwV 2 hts (gdV k_7_154 k_7_155 k_7_156 k_1_2 k_7_157) rfl rfl rfl (by decide +kernel) ⟨Nat.le_of_ble_eq_true rfl, Nat.le_of_ble_eq_true rfl⟩) (zPV X hZ6 hS6 (ci := 0) g1.1 g1.2 (r := (RX0, TX0, 3)) rfl [.int (iI 96), .int (iI 2)]) rfl rfl hl.1 rfl (lv_room (Nat.le_of_ble_eq_true rfl)) (D_182 W_prog_7_method_17_code_32 2 rfl rfl rfl) ⟨Nat.le_of_ble_eq_true rfl, Nat.le_of_ble_eq_true rfl⟩) hS6 (fun q _ h => zAin X hS6 q h) (zAin X hS6) (fun u7 t7 H7 locs7 ht7 hv7 hw7 hB7 hz7 hk7 hS7 => ?_)
  have hZ7 := zBack X ht7 hB7
  refine lv_aload_n hx hb (D_43 W_prog_7_method_17_code_32 5 rfl rfl) rfl (lv_at hl 1 rfl) ?_
  refine lv_aload_n hx hb (D_44 W_prog_7_method_17_code_32 6 rfl rfl) rfl (lv_at hl 2 rfl) ?_
  obtain ⟨r8, F8, B8, hc8, hf⟩ := gbind hf
  refine va_callv (va_runS (As := [.ref (ad 6 l1 0), .ref (ad 0 l2 0)]) (rest := []) ⟨hx, hb, hml, hown, hts⟩ (c_Performance_writeHead (l := l) hc8) (va_cwS 2 hts (gdS k_7_158 k_7_159 k_1_20 k_7_160) rfl rfl rfl (by decide +kernel) ⟨Nat.le_of_ble_eq_true rfl, Nat.le_of_ble_eq_true rfl⟩) (zPS X hZ7 hS7 [.ref (ad 6 l1 0), .ref (ad 0 l2 0)]) rfl rfl hl.1 rfl (lv_room (Nat.le_of_ble_eq_true rfl)) (D_184 W_prog_7_method_17_code_32 7 rfl rfl rfl) ⟨Nat.le_of_ble_eq_true rfl, Nat.le_of_ble_eq_true rfl⟩) hS7 (fun q _ h => zAin X hS7 q h) (zAin X hS7) (fun u8 t8 H8 locs8 ht8 hv8 hw8 hB8 hz8 hk8 hS8 => ?_)
  have hZ8 := zBack X ht8 hB8
  refine lv_iconst (v := iI 0) hx hb (D_3 W_prog_7_method_17_code_32 10 rfl rfl) rfl ?_
  refine lv_istore_n (lv' := [(3, .int (iI 0)), (0, .ref (ad 5 l0 0)), (1, .ref (ad 6 l1 0)), (2, .ref (ad 0 l2 0))]) hx hb (D_62 W_prog_7_method_17_code_32 11 rfl rfl) rfl hl (by decide) rfl (fun ls hl => ?_)
  exact b_Performance_write_44 X hf hZ8 hS8 (lv_sub hl [0, 1, 2, 3] rfl)

abbrev Q_SoundFile_load (K : zK) (D : va_G) (ca : Nat → ClassId) (ad : Nat → Int → Nat → Nat) (L : List Nat) (r : Int) (F : zF) (B : zB) (A : Nat → Prop) : Array Value → State → Outcome → State → Prop := va_Qi (S := Unit) (fun p _ => p = iI r) (fun _ => zPo D ca ad lnC K.2 L F B A) A
def f_SoundFile_load_169 (K : zK) (l0 : Int) (F : zF) (B : zB) : zO := if 0 ≤ l0 ∧ l0 < K.2 8 then some (F 8 l0 7, F, B) else none
set_option maxHeartbeats 4000000 in
set_option maxRecDepth 100000 in
theorem b_SoundFile_load_169 {D : va_G} {ca : Nat → ClassId} {ad : Nat → Int → Nat → Nat} {L : List Nat} {aS vS : Nat → Nat} {A : Nat → Prop} {p : Program} {l : Launch} {e : Env} {s : State} {m : MethodId} {args : Array Value} {below : List Frame} {meth : Method} {c : Code} {K : zK} {r : Int} {F9 : zF} {B9 : zB} (X : zX D ca L aS vS A p s m args meth c prog_10_method_2_code 7 (Option.some Jvm.ClassFile.FieldType.int) "StaveHouse$SoundFile") {l0 : Int} {F : zF} {B : zB} {H : Heap} {locs : List Loc} {ls : Array Slot} (hf : f_SoundFile_load_169 K l0 F B = some (r, F9, B9)) (hZ : zH D ca ad lnC K.2 L F B A H) (hS : va_S A s.heap H locs) (hl : lv_has ls 7 [(0, .ref (ad 8 l0 0))]) : W p l e ({ frames := 6, cells := 0, slots := 0, locals := 138 } : Room) s m args below meth c H locs 0 0 (MQ below (Q_SoundFile_load K D ca ad L r F9 B9 A) args s 0 0 A) (F0 m 169 ls []) := by
  obtain ⟨hx, hb, hr, hml, hown, hts, hlk, hK, hA, hL, hX⟩ := id X
  replace hf : (if 0 ≤ l0 ∧ l0 < K.2 8 then some (F 8 l0 7, F, B) else none) = some (r, F9, B9) := hf
  refine lv_aload_n hx hb (D_42 W_prog_10_method_2_code_160 9 rfl rfl) rfl (lv_at hl 0 rfl) ?_
  obtain ⟨g41, hf⟩ := gif hf
  refine zget (ci := 8) (C := RX8) (T := TX8) (v := .int (iI (F 8 l0 7))) (k := 7) hx hb hts inW_8 hown hK hZ g41.1 g41.2 rfl (by decide) k_7_231 rfl (D_180 W_prog_10_method_2_code_160 10 rfl rfl rfl) ?_
  cases hf
  exact W.iret hx hb hr (fun t ht hW => ⟨⟨_, (), rfl, rfl, by rw [ht]; exact hZ, va_K.moved hW.alike hK⟩, hS.F ht⟩) hS.2.2 (D_172 W_prog_10_method_2_code_160 13 rfl rfl) hlk

def f_SoundFile_load_143 (rec43 : Int → Int → Int → zF → zB → zO) (K : zK) (l5 : Int) (l2 : Int) (l0 : Int) (l1 : Int) (F : zF) (B : zB) : zO := if 0 ≤ l1 ∧ l1 < K.2 0 then if 0 ≤ l0 ∧ l0 < K.2 8 then if r32 (F 8 l0 5) then zbind (f_SoundFile_skip K l0 (l5 - (F 8 l0 5)) (zup3 F 8 l0 6 (F 0 l1 1)) B) (fun r40 F40 B40 => rec43 (l2 + 1) l0 l1 F40 B40) else none else none else none
set_option maxHeartbeats 4000000 in
set_option maxRecDepth 100000 in
theorem b_SoundFile_load_143 {D : va_G} {ca : Nat → ClassId} {ad : Nat → Int → Nat → Nat} {L : List Nat} {aS vS : Nat → Nat} {A : Nat → Prop} {p : Program} {l : Launch} {e : Env} {s : State} {m : MethodId} {args : Array Value} {below : List Frame} {meth : Method} {c : Code} {K : zK} {r : Int} {F9 : zF} {B9 : zB} (X : zX D ca L aS vS A p s m args meth c prog_10_method_2_code 7 (Option.some Jvm.ClassFile.FieldType.int) "StaveHouse$SoundFile") {rec43 : Int → Int → Int → zF → zB → zO} (hrec43 : ∀ {l2 : Int} {l0 : Int} {l1 : Int} {F : zF} {B : zB} {H : Heap} {locs : List Loc} {ls : Array Slot}, rec43 l2 l0 l1 F B = some (r, F9, B9) → zH D ca ad lnC K.2 L F B A H → va_S A s.heap H locs → lv_has ls 7 [(2, .int (iI l2)), (0, .ref (ad 8 l0 0)), (1, .ref (ad 0 l1 0))] → W p l e ({ frames := 6, cells := 0, slots := 0, locals := 138 } : Room) s m args below meth c H locs 0 0 (MQ below (Q_SoundFile_load K D ca ad L r F9 B9 A) args s 0 0 A) (F0 m 43 ls [])) {l5 : Int} {l2 : Int} {l0 : Int} {l1 : Int} {F : zF} {B : zB} {H : Heap} {locs : List Loc} {ls : Array Slot} (hf : f_SoundFile_load_143 rec43 K l5 l2 l0 l1 F B = some (r, F9, B9)) (hZ : zH D ca ad lnC K.2 L F B A H) (hS : va_S A s.heap H locs) (hl : lv_has ls 7 [(5, .long (lI l5)), (2, .int (iI l2)), (0, .ref (ad 8 l0 0)), (1, .ref (ad 0 l1 0))]) : W p l e ({ frames := 6, cells := 0, slots := 0, locals := 138 } : Room) s m args below meth c H locs 0 0 (MQ below (Q_SoundFile_load K D ca ad L r F9 B9 A) args s 0 0 A) (F0 m 143 ls []) := by
  obtain ⟨hx, hb, hr, hml, hown, hts, hlk, hK, hA, hL, hX⟩ := id X
  replace hf : (if 0 ≤ l1 ∧ l1 < K.2 0 then if 0 ≤ l0 ∧ l0 < K.2 8 then if r32 (F 8 l0 5) then zbind (f_SoundFile_skip K l0 (l5 - (F 8 l0 5)) (zup3 F 8 l0 6 (F 0 l1 1)) B) (fun r40 F40 B40 => rec43 (l2 + 1) l0 l1 F40 B40) else none else none else none) = some (r, F9, B9) := hf
  refine lv_aload_n hx hb (D_42 W_prog_10_method_2_code_128 15 rfl rfl) rfl (lv_at hl 2 rfl) ?_
  refine lv_aload_n hx hb (D_43 W_prog_10_method_2_code_128 16 rfl rfl) rfl (lv_at hl 3 rfl) ?_
  obtain ⟨g36, hf⟩ := gif hf
  refine zget (ci := 0) (C := RX0) (T := TX0) (v := .int (iI (F 0 l1 1))) (k := 1) hx hb hts inW_0 hown hK hZ g36.1 g36.2 rfl (by decide) k_1_43 rfl (D_180 W_prog_10_method_2_code_128 17 rfl rfl rfl) ?_
  obtain ⟨g37, hf⟩ := gif hf
  refine zput (ci := 8) (C := RX8) (T := TX8) (k := 6) (v := (F 0 l1 1)) (w := .int (iI (F 0 l1 1))) hx hb hts inW_8 tyX8 tyX8_ok nmX8 hown hK hZ hS g37.1 g37.2 rfl (by decide) k_7_230 rfl (fun G h => congrArg (fun q => Value.int (iI q)) h) rfl rfl (zno (by decide)) (D_181 W_prog_10_method_2_code_128 20 rfl rfl rfl) (fun H38 locs38 hZ38 hS38 => ?_)
  refine lv_aload_n hx hb (D_42 W_prog_10_method_2_code_128 23 rfl rfl) rfl (lv_at hl 2 rfl) ?_
  refine lv_lload hx hb (D_22 W_prog_10_method_2_code_128 24 rfl rfl) (lv_at hl 0 rfl) ?_
  refine lv_aload_n hx hb (D_42 W_prog_10_method_2_code_128 26 rfl rfl) rfl (lv_at hl 2 rfl) ?_
  refine zget (ci := 8) (C := RX8) (T := TX8) (v := .int (iI (F 8 l0 5))) (k := 5) hx hb hts inW_8 hown hK hZ38 g37.1 g37.2 rfl (by decide) k_7_229 (congrArg (fun q : Int => Value.int (iI q)) (show (zup3 F 8 l0 6 (F 0 l1 1)) 8 l0 5 = F 8 l0 5 by simp [zup3])) (D_180 W_prog_10_method_2_code_128 27 rfl rfl rfl) ?_
  obtain ⟨g39, hf⟩ := gif hf
  refine zi2l hx hb g39 (D_133 W_prog_10_method_2_code_128 30 rfl rfl) ?_
  refine zlsub hx hb (D_101 W_prog_10_method_2_code_128 31 rfl rfl) ?_
  obtain ⟨r40, F40, B40, hc40, hf⟩ := gbind hf
  refine va_callv (va_runV (As := [.long (lI (l5 - (F 8 l0 5)))]) (rest := []) ⟨hx, hb, hml, hown, hts⟩ (c_SoundFile_skip (l := l) hc40) (cwV 1 hts (gdV k_8_70 k_8_72 ks_99 k_1_23 k_8_73) rfl rfl rfl (by decide +kernel) ⟨Nat.le_of_ble_eq_true rfl, Nat.le_of_ble_eq_true rfl⟩) (zPV X hZ38 hS38 (ci := 8) g37.1 g37.2 (r := (RX8, TX8, 15)) rfl [.long (lI (l5 - (F 8 l0 5)))]) rfl rfl hl.1 rfl (lv_room (Nat.le_of_ble_eq_true rfl)) (D_182 W_prog_10_method_2_code_160 0 rfl rfl rfl) ⟨Nat.le_of_ble_eq_true rfl, Nat.le_of_ble_eq_true rfl⟩) hS38 (fun q _ h => zAin X hS38 q h) (zAin X hS38) (fun u40 t40 H40 locs40 ht40 hv40 hw40 hB40 hz40 hk40 hS40 => ?_)
  have hZ40 := zBack X ht40 hB40
  refine lv_iinc (v := iI (l2 + 1)) (lv' := [(2, .int (iI (l2 + 1))), (5, .long (lI l5)), (0, .ref (ad 8 l0 0)), (1, .ref (ad 0 l1 0))]) hx hb d_10_2_163 hl (k := 1) rfl (iI_add _ 1) (by decide) rfl (fun ls hl => ?_)
  refine lv_goto (tgt := 43) hx hb (D_167 W_prog_10_method_2_code_160 6 rfl rfl rfl) (by decide) ?_
  exact hrec43 hf hZ40 hS40 (lv_sub hl [0, 2, 3] rfl)

def f_SoundFile_load_43 (K : zK) : Nat → Int → Int → Int → zF → zB → zO
  | 0, _, _, _, _, _ => none
  | n + 1, l2, l0, l1, F, B => if r32 l2 then (if 3000 ≤ l2 then f_SoundFile_load_169 K l0 F B else if 0 ≤ l0 ∧ l0 < K.2 8 then if r32 (F 8 l0 7) then (if (F 8 l0 7) = 0 then if r32 (F 8 l0 8) then if r32 (B 8 l0 0 0) then (if (B 8 l0 0 0) ≤ (F 8 l0 8) then f_SoundFile_load_169 K l0 F B else if 0 ≤ l1 ∧ l1 < K.2 0 then zbind (f_SoundFile_takeWide K l0 4 (zup3 F 8 l0 6 (F 0 l1 1)) B) (fun r22 F22 B22 => zbind (f_SoundFile_takeWide K l0 4 F22 B22) (fun r23 F23 B23 => if r32 (F23 8 l0 5) then if r32 (F23 8 l0 7) then (if (F23 8 l0 7) = 0 then if r64 r22 then (if (zcmp r22 1297379947) = 0 then if r32 (F23 0 l1 1) then if r64 (r23 + (F23 8 l0 5)) then if r64 (F23 0 l1 1) then zbind (f_SoundFile_loadTrack K l0 (r23 + (F23 8 l0 5)) (zup3 F23 8 l0 6 (zmin (r23 + (F23 8 l0 5)) (F23 0 l1 1))) B23) (fun r34 F34 B34 => f_SoundFile_load_143 (f_SoundFile_load_43 K n) K (r23 + (F23 8 l0 5)) l2 l0 l1 (zup3 F34 8 l0 8 ((F34 8 l0 8) + 1)) B34) else none else none else none else f_SoundFile_load_143 (f_SoundFile_load_43 K n) K (r23 + (F23 8 l0 5)) l2 l0 l1 F23 B23) else none else f_SoundFile_load_143 (f_SoundFile_load_43 K n) K (r23 + (F23 8 l0 5)) l2 l0 l1 F23 B23) else none else none)) else none) else none else none else f_SoundFile_load_169 K l0 F B) else none else none) else none
set_option maxHeartbeats 4000000 in
set_option maxRecDepth 100000 in
theorem b_SoundFile_load_43 {D : va_G} {ca : Nat → ClassId} {ad : Nat → Int → Nat → Nat} {L : List Nat} {aS vS : Nat → Nat} {A : Nat → Prop} {p : Program} {l : Launch} {e : Env} {s : State} {m : MethodId} {args : Array Value} {below : List Frame} {meth : Method} {c : Code} {K : zK} {r : Int} {F9 : zF} {B9 : zB} (X : zX D ca L aS vS A p s m args meth c prog_10_method_2_code 7 (Option.some Jvm.ClassFile.FieldType.int) "StaveHouse$SoundFile") : ∀ {n : Nat} {l2 : Int} {l0 : Int} {l1 : Int} {F : zF} {B : zB} {H : Heap} {locs : List Loc} {ls : Array Slot}, f_SoundFile_load_43 K n l2 l0 l1 F B = some (r, F9, B9) → zH D ca ad lnC K.2 L F B A H → va_S A s.heap H locs → lv_has ls 7 [(2, .int (iI l2)), (0, .ref (ad 8 l0 0)), (1, .ref (ad 0 l1 0))] → W p l e ({ frames := 6, cells := 0, slots := 0, locals := 138 } : Room) s m args below meth c H locs 0 0 (MQ below (Q_SoundFile_load K D ca ad L r F9 B9 A) args s 0 0 A) (F0 m 43 ls []) := by
  obtain ⟨hx, hb, hr, hml, hown, hts, hlk, hK, hA, hL, hX⟩ := id X
  intro n
  induction n with
  | zero =>
    intros
    rename_i hf _ _ _
    cases hf
  | succ n ih =>
    intro l2 l0 l1 F B H locs ls hf hZ hS hl
    replace hf : (if r32 l2 then (if 3000 ≤ l2 then f_SoundFile_load_169 K l0 F B else if 0 ≤ l0 ∧ l0 < K.2 8 then if r32 (F 8 l0 7) then (if (F 8 l0 7) = 0 then if r32 (F 8 l0 8) then if r32 (B 8 l0 0 0) then (if (B 8 l0 0 0) ≤ (F 8 l0 8) then f_SoundFile_load_169 K l0 F B else if 0 ≤ l1 ∧ l1 < K.2 0 then zbind (f_SoundFile_takeWide K l0 4 (zup3 F 8 l0 6 (F 0 l1 1)) B) (fun r22 F22 B22 => zbind (f_SoundFile_takeWide K l0 4 F22 B22) (fun r23 F23 B23 => if r32 (F23 8 l0 5) then if r32 (F23 8 l0 7) then (if (F23 8 l0 7) = 0 then if r64 r22 then (if (zcmp r22 1297379947) = 0 then if r32 (F23 0 l1 1) then if r64 (r23 + (F23 8 l0 5)) then if r64 (F23 0 l1 1) then zbind (f_SoundFile_loadTrack K l0 (r23 + (F23 8 l0 5)) (zup3 F23 8 l0 6 (zmin (r23 + (F23 8 l0 5)) (F23 0 l1 1))) B23) (fun r34 F34 B34 => f_SoundFile_load_143 (f_SoundFile_load_43 K n) K (r23 + (F23 8 l0 5)) l2 l0 l1 (zup3 F34 8 l0 8 ((F34 8 l0 8) + 1)) B34) else none else none else none else f_SoundFile_load_143 (f_SoundFile_load_43 K n) K (r23 + (F23 8 l0 5)) l2 l0 l1 F23 B23) else none else f_SoundFile_load_143 (f_SoundFile_load_43 K n) K (r23 + (F23 8 l0 5)) l2 l0 l1 F23 B23) else none else none)) else none) else none else none else f_SoundFile_load_169 K l0 F B) else none else none) else none) = some (r, F9, B9) := hf
    refine lv_iload_n hx hb (D_28 W_prog_10_method_2_code_32 11 rfl rfl) rfl (lv_at hl 0 rfl) ?_
    refine lv_sipush (v := iI 3000) hx hb (D_17 W_prog_10_method_2_code_32 12 rfl rfl rfl) (by decide) ?_
    obtain ⟨g12, hf⟩ := gif hf
    refine zge (tgt := 169) hx hb g12 (by decide) (D_162 W_prog_10_method_2_code_32 15 rfl rfl rfl) (by decide) (fun h13 => ?_) (fun h13 => ?_)
    · replace hf := gpos hf h13
      exact b_SoundFile_load_169 X hf hZ hS (lv_sub hl [1] rfl)
    · replace hf := gneg hf h13
      refine lv_aload_n hx hb (D_42 W_prog_10_method_2_code_32 18 rfl rfl) rfl (lv_at hl 1 rfl) ?_
      obtain ⟨g14, hf⟩ := gif hf
      refine zget (ci := 8) (C := RX8) (T := TX8) (v := .int (iI (F 8 l0 7))) (k := 7) hx hb hts inW_8 hown hK hZ g14.1 g14.2 rfl (by decide) k_7_231 rfl (D_180 W_prog_10_method_2_code_32 19 rfl rfl rfl) ?_
      obtain ⟨g15, hf⟩ := gif hf
      refine z0ne (tgt := 169) hx hb g15 (D_154 W_prog_10_method_2_code_32 22 rfl rfl rfl) (by decide) (fun h16 => ?_) (fun h16 => ?_)
      · replace hf := gneg hf h16
        exact b_SoundFile_load_169 X hf hZ hS (lv_sub hl [1] rfl)
      · replace hf := gpos hf h16
        refine lv_aload_n hx hb (D_42 W_prog_10_method_2_code_32 25 rfl rfl) rfl (lv_at hl 1 rfl) ?_
        refine zget (ci := 8) (C := RX8) (T := TX8) (v := .int (iI (F 8 l0 8))) (k := 8) hx hb hts inW_8 hown hK hZ g14.1 g14.2 rfl (by decide) k_7_232 rfl (D_180 W_prog_10_method_2_code_32 26 rfl rfl rfl) ?_
        refine lv_aload_n hx hb (D_42 W_prog_10_method_2_code_32 29 rfl rfl) rfl (lv_at hl 1 rfl) ?_
        refine zget (ci := 8) (C := RX8) (T := TX8) (v := .ref (ad 8 l0 (0 + 1))) (k := 0) hx hb hts inW_8 hown hK hZ g14.1 g14.2 rfl (by decide) k_7_217 rfl (D_180 W_prog_10_method_2_code_32 30 rfl rfl rfl) ?_
        refine lv_iconst (v := iI 0) hx hb (D_3 W_prog_10_method_2_code_64 1 rfl rfl) rfl ?_
        refine zald (ci := 8) (k := 0) hx hb hK rfl hZ g14.1 g14.2 rfl (Nat.le_of_ble_eq_true rfl) (by decide) (show (0 : Int) < 7 by decide) (D_46 W_prog_10_method_2_code_64 2 rfl rfl) ?_
        obtain ⟨g17, hf⟩ := gif hf
        obtain ⟨g18, hf⟩ := gif hf
        refine zge (tgt := 169) hx hb g17 g18 (D_162 W_prog_10_method_2_code_64 3 rfl rfl rfl) (by decide) (fun h19 => ?_) (fun h19 => ?_)
        · replace hf := gpos hf h19
          exact b_SoundFile_load_169 X hf hZ hS (lv_sub hl [1] rfl)
        · replace hf := gneg hf h19
          refine lv_aload_n hx hb (D_42 W_prog_10_method_2_code_64 6 rfl rfl) rfl (lv_at hl 1 rfl) ?_
          refine lv_aload_n hx hb (D_43 W_prog_10_method_2_code_64 7 rfl rfl) rfl (lv_at hl 2 rfl) ?_
          obtain ⟨g20, hf⟩ := gif hf
          refine zget (ci := 0) (C := RX0) (T := TX0) (v := .int (iI (F 0 l1 1))) (k := 1) hx hb hts inW_0 hown hK hZ g20.1 g20.2 rfl (by decide) k_1_43 rfl (D_180 W_prog_10_method_2_code_64 8 rfl rfl rfl) ?_
          refine zput (ci := 8) (C := RX8) (T := TX8) (k := 6) (v := (F 0 l1 1)) (w := .int (iI (F 0 l1 1))) hx hb hts inW_8 tyX8 tyX8_ok nmX8 hown hK hZ hS g14.1 g14.2 rfl (by decide) k_7_230 rfl (fun G h => congrArg (fun q => Value.int (iI q)) h) rfl rfl (zno (by decide)) (D_181 W_prog_10_method_2_code_64 11 rfl rfl rfl) (fun H21 locs21 hZ21 hS21 => ?_)
          refine lv_aload_n hx hb (D_42 W_prog_10_method_2_code_64 14 rfl rfl) rfl (lv_at hl 1 rfl) ?_
          refine lv_iconst (v := iI 4) hx hb (D_7 W_prog_10_method_2_code_64 15 rfl rfl) rfl ?_
          obtain ⟨r22, F22, B22, hc22, hf⟩ := gbind hf
          refine va_calll (va_runV (As := [.int (iI 4)]) (rest := []) ⟨hx, hb, hml, hown, hts⟩ (c_SoundFile_takeWide (l := l) hc22) (cwV 1 hts (gdV k_8_58 k_8_60 ks_97 k_1_23 k_8_61) rfl rfl rfl (by decide +kernel) ⟨Nat.le_of_ble_eq_true rfl, Nat.le_of_ble_eq_true rfl⟩) (zPV X hZ21 hS21 (ci := 8) g14.1 g14.2 (r := (RX8, TX8, 15)) rfl [.int (iI 4)]) rfl rfl hl.1 rfl (lv_room (Nat.le_of_ble_eq_true rfl)) (D_182 W_prog_10_method_2_code_64 16 rfl rfl rfl) ⟨Nat.le_of_ble_eq_true rfl, Nat.le_of_ble_eq_true rfl⟩) hS21 (fun q _ h => zAin X hS21 q h) (zAin X hS21) (fun p22 u22 t22 H22 locs22 ht22 hv22 hw22 hB22 hz22 hk22 hS22 => ?_)
          have hZ22 := zBack X ht22 hB22
          subst hw22
          refine lv_lstore_n (lv' := [(3, .long (lI r22)), (2, .int (iI l2)), (0, .ref (ad 8 l0 0)), (1, .ref (ad 0 l1 0))]) hx hb (D_66 W_prog_10_method_2_code_64 19 rfl rfl) rfl hl (by decide) rfl (fun ls hl => ?_)
          refine lv_aload_n hx hb (D_42 W_prog_10_method_2_code_64 20 rfl rfl) rfl (lv_at hl 2 rfl) ?_
          refine lv_iconst (v := iI 4) hx hb (D_7 W_prog_10_method_2_code_64 21 rfl rfl) rfl ?_
          obtain ⟨r23, F23, B23, hc23, hf⟩ := gbind hf
          refine va_calll (va_runV (As := [.int (iI 4)]) (rest := []) ⟨hx, hb, hml, hown, hts⟩ (c_SoundFile_takeWide (l := l) hc23) (cwV 1 hts (gdV k_8_58 k_8_60 ks_97 k_1_23 k_8_61) rfl rfl rfl (by decide +kernel) ⟨Nat.le_of_ble_eq_true rfl, Nat.le_of_ble_eq_true rfl⟩) (zPV X hZ22 hS22 (ci := 8) g14.1 g14.2 (r := (RX8, TX8, 15)) rfl [.int (iI 4)]) rfl rfl hl.1 rfl (lv_room (Nat.le_of_ble_eq_true rfl)) (D_182 W_prog_10_method_2_code_64 22 rfl rfl rfl) ⟨Nat.le_of_ble_eq_true rfl, Nat.le_of_ble_eq_true rfl⟩) hS22 (fun q _ h => zAin X hS22 q h) (zAin X hS22) (fun p23 u23 t23 H23 locs23 ht23 hv23 hw23 hB23 hz23 hk23 hS23 => ?_)
          have hZ23 := zBack X ht23 hB23
          subst hw23
          refine lv_aload_n hx hb (D_42 W_prog_10_method_2_code_64 25 rfl rfl) rfl (lv_at hl 2 rfl) ?_
          refine zget (ci := 8) (C := RX8) (T := TX8) (v := .int (iI (F23 8 l0 5))) (k := 5) hx hb hts inW_8 hown hK hZ23 g14.1 g14.2 rfl (by decide) k_7_229 rfl (D_180 W_prog_10_method_2_code_64 26 rfl rfl rfl) ?_
          obtain ⟨g24, hf⟩ := gif hf
          refine zi2l hx hb g24 (D_133 W_prog_10_method_2_code_64 29 rfl rfl) ?_
          refine zladd hx hb (D_97 W_prog_10_method_2_code_64 30 rfl rfl) ?_
          refine lv_lstore (lv' := [(5, .long (lI (r23 + (F23 8 l0 5)))), (3, .long (lI r22)), (2, .int (iI l2)), (0, .ref (ad 8 l0 0)), (1, .ref (ad 0 l1 0))]) hx hb (D_55 W_prog_10_method_2_code_64 31 rfl rfl) hl (by decide) rfl (fun ls hl => ?_)
          refine lv_aload_n hx hb (D_42 W_prog_10_method_2_code_96 1 rfl rfl) rfl (lv_at hl 3 rfl) ?_
          refine zget (ci := 8) (C := RX8) (T := TX8) (v := .int (iI (F23 8 l0 7))) (k := 7) hx hb hts inW_8 hown hK hZ23 g14.1 g14.2 rfl (by decide) k_7_231 rfl (D_180 W_prog_10_method_2_code_96 2 rfl rfl rfl) ?_
          obtain ⟨g25, hf⟩ := gif hf
          refine z0ne (tgt := 143) hx hb g25 (D_154 W_prog_10_method_2_code_96 5 rfl rfl rfl) (by decide) (fun h26 => ?_) (fun h26 => ?_)
          · replace hf := gneg hf h26
            exact b_SoundFile_load_143 X ih hf hZ23 hS23 (lv_sub hl [0, 2, 3, 4] rfl)
          · replace hf := gpos hf h26
            refine lv_lload_n hx hb (D_33 W_prog_10_method_2_code_96 8 rfl rfl) rfl (lv_at hl 1 rfl) ?_
            refine lv_ldc2 hx hb hown (hts _ k_8_74) (D_20 W_prog_10_method_2_code_96 9 rfl rfl rfl) ?_
            refine W.eq (g2 := F0 m 108 ls [.long (lI 1297379947), .long (lI r22)]) rfl ?_
            obtain ⟨g27, hf⟩ := gif hf
            refine zcmp_r hx hb g27 (by decide) (D_148 W_prog_10_method_2_code_96 12 rfl rfl) ?_
            refine z0ne (tgt := 143) hx hb zcmp_32 (D_154 W_prog_10_method_2_code_96 13 rfl rfl rfl) (by decide) (fun h28 => ?_) (fun h28 => ?_)
            · replace hf := gneg hf h28
              exact b_SoundFile_load_143 X ih hf hZ23 hS23 (lv_sub hl [0, 2, 3, 4] rfl)
            · replace hf := gpos hf h28
              refine lv_aload_n hx hb (D_42 W_prog_10_method_2_code_96 16 rfl rfl) rfl (lv_at hl 3 rfl) ?_
              refine lv_lload hx hb (D_22 W_prog_10_method_2_code_96 17 rfl rfl) (lv_at hl 0 rfl) ?_
              refine lv_aload_n hx hb (D_43 W_prog_10_method_2_code_96 19 rfl rfl) rfl (lv_at hl 4 rfl) ?_
              refine zget (ci := 0) (C := RX0) (T := TX0) (v := .int (iI (F23 0 l1 1))) (k := 1) hx hb hts inW_0 hown hK hZ23 g20.1 g20.2 rfl (by decide) k_1_43 rfl (D_180 W_prog_10_method_2_code_96 20 rfl rfl rfl) ?_
              obtain ⟨g29, hf⟩ := gif hf
              refine zi2l hx hb g29 (D_133 W_prog_10_method_2_code_96 23 rfl rfl) ?_
              obtain ⟨g30, hf⟩ := gif hf
              obtain ⟨g31, hf⟩ := gif hf
              refine va_mmin_long hx hb (by rw [hml]; exact hl.1.symm) hown (hts _ k_8_75) (hts _ k_5_58) (hts _ k_1_3) (hts _ k_5_59) (Nat.le_of_ble_eq_true rfl) (Nat.le_of_ble_eq_true rfl) (Nat.le_of_ble_eq_true rfl) (Nat.le_of_ble_eq_true rfl) (D_184 W_prog_10_method_2_code_96 24 rfl rfl rfl) ?_
              rw [zlmin_e g30 g31]
              refine zl2iw hx hb (D_136 W_prog_10_method_2_code_96 27 rfl rfl) ?_
              refine zput (ci := 8) (C := RX8) (T := TX8) (k := 6) (v := (zmin (r23 + (F23 8 l0 5)) (F23 0 l1 1))) (w := .int (iI (zmin (r23 + (F23 8 l0 5)) (F23 0 l1 1)))) hx hb hts inW_8 tyX8 tyX8_ok nmX8 hown hK hZ23 hS23 g14.1 g14.2 rfl (by decide) k_7_230 rfl (fun G h => congrArg (fun q => Value.int (iI q)) h) rfl rfl (zno (by decide)) (D_181 W_prog_10_method_2_code_96 28 rfl rfl rfl) (fun H33 locs33 hZ33 hS33 => ?_)
              refine lv_aload_n hx hb (D_42 W_prog_10_method_2_code_96 31 rfl rfl) rfl (lv_at hl 3 rfl) ?_
              refine lv_lload hx hb (D_22 W_prog_10_method_2_code_128 0 rfl rfl) (lv_at hl 0 rfl) ?_
              obtain ⟨r34, F34, B34, hc34, hf⟩ := gbind hf
              refine va_callv (va_runV (As := [.long (lI (r23 + (F23 8 l0 5)))]) (rest := []) ⟨hx, hb, hml, hown, hts⟩ (c_SoundFile_loadTrack (l := l) hc34) (cwV 1 hts (gdV k_8_76 k_8_78 ks_100 k_1_23 k_8_79) rfl rfl rfl (by decide +kernel) ⟨Nat.le_of_ble_eq_true rfl, Nat.le_of_ble_eq_true rfl⟩) (zPV X hZ33 hS33 (ci := 8) g14.1 g14.2 (r := (RX8, TX8, 15)) rfl [.long (lI (r23 + (F23 8 l0 5)))]) rfl rfl hl.1 rfl (lv_room (Nat.le_of_ble_eq_true rfl)) (D_182 W_prog_10_method_2_code_128 2 rfl rfl rfl) ⟨Nat.le_of_ble_eq_true rfl, Nat.le_of_ble_eq_true rfl⟩) hS33 (fun q _ h => zAin X hS33 q h) (zAin X hS33) (fun u34 t34 H34 locs34 ht34 hv34 hw34 hB34 hz34 hk34 hS34 => ?_)
              have hZ34 := zBack X ht34 hB34
              refine lv_aload_n hx hb (D_42 W_prog_10_method_2_code_128 5 rfl rfl) rfl (lv_at hl 3 rfl) ?_
              refine lv_dup hx hb (D_89 W_prog_10_method_2_code_128 6 rfl rfl) rfl ?_
              refine zget (ci := 8) (C := RX8) (T := TX8) (v := .int (iI (F34 8 l0 8))) (k := 8) hx hb hts inW_8 hown hK hZ34 g14.1 g14.2 rfl (by decide) k_7_232 rfl (D_180 W_prog_10_method_2_code_128 7 rfl rfl rfl) ?_
              refine lv_iconst (v := iI 1) hx hb (D_4 W_prog_10_method_2_code_128 10 rfl rfl) rfl ?_
              refine zadd hx hb (D_96 W_prog_10_method_2_code_128 11 rfl rfl) ?_
              refine zput (ci := 8) (C := RX8) (T := TX8) (k := 8) (v := ((F34 8 l0 8) + 1)) (w := .int (iI ((F34 8 l0 8) + 1))) hx hb hts inW_8 tyX8 tyX8_ok nmX8 hown hK hZ34 hS34 g14.1 g14.2 rfl (by decide) k_7_232 rfl (fun G h => congrArg (fun q => Value.int (iI q)) h) rfl rfl (zno (by decide)) (D_181 W_prog_10_method_2_code_128 12 rfl rfl rfl) (fun H35 locs35 hZ35 hS35 => ?_)
              exact b_SoundFile_load_143 X ih hf hZ35 hS35 (lv_sub hl [0, 2, 3, 4] rfl)

def f_SoundFile_load (K : zK) (l0 : Int) (l1 : Int) (F : zF) (B : zB) : zO := if 0 ≤ l0 ∧ l0 < K.2 8 then if 0 ≤ l1 ∧ l1 < K.2 0 then if l1 < K.2 0 then zbind (f_SoundFile_setDefaults K l0 (zup3 (zup3 (zup3 (zup3 (zup3 F 8 l0 4 l1) 8 l0 5 0) 8 l0 6 (F 0 l1 1)) 8 l0 7 0) 8 l0 2 0) B) (fun r9 F9 B9 => zbind (f_SoundFile_loadHead K l0 F9 B9) (fun r10 F10 B10 => f_SoundFile_load_43 K K.1 0 l0 l1 (zup3 F10 8 l0 8 0) B10)) else none else none else none
set_option maxHeartbeats 4000000 in
set_option maxRecDepth 100000 in
theorem c_SoundFile_load {l : Launch} {D : va_G} {ca : Nat → ClassId} {ad : Nat → Int → Nat → Nat} {L : List Nat} {aS vS : Nat → Nat} {sz : Nat} {K : zK}  {l0 : Int} {l1 : Int} {F F9 : zF} {B B9 : zB} {r : Int} (hf : f_SoundFile_load K l0 l1 F B = some (r, F9, B9)) : Met l ({ cls := "StaveHouse$SoundFile", name := "load", desc := "(LStaveHouse$ByteRow;)I" } : Jvm.MethodName) (Cond.code ({ cls := "StaveHouse$SoundFile", name := "load", desc := "(LStaveHouse$ByteRow;)I" } : Jvm.MethodName) prog_10_method_2_code 7 (Option.some Jvm.ClassFile.FieldType.int) :: wAll) ({ frames := 6, cells := 0, slots := 0, locals := 138 } : Room) (va_Pc [.ref (ad 8 l0 0), .ref (ad 0 l1 0)] (zPre D ca ad lnC K.2 L aS vS F B sz)) (Q_SoundFile_load K D ca ad L r F9 B9 (zA L sz)) 0 0 (zA L sz) := by
  refine zMet (Qc := Q_SoundFile_load K D ca ad L r F9 B9) (lv := [(0, .ref (ad 8 l0 0)), (1, .ref (ad 0 l1 0))]) (by decide) (Nat.le_of_ble_eq_true rfl) rfl (fun A p e s m below meth c ls X hZ hS hl => ?_)
  obtain ⟨hx, hb, hr, hml, hown, hts, hlk, hK, hA, hL, hX⟩ := id X
  replace hf : (if 0 ≤ l0 ∧ l0 < K.2 8 then if 0 ≤ l1 ∧ l1 < K.2 0 then if l1 < K.2 0 then zbind (f_SoundFile_setDefaults K l0 (zup3 (zup3 (zup3 (zup3 (zup3 F 8 l0 4 l1) 8 l0 5 0) 8 l0 6 (F 0 l1 1)) 8 l0 7 0) 8 l0 2 0) B) (fun r9 F9 B9 => zbind (f_SoundFile_loadHead K l0 F9 B9) (fun r10 F10 B10 => f_SoundFile_load_43 K K.1 0 l0 l1 (zup3 F10 8 l0 8 0) B10)) else none else none else none) = some (r, F9, B9) := hf
  refine lv_aload_n hx hb (D_42 W_prog_10_method_2_code_0 0 rfl rfl) rfl (lv_at hl 0 rfl) ?_
  refine lv_aload_n hx hb (D_43 W_prog_10_method_2_code_0 1 rfl rfl) rfl (lv_at hl 1 rfl) ?_
  obtain ⟨g1, hf⟩ := gif hf
  obtain ⟨g3, hf⟩ := gif hf
  refine W.eq (g2 := F0 m 2 ls [va_rf (zrf ad 0 l1), .ref (ad 8 l0 0)]) (by rw [zrf_pos (ad := ad) (t := 0) g3.1]; try rfl) ?_
  obtain ⟨g4, hf⟩ := gif hf
  refine zput (ci := 8) (C := RX8) (T := TX8) (k := 4) (v := l1) (w := va_rf (zrf ad 0 l1)) hx hb hts inW_8 tyX8 tyX8_ok nmX8 hown hK hZ hS g1.1 g1.2 rfl (by decide) k_7_228 rfl (fun G h => congrArg (fun q => va_rf (zrf ad 0 q)) h) (zrf_nar rfl _) (zrf_fit rfl _) (zyes (t0 := 0) rfl g4) (D_181 W_prog_10_method_2_code_0 2 rfl rfl rfl) (fun H2 locs2 hZ2 hS2 => ?_)
  refine lv_aload_n hx hb (D_42 W_prog_10_method_2_code_0 5 rfl rfl) rfl (lv_at hl 0 rfl) ?_
  refine lv_iconst (v := iI 0) hx hb (D_3 W_prog_10_method_2_code_0 6 rfl rfl) rfl ?_
  refine zput (ci := 8) (C := RX8) (T := TX8) (k := 5) (v := 0) (w := .int (iI 0)) hx hb hts inW_8 tyX8 tyX8_ok nmX8 hown hK hZ2 hS2 g1.1 g1.2 rfl (by decide) k_7_229 rfl (fun G h => congrArg (fun q => Value.int (iI q)) h) rfl rfl (zno (by decide)) (D_181 W_prog_10_method_2_code_0 7 rfl rfl rfl) (fun H5 locs5 hZ5 hS5 => ?_)
  refine lv_aload_n hx hb (D_42 W_prog_10_method_2_code_0 10 rfl rfl) rfl (lv_at hl 0 rfl) ?_
  refine lv_aload_n hx hb (D_43 W_prog_10_method_2_code_0 11 rfl rfl) rfl (lv_at hl 1 rfl) ?_
  refine zget (ci := 0) (C := RX0) (T := TX0) (v := .int (iI (F 0 l1 1))) (k := 1) hx hb hts inW_0 hown hK hZ5 g3.1 g3.2 rfl (by decide) k_1_43 (congrArg (fun q : Int => Value.int (iI q)) (show (zup3 (zup3 F 8 l0 4 l1) 8 l0 5 0) 0 l1 1 = F 0 l1 1 by simp [zup3])) (D_180 W_prog_10_method_2_code_0 12 rfl rfl rfl) ?_
  refine zput (ci := 8) (C := RX8) (T := TX8) (k := 6) (v := (F 0 l1 1)) (w := .int (iI (F 0 l1 1))) hx hb hts inW_8 tyX8 tyX8_ok nmX8 hown hK hZ5 hS5 g1.1 g1.2 rfl (by decide) k_7_230 rfl (fun G h => congrArg (fun q => Value.int (iI q)) h) rfl rfl (zno (by decide)) (D_181 W_prog_10_method_2_code_0 15 rfl rfl rfl) (fun H6 locs6 hZ6 hS6 => ?_)
  refine lv_aload_n hx hb (D_42 W_prog_10_method_2_code_0 18 rfl rfl) rfl (lv_at hl 0 rfl) ?_
  refine lv_iconst (v := iI 0) hx hb (D_3 W_prog_10_method_2_code_0 19 rfl rfl) rfl ?_
  refine zput (ci := 8) (C := RX8) (T := TX8) (k := 7) (v := 0) (w := .int (iI 0)) hx hb hts inW_8 tyX8 tyX8_ok nmX8 hown hK hZ6 hS6 g1.1 g1.2 rfl (by decide) k_7_231 rfl (fun G h => congrArg (fun q => Value.int (iI q)) h) rfl rfl (zno (by decide)) (D_181 W_prog_10_method_2_code_0 20 rfl rfl rfl) (fun H7 locs7 hZ7 hS7 => ?_)
  refine lv_aload_n hx hb (D_42 W_prog_10_method_2_code_0 23 rfl rfl) rfl (lv_at hl 0 rfl) ?_
  refine lv_iconst (v := iI 0) hx hb (D_3 W_prog_10_method_2_code_0 24 rfl rfl) rfl ?_
  refine zput (ci := 8) (C := RX8) (T := TX8) (k := 2) (v := 0) (w := .int (iI 0)) hx hb hts inW_8 tyX8 tyX8_ok nmX8 hown hK hZ7 hS7 g1.1 g1.2 rfl (by decide) k_7_223 rfl (fun G h => congrArg (fun q => Value.int (iI q)) h) rfl rfl (zno (by decide)) (D_181 W_prog_10_method_2_code_0 25 rfl rfl rfl) (fun H8 locs8 hZ8 hS8 => ?_)
  refine lv_aload_n hx hb (D_42 W_prog_10_method_2_code_0 28 rfl rfl) rfl (lv_at hl 0 rfl) ?_
  obtain ⟨r9, F9, B9, hc9, hf⟩ := gbind hf
  refine va_callv (va_runV (As := []) (rest := []) ⟨hx, hb, hml, hown, hts⟩ (c_SoundFile_setDefaults (l := l) hc9) (cwV 0 hts (gdV k_8_34 k_8_36 ks_92 k_1_23 k_8_37) rfl rfl rfl (by decide +kernel) ⟨Nat.le_of_ble_eq_true rfl, Nat.le_of_ble_eq_true rfl⟩) (zPV X hZ8 hS8 (ci := 8) g1.1 g1.2 (r := (RX8, TX8, 15)) rfl []) rfl rfl hl.1 rfl (lv_room (Nat.le_of_ble_eq_true rfl)) (D_182 W_prog_10_method_2_code_0 29 rfl rfl rfl) ⟨Nat.le_of_ble_eq_true rfl, Nat.le_of_ble_eq_true rfl⟩) hS8 (fun q _ h => zAin X hS8 q h) (zAin X hS8) (fun u9 t9 H9 locs9 ht9 hv9 hw9 hB9 hz9 hk9 hS9 => ?_)
  have hZ9 := zBack X ht9 hB9
  refine lv_aload_n hx hb (D_42 W_prog_10_method_2_code_32 0 rfl rfl) rfl (lv_at hl 0 rfl) ?_
  obtain ⟨r10, F10, B10, hc10, hf⟩ := gbind hf
  refine va_callv (va_runV (As := []) (rest := []) ⟨hx, hb, hml, hown, hts⟩ (c_SoundFile_loadHead (l := l) hc10) (cwV 0 hts (gdV k_8_38 k_8_40 ks_93 k_1_23 k_8_41) rfl rfl rfl (by decide +kernel) ⟨Nat.le_of_ble_eq_true rfl, Nat.le_of_ble_eq_true rfl⟩) (zPV X hZ9 hS9 (ci := 8) g1.1 g1.2 (r := (RX8, TX8, 15)) rfl []) rfl rfl hl.1 rfl (lv_room (Nat.le_of_ble_eq_true rfl)) (D_182 W_prog_10_method_2_code_32 1 rfl rfl rfl) ⟨Nat.le_of_ble_eq_true rfl, Nat.le_of_ble_eq_true rfl⟩) hS9 (fun q _ h => zAin X hS9 q h) (zAin X hS9) (fun u10 t10 H10 locs10 ht10 hv10 hw10 hB10 hz10 hk10 hS10 => ?_)
  have hZ10 := zBack X ht10 hB10
  refine lv_aload_n hx hb (D_42 W_prog_10_method_2_code_32 4 rfl rfl) rfl (lv_at hl 0 rfl) ?_
  refine lv_iconst (v := iI 0) hx hb (D_3 W_prog_10_method_2_code_32 5 rfl rfl) rfl ?_
  refine zput (ci := 8) (C := RX8) (T := TX8) (k := 8) (v := 0) (w := .int (iI 0)) hx hb hts inW_8 tyX8 tyX8_ok nmX8 hown hK hZ10 hS10 g1.1 g1.2 rfl (by decide) k_7_232 rfl (fun G h => congrArg (fun q => Value.int (iI q)) h) rfl rfl (zno (by decide)) (D_181 W_prog_10_method_2_code_32 6 rfl rfl rfl) (fun H11 locs11 hZ11 hS11 => ?_)
  refine lv_iconst (v := iI 0) hx hb (D_3 W_prog_10_method_2_code_32 9 rfl rfl) rfl ?_
  refine lv_istore_n (lv' := [(2, .int (iI 0)), (0, .ref (ad 8 l0 0)), (1, .ref (ad 0 l1 0))]) hx hb (D_61 W_prog_10_method_2_code_32 10 rfl rfl) rfl hl (by decide) rfl (fun ls hl => ?_)
  exact b_SoundFile_load_43 X hf hZ11 hS11 (lv_sub hl [0, 1, 2] rfl)

abbrev Q_Scribe_writeRest (K : zK) (D : va_G) (ca : Nat → ClassId) (ad : Nat → Int → Nat → Nat) (L : List Nat) (r : Int) (F : zF) (B : zB) (A : Nat → Prop) : Array Value → State → Outcome → State → Prop := va_Qv (S := Unit) (fun _ => True) (fun _ => zPo D ca ad lnC K.2 L F B A) A
def f_Scribe_writeRest (K : zK) (l0 : Int) (l1 : Int) (l2 : Int) (F : zF) (B : zB) : zO := if 0 ≤ l0 ∧ l0 < K.2 7 then if 0 ≤ (F 7 l0 4) ∧ (F 7 l0 4) < K.2 1 then zbind (f_Scribe_writeSpan K l0 l1 l2 (zup3 F 1 (F 7 l0 4) 10 0) B) (fun r4 F4 B4 => some (0, F4, B4)) else none else none
set_option maxHeartbeats 4000000 in
set_option maxRecDepth 100000 in
theorem c_Scribe_writeRest {l : Launch} {D : va_G} {ca : Nat → ClassId} {ad : Nat → Int → Nat → Nat} {L : List Nat} {aS vS : Nat → Nat} {sz : Nat} {K : zK}  {l0 : Int} {l1 : Int} {l2 : Int} {F F9 : zF} {B B9 : zB} {r : Int} (hf : f_Scribe_writeRest K l0 l1 l2 F B = some (r, F9, B9)) : Met l ({ cls := "StaveHouse$Scribe", name := "writeRest", desc := "(II)V" } : Jvm.MethodName) (Cond.code ({ cls := "StaveHouse$Scribe", name := "writeRest", desc := "(II)V" } : Jvm.MethodName) prog_9_method_11_code 3 (Option.none : Option Jvm.ClassFile.FieldType) :: wAll) ({ frames := 7, cells := 0, slots := 0, locals := 157 } : Room) (va_Pc [.ref (ad 7 l0 0), .int (iI l1), .int (iI l2)] (zPre D ca ad lnC K.2 L aS vS F B sz)) (Q_Scribe_writeRest K D ca ad L r F9 B9 (zA L sz)) 0 0 (zA L sz) := by
  refine zMet (Qc := Q_Scribe_writeRest K D ca ad L r F9 B9) (lv := [(0, .ref (ad 7 l0 0)), (1, .int (iI l1)), (2, .int (iI l2))]) (by decide) (Nat.le_of_ble_eq_true rfl) rfl (fun A p e s m below meth c ls X hZ hS hl => ?_)
  obtain ⟨hx, hb, hr, hml, hown, hts, hlk, hK, hA, hL, hX⟩ := id X
  replace hf : (if 0 ≤ l0 ∧ l0 < K.2 7 then if 0 ≤ (F 7 l0 4) ∧ (F 7 l0 4) < K.2 1 then zbind (f_Scribe_writeSpan K l0 l1 l2 (zup3 F 1 (F 7 l0 4) 10 0) B) (fun r4 F4 B4 => some (0, F4, B4)) else none else none) = some (r, F9, B9) := hf
  refine lv_aload_n hx hb (D_42 W_prog_9_method_11_code_0 0 rfl rfl) rfl (lv_at hl 0 rfl) ?_
  obtain ⟨g1, hf⟩ := gif hf
  refine zget (ci := 7) (C := RX7) (T := TX7) (v := va_rf (zrf ad 1 (F 7 l0 4))) (k := 4) hx hb hts inW_7 hown hK hZ g1.1 g1.2 rfl (by decide) k_2_102 rfl (D_180 W_prog_9_method_11_code_0 1 rfl rfl rfl) ?_
  refine lv_iconst (v := iI 0) hx hb (D_3 W_prog_9_method_11_code_0 4 rfl rfl) rfl ?_
  obtain ⟨g2, hf⟩ := gif hf
  refine W.eq (g2 := F0 m 5 ls [.int (iI 0), .ref (ad 1 (F 7 l0 4) 0)]) (by rw [zrf_pos (ad := ad) (t := 1) g2.1]; try rfl) ?_
  refine zput (ci := 1) (C := RX1) (T := TX1) (k := 10) (v := 0) (w := .int (iI 0)) hx hb hts inW_1 tyX1 tyX1_ok nmX1 hown hK hZ hS g2.1 g2.2 rfl (by decide) k_2_50 rfl (fun G h => congrArg (fun q => Value.int (iI q)) h) rfl rfl (zno (by decide)) (D_181 W_prog_9_method_11_code_0 5 rfl rfl rfl) (fun H3 locs3 hZ3 hS3 => ?_)
  refine lv_aload_n hx hb (D_42 W_prog_9_method_11_code_0 8 rfl rfl) rfl (lv_at hl 0 rfl) ?_
  refine lv_iload_n hx hb (D_27 W_prog_9_method_11_code_0 9 rfl rfl) rfl (lv_at hl 1 rfl) ?_
  refine lv_iload_n hx hb (D_28 W_prog_9_method_11_code_0 10 rfl rfl) rfl (lv_at hl 2 rfl) ?_
  obtain ⟨r4, F4, B4, hc4, hf⟩ := gbind hf
  refine va_callv (va_runV (As := [.int (iI l1), .int (iI l2)]) (rest := []) ⟨hx, hb, hml, hown, hts⟩ (c_Scribe_writeSpan (l := l) hc4) (cwV 2 hts (gdV k_8_195 k_8_197 ks_118 k_1_7 k_8_198) rfl rfl rfl (by decide +kernel) ⟨Nat.le_of_ble_eq_true rfl, Nat.le_of_ble_eq_true rfl⟩) (zPV X hZ3 hS3 (ci := 7) g1.1 g1.2 (r := (RX7, TX7, 9)) rfl [.int (iI l1), .int (iI l2)]) rfl rfl hl.1 rfl (lv_room (Nat.le_of_ble_eq_true rfl)) (D_182 W_prog_9_method_11_code_0 11 rfl rfl rfl) ⟨Nat.le_of_ble_eq_true rfl, Nat.le_of_ble_eq_true rfl⟩) hS3 (fun q _ h => zAin X hS3 q h) (zAin X hS3) (fun u4 t4 H4 locs4 ht4 hv4 hw4 hB4 hz4 hk4 hS4 => ?_)
  have hZ4 := zBack X ht4 hB4
  cases hf
  exact W.vret hx hb hr (fun t ht hW => ⟨⟨(), rfl, trivial, by rw [ht]; exact hZ4, va_K.moved hW.alike hK⟩, hS4.F ht⟩) hS4.2.2 (D_177 W_prog_9_method_11_code_0 14 rfl rfl) hlk

abbrev Q_S_file (K : zK) (D : va_G) (ca : Nat → ClassId) (ad : Nat → Int → Nat → Nat) (L : List Nat) (r : Int) (F : zF) (B : zB) (A : Nat → Prop) : Array Value → State → Outcome → State → Prop := va_Qi (S := Unit) (fun p _ => p = iI r) (fun _ => zPo D ca ad lnC K.2 L F B A) A
def f_S_file_20 (K : zK)  (F : zF) (B : zB) : zO := some ((-1), F, B)
set_option maxHeartbeats 4000000 in
set_option maxRecDepth 100000 in
theorem b_S_file_20 {D : va_G} {ca : Nat → ClassId} {ad : Nat → Int → Nat → Nat} {L : List Nat} {aS vS : Nat → Nat} {A : Nat → Prop} {p : Program} {l : Launch} {e : Env} {s : State} {m : MethodId} {args : Array Value} {below : List Frame} {meth : Method} {c : Code} {K : zK} {r : Int} {F9 : zF} {B9 : zB} (X : zX D ca L aS vS A p s m args meth c prog_1_method_21_code 4 (Option.some Jvm.ClassFile.FieldType.int) "StaveHouse")  {F : zF} {B : zB} {H : Heap} {locs : List Loc} {ls : Array Slot} (hf : f_S_file_20 K  F B = some (r, F9, B9)) (hZ : zH D ca ad lnC K.2 L F B A H) (hS : va_S A s.heap H locs) (hl : lv_has ls 4 []) : W p l e ({ frames := 8, cells := 0, slots := 0, locals := 176 } : Room) s m args below meth c H locs 0 0 (MQ below (Q_S_file K D ca ad L r F9 B9 A) args s 0 0 A) (F0 m 20 ls []) := by
  obtain ⟨hx, hb, hr, hml, hown, hts, hlk, hK, hA, hL, hX⟩ := id X
  replace hf : (some ((-1), F, B)) = some (r, F9, B9) := hf
  refine lv_iconst (v := iI (-1)) hx hb (D_2 W_prog_1_method_21_code_0 20 rfl rfl) rfl ?_
  cases hf
  exact W.iret hx hb hr (fun t ht hW => ⟨⟨_, (), rfl, rfl, by rw [ht]; exact hZ, va_K.moved hW.alike hK⟩, hS.F ht⟩) hS.2.2 (D_172 W_prog_1_method_21_code_0 21 rfl rfl) hlk

def f_S_file (K : zK) (l0 : Int) (l1 : Int) (F : zF) (B : zB) : zO := if 0 ≤ l0 ∧ l0 < K.2 12 then zbind (f_S_pieceAt K l0 l1 F B) (fun r2 F2 B2 => zbind (f_S_performanceOf K l0 l1 F2 B2) (fun r3 F3 B3 => (if r2 < 0 then f_S_file_20 K F3 B3 else (if r3 < 0 then f_S_file_20 K F3 B3 else if 0 ≤ (F3 12 l0 2) ∧ (F3 12 l0 2) < K.2 0 then zbind (f_ByteRow_clear K (F3 12 l0 2) F3 B3) (fun r7 F7 B7 => if 0 ≤ r3 ∧ r3 < K.2 5 then if 0 ≤ r2 ∧ r2 < K.2 6 then if 0 ≤ (F7 12 l0 2) ∧ (F7 12 l0 2) < K.2 0 then zbind (f_Performance_write K r3 r2 (F7 12 l0 2) F7 B7) (fun r11 F11 B11 => if 0 ≤ (F11 12 l0 2) ∧ (F11 12 l0 2) < K.2 0 then some (F11 0 (F11 12 l0 2) 1, F11, B11) else none) else none else none else none) else none)))) else none
set_option maxHeartbeats 4000000 in
set_option maxRecDepth 100000 in
theorem c_S_file {l : Launch} {D : va_G} {ca : Nat → ClassId} {ad : Nat → Int → Nat → Nat} {L : List Nat} {aS vS : Nat → Nat} {sz : Nat} {K : zK}  {l0 : Int} {l1 : Int} {F F9 : zF} {B B9 : zB} {r : Int} (hf : f_S_file K l0 l1 F B = some (r, F9, B9)) : Met l ({ cls := "StaveHouse", name := "file", desc := "(I)I" } : Jvm.MethodName) (Cond.code ({ cls := "StaveHouse", name := "file", desc := "(I)I" } : Jvm.MethodName) prog_1_method_21_code 4 (Option.some Jvm.ClassFile.FieldType.int) :: wAll) ({ frames := 8, cells := 0, slots := 0, locals := 176 } : Room) (va_Pc [.ref (ad 12 l0 0), .int (iI l1)] (zPre D ca ad lnC K.2 L aS vS F B sz)) (Q_S_file K D ca ad L r F9 B9 (zA L sz)) 0 0 (zA L sz) := by
  refine zMet (Qc := Q_S_file K D ca ad L r F9 B9) (lv := [(0, .ref (ad 12 l0 0)), (1, .int (iI l1))]) (by decide) (Nat.le_of_ble_eq_true rfl) rfl (fun A p e s m below meth c ls X hZ hS hl => ?_)
  obtain ⟨hx, hb, hr, hml, hown, hts, hlk, hK, hA, hL, hX⟩ := id X
  replace hf : (if 0 ≤ l0 ∧ l0 < K.2 12 then zbind (f_S_pieceAt K l0 l1 F B) (fun r2 F2 B2 => zbind (f_S_performanceOf K l0 l1 F2 B2) (fun r3 F3 B3 => (if r2 < 0 then f_S_file_20 K F3 B3 else (if r3 < 0 then f_S_file_20 K F3 B3 else if 0 ≤ (F3 12 l0 2) ∧ (F3 12 l0 2) < K.2 0 then zbind (f_ByteRow_clear K (F3 12 l0 2) F3 B3) (fun r7 F7 B7 => if 0 ≤ r3 ∧ r3 < K.2 5 then if 0 ≤ r2 ∧ r2 < K.2 6 then if 0 ≤ (F7 12 l0 2) ∧ (F7 12 l0 2) < K.2 0 then zbind (f_Performance_write K r3 r2 (F7 12 l0 2) F7 B7) (fun r11 F11 B11 => if 0 ≤ (F11 12 l0 2) ∧ (F11 12 l0 2) < K.2 0 then some (F11 0 (F11 12 l0 2) 1, F11, B11) else none) else none else none else none) else none)))) else none) = some (r, F9, B9) := hf
  refine lv_aload_n hx hb (D_42 W_prog_1_method_21_code_0 0 rfl rfl) rfl (lv_at hl 0 rfl) ?_
  refine lv_iload_n hx hb (D_27 W_prog_1_method_21_code_0 1 rfl rfl) rfl (lv_at hl 1 rfl) ?_
  obtain ⟨g1, hf⟩ := gif hf
  obtain ⟨r2, F2, B2, hc2, hf⟩ := gbind hf
  refine va_callq (va_runV (As := [.int (iI l1)]) (rest := []) ⟨hx, hb, hml, hown, hts⟩ (c_S_pieceAt (l := l) hc2) (cwV 1 hts (gdV k_5_182 k_5_184 ks_65 k_1_1 k_5_185) rfl rfl rfl (by decide +kernel) ⟨Nat.le_of_ble_eq_true rfl, Nat.le_of_ble_eq_true rfl⟩) (zPV X hZ hS (ci := 12) g1.1 g1.2 (r := (RX12, TX12, 10)) rfl [.int (iI l1)]) rfl rfl hl.1 rfl (lv_room (Nat.le_of_ble_eq_true rfl)) (D_182 W_prog_1_method_21_code_0 2 rfl rfl rfl) ⟨Nat.le_of_ble_eq_true rfl, Nat.le_of_ble_eq_true rfl⟩) hS (fun q _ h => zAin X hS q h) (zAin X hS) (fun p2 u2 t2 H2 locs2 ht2 hv2 hw2 hB2 hz2 hk2 hS2 => ?_)
  have hZ2 := zBack X ht2 hB2
  subst hw2
  refine zastore_n (lv' := [(0, .ref (ad 12 l0 0)), (1, .int (iI l1))]) hx hb (D_77 W_prog_1_method_21_code_0 5 rfl rfl) rfl hl (by decide) (fun _ _ => rfl) (fun ls hl => ?_)
  refine lv_aload_n hx hb (D_42 W_prog_1_method_21_code_0 6 rfl rfl) rfl (lv_at hl 1 rfl) ?_
  refine lv_iload_n hx hb (D_27 W_prog_1_method_21_code_0 7 rfl rfl) rfl (lv_at hl 2 rfl) ?_
  obtain ⟨r3, F3, B3, hc3, hf⟩ := gbind hf
  refine va_callq (va_runV (As := [.int (iI l1)]) (rest := []) ⟨hx, hb, hml, hown, hts⟩ (c_S_performanceOf (l := l) hc3) (cwV 1 hts (gdV k_7_108 k_7_110 ks_89 k_1_1 k_7_111) rfl rfl rfl (by decide +kernel) ⟨Nat.le_of_ble_eq_true rfl, Nat.le_of_ble_eq_true rfl⟩) (zPV X hZ2 hS2 (ci := 12) g1.1 g1.2 (r := (RX12, TX12, 10)) rfl [.int (iI l1)]) rfl rfl hl.1 rfl (lv_room (Nat.le_of_ble_eq_true rfl)) (D_182 W_prog_1_method_21_code_0 8 rfl rfl rfl) ⟨Nat.le_of_ble_eq_true rfl, Nat.le_of_ble_eq_true rfl⟩) hS2 (fun q _ h => zAin X hS2 q h) (zAin X hS2) (fun p3 u3 t3 H3 locs3 ht3 hv3 hw3 hB3 hz3 hk3 hS3 => ?_)
  have hZ3 := zBack X ht3 hB3
  subst hw3
  refine zastore_n (lv' := [(2, va_rf (zrf ad 6 r2)), (0, .ref (ad 12 l0 0)), (1, .int (iI l1))]) hx hb (D_78 W_prog_1_method_21_code_0 11 rfl rfl) rfl hl (by decide) (fun v hv => by cases zrf ad 6 r2 <;> rfl) (fun ls hl => ?_)
  refine zaload_n hx hb (D_44 W_prog_1_method_21_code_0 12 rfl rfl) rfl (lv_at hl 1 rfl) ?_
  refine zifnull (tgt := 20) hx hb (D_198 W_prog_1_method_21_code_0 13 rfl rfl rfl) (by decide) (fun h4 => ?_) (fun h4 => ?_)
  · replace hf := gpos hf h4
    exact b_S_file_20 X hf hZ3 hS3 (lv_sub hl [] rfl)
  · replace hf := gneg hf h4
    refine zaload_n hx hb (D_45 W_prog_1_method_21_code_0 16 rfl rfl) rfl (lv_at hl 0 rfl) ?_
    refine zifnonnull (tgt := 22) hx hb (D_199 W_prog_1_method_21_code_0 17 rfl rfl rfl) (by decide) (fun h5 => ?_) (fun h5 => ?_)
    · replace hf := gneg hf h5
      refine lv_aload_n hx hb (D_42 W_prog_1_method_21_code_0 22 rfl rfl) rfl (lv_at hl 2 rfl) ?_
      refine zget (ci := 12) (C := RX12) (T := TX12) (v := va_rf (zrf ad 0 (F3 12 l0 2))) (k := 2) hx hb hts inW_12 hown hK hZ3 g1.1 g1.2 rfl (by decide) k_2_129 rfl (D_180 W_prog_1_method_21_code_0 23 rfl rfl rfl) ?_
      obtain ⟨g6, hf⟩ := gif hf
      refine W.eq (g2 := F0 m 26 ls [.ref (ad 0 (F3 12 l0 2) 0)]) (by rw [zrf_pos (ad := ad) (t := 0) g6.1]; try rfl) ?_
      obtain ⟨r7, F7, B7, hc7, hf⟩ := gbind hf
      refine va_callv (va_runV (As := []) (rest := []) ⟨hx, hb, hml, hown, hts⟩ (c_ByteRow_clear (l := l) hc7) (cwV 0 hts (gdV k_5_166 k_5_167 k_5_168 k_1_2 k_5_169) rfl rfl rfl (by decide +kernel) ⟨Nat.le_of_ble_eq_true rfl, Nat.le_of_ble_eq_true rfl⟩) (zPV X hZ3 hS3 (ci := 0) g6.1 g6.2 (r := (RX0, TX0, 3)) rfl []) rfl rfl hl.1 rfl (lv_room (Nat.le_of_ble_eq_true rfl)) (D_182 W_prog_1_method_21_code_0 26 rfl rfl rfl) ⟨Nat.le_of_ble_eq_true rfl, Nat.le_of_ble_eq_true rfl⟩) hS3 (fun q _ h => zAin X hS3 q h) (zAin X hS3) (fun u7 t7 H7 locs7 ht7 hv7 hw7 hB7 hz7 hk7 hS7 => ?_)
      have hZ7 := zBack X ht7 hB7
      refine zaload_n hx hb (D_45 W_prog_1_method_21_code_0 29 rfl rfl) rfl (lv_at hl 0 rfl) ?_
      refine zaload_n hx hb (D_44 W_prog_1_method_21_code_0 30 rfl rfl) rfl (lv_at hl 1 rfl) ?_
      refine lv_aload_n hx hb (D_42 W_prog_1_method_21_code_0 31 rfl rfl) rfl (lv_at hl 2 rfl) ?_
      refine zget (ci := 12) (C := RX12) (T := TX12) (v := va_rf (zrf ad 0 (F7 12 l0 2))) (k := 2) hx hb hts inW_12 hown hK hZ7 g1.1 g1.2 rfl (by decide) k_2_129 rfl (D_180 W_prog_1_method_21_code_32 0 rfl rfl rfl) ?_
      obtain ⟨g8, hf⟩ := gif hf
      refine W.eq (g2 := F0 m 35 ls [va_rf (zrf ad 0 (F7 12 l0 2)), va_rf (zrf ad 6 r2), .ref (ad 5 r3 0)]) (by rw [zrf_pos (ad := ad) (t := 5) g8.1]; try rfl) ?_
      obtain ⟨g9, hf⟩ := gif hf
      refine W.eq (g2 := F0 m 35 ls [va_rf (zrf ad 0 (F7 12 l0 2)), .ref (ad 6 r2 0), .ref (ad 5 r3 0)]) (by rw [zrf_pos (ad := ad) (t := 6) g9.1]; try rfl) ?_
      obtain ⟨g10, hf⟩ := gif hf
      refine W.eq (g2 := F0 m 35 ls [.ref (ad 0 (F7 12 l0 2) 0), .ref (ad 6 r2 0), .ref (ad 5 r3 0)]) (by rw [zrf_pos (ad := ad) (t := 0) g10.1]; try rfl) ?_
      obtain ⟨r11, F11, B11, hc11, hf⟩ := gbind hf
      refine va_callv (va_runV (As := [.ref (ad 6 r2 0), .ref (ad 0 (F7 12 l0 2) 0)]) (rest := []) ⟨hx, hb, hml, hown, hts⟩ (c_Performance_write (l := l) hc11) (cwV 2 hts (gdV k_7_123 k_7_124 k_7_125 k_1_20 k_7_126) rfl rfl rfl (by decide +kernel) ⟨Nat.le_of_ble_eq_true rfl, Nat.le_of_ble_eq_true rfl⟩) (zPV X hZ7 hS7 (ci := 5) g8.1 g8.2 (r := (RX5, TX5, 14)) rfl [.ref (ad 6 r2 0), .ref (ad 0 (F7 12 l0 2) 0)]) rfl rfl hl.1 rfl (lv_room (Nat.le_of_ble_eq_true rfl)) (D_182 W_prog_1_method_21_code_32 3 rfl rfl rfl) ⟨Nat.le_of_ble_eq_true rfl, Nat.le_of_ble_eq_true rfl⟩) hS7 (fun q _ h => zAin X hS7 q h) (zAin X hS7) (fun u11 t11 H11 locs11 ht11 hv11 hw11 hB11 hz11 hk11 hS11 => ?_)
      have hZ11 := zBack X ht11 hB11
      refine lv_aload_n hx hb (D_42 W_prog_1_method_21_code_32 6 rfl rfl) rfl (lv_at hl 2 rfl) ?_
      refine zget (ci := 12) (C := RX12) (T := TX12) (v := va_rf (zrf ad 0 (F11 12 l0 2))) (k := 2) hx hb hts inW_12 hown hK hZ11 g1.1 g1.2 rfl (by decide) k_2_129 rfl (D_180 W_prog_1_method_21_code_32 7 rfl rfl rfl) ?_
      obtain ⟨g12, hf⟩ := gif hf
      refine zunrf g12.1 ?_
      refine zget (ci := 0) (C := RX0) (T := TX0) (v := .int (iI (F11 0 (F11 12 l0 2) 1))) (k := 1) hx hb hts inW_0 hown hK hZ11 g12.1 g12.2 rfl (by decide) k_1_46 rfl (D_180 W_prog_1_method_21_code_32 10 rfl rfl rfl) ?_
      cases hf
      exact W.iret hx hb hr (fun t ht hW => ⟨⟨_, (), rfl, rfl, by rw [ht]; exact hZ11, va_K.moved hW.alike hK⟩, hS11.F ht⟩) hS11.2.2 (D_172 W_prog_1_method_21_code_32 13 rfl rfl) hlk
    · replace hf := gpos hf h5
      exact b_S_file_20 X hf hZ3 hS3 (lv_sub hl [] rfl)

abbrev Q_Scribe_writeVoice (K : zK) (D : va_G) (ca : Nat → ClassId) (ad : Nat → Int → Nat → Nat) (L : List Nat) (r : Int) (F : zF) (B : zB) (A : Nat → Prop) : Array Value → State → Outcome → State → Prop := va_Qv (S := Unit) (fun _ => True) (fun _ => zPo D ca ad lnC K.2 L F B A) A
def f_Scribe_writeVoice_242 (K : zK) (l9 : Int) (l0 : Int) (l3 : Int) (F : zF) (B : zB) : zO := if 0 ≤ l0 ∧ l0 < K.2 7 then zbind (f_Scribe_writeRest K l0 l9 l3 F B) (fun r45 F45 B45 => if r32 (F45 7 l0 3) then if ¬ iI (zmax (F45 7 l0 3) 1) = 0 then zbind (f_Scribe_writeRest K l0 l3 ((zdv ((l3 + (F45 7 l0 3)) - 1) (zmax (F45 7 l0 3) 1)) * (F45 7 l0 3)) F45 B45) (fun r48 F48 B48 => if 0 ≤ (F48 7 l0 1) ∧ (F48 7 l0 1) < K.2 0 then zbind (f_ByteRow_putText K (F48 7 l0 1) 12 F48 B48) (fun r50 F50 B50 => some (0, F50, B50)) else none) else none else none) else none
set_option maxHeartbeats 4000000 in
set_option maxRecDepth 100000 in
theorem b_Scribe_writeVoice_242 {D : va_G} {ca : Nat → ClassId} {ad : Nat → Int → Nat → Nat} {L : List Nat} {aS vS : Nat → Nat} {A : Nat → Prop} {p : Program} {l : Launch} {e : Env} {s : State} {m : MethodId} {args : Array Value} {below : List Frame} {meth : Method} {c : Code} {K : zK} {r : Int} {F9 : zF} {B9 : zB} (X : zX D ca L aS vS A p s m args meth c prog_9_method_10_code 11 (Option.none : Option Jvm.ClassFile.FieldType) "StaveHouse$Scribe") {l9 : Int} {l0 : Int} {l3 : Int} {F : zF} {B : zB} {H : Heap} {locs : List Loc} {ls : Array Slot} (hf : f_Scribe_writeVoice_242 K l9 l0 l3 F B = some (r, F9, B9)) (hZ : zH D ca ad lnC K.2 L F B A H) (hS : va_S A s.heap H locs) (hl : lv_has ls 11 [(9, .int (iI l9)), (0, .ref (ad 7 l0 0)), (3, .int (iI l3))]) : W p l e ({ frames := 8, cells := 0, slots := 0, locals := 179 } : Room) s m args below meth c H locs 0 0 (MQ below (Q_Scribe_writeVoice K D ca ad L r F9 B9 A) args s 0 0 A) (F0 m 242 ls []) := by
  obtain ⟨hx, hb, hr, hml, hown, hts, hlk, hK, hA, hL, hX⟩ := id X
  replace hf : (if 0 ≤ l0 ∧ l0 < K.2 7 then zbind (f_Scribe_writeRest K l0 l9 l3 F B) (fun r45 F45 B45 => if r32 (F45 7 l0 3) then if ¬ iI (zmax (F45 7 l0 3) 1) = 0 then zbind (f_Scribe_writeRest K l0 l3 ((zdv ((l3 + (F45 7 l0 3)) - 1) (zmax (F45 7 l0 3) 1)) * (F45 7 l0 3)) F45 B45) (fun r48 F48 B48 => if 0 ≤ (F48 7 l0 1) ∧ (F48 7 l0 1) < K.2 0 then zbind (f_ByteRow_putText K (F48 7 l0 1) 12 F48 B48) (fun r50 F50 B50 => some (0, F50, B50)) else none) else none else none) else none) = some (r, F9, B9) := hf
  refine lv_aload_n hx hb (D_42 W_prog_9_method_10_code_224 18 rfl rfl) rfl (lv_at hl 1 rfl) ?_
  refine lv_iload hx hb (D_21 W_prog_9_method_10_code_224 19 rfl rfl) (lv_at hl 0 rfl) ?_
  refine lv_iload_n hx hb (D_29 W_prog_9_method_10_code_224 21 rfl rfl) rfl (lv_at hl 2 rfl) ?_
  obtain ⟨g44, hf⟩ := gif hf
  obtain ⟨r45, F45, B45, hc45, hf⟩ := gbind hf
  refine va_callv (va_runV (As := [.int (iI l9), .int (iI l3)]) (rest := []) ⟨hx, hb, hml, hown, hts⟩ (c_Scribe_writeRest (l := l) hc45) (cwV 2 hts (gdV k_8_191 k_8_193 ks_117 k_1_7 k_8_194) rfl rfl rfl (by decide +kernel) ⟨Nat.le_of_ble_eq_true rfl, Nat.le_of_ble_eq_true rfl⟩) (zPV X hZ hS (ci := 7) g44.1 g44.2 (r := (RX7, TX7, 9)) rfl [.int (iI l9), .int (iI l3)]) rfl rfl hl.1 rfl (lv_room (Nat.le_of_ble_eq_true rfl)) (D_182 W_prog_9_method_10_code_224 22 rfl rfl rfl) ⟨Nat.le_of_ble_eq_true rfl, Nat.le_of_ble_eq_true rfl⟩) hS (fun q _ h => zAin X hS q h) (zAin X hS) (fun u45 t45 H45 locs45 ht45 hv45 hw45 hB45 hz45 hk45 hS45 => ?_)
  have hZ45 := zBack X ht45 hB45
  refine lv_aload_n hx hb (D_42 W_prog_9_method_10_code_224 25 rfl rfl) rfl (lv_at hl 1 rfl) ?_
  refine lv_iload_n hx hb (D_29 W_prog_9_method_10_code_224 26 rfl rfl) rfl (lv_at hl 2 rfl) ?_
  refine lv_iload_n hx hb (D_29 W_prog_9_method_10_code_224 27 rfl rfl) rfl (lv_at hl 2 rfl) ?_
  refine lv_aload_n hx hb (D_42 W_prog_9_method_10_code_224 28 rfl rfl) rfl (lv_at hl 1 rfl) ?_
  refine zget (ci := 7) (C := RX7) (T := TX7) (v := .int (iI (F45 7 l0 3))) (k := 3) hx hb hts inW_7 hown hK hZ45 g44.1 g44.2 rfl (by decide) k_2_101 rfl (D_180 W_prog_9_method_10_code_224 29 rfl rfl rfl) ?_
  refine zadd hx hb (D_96 W_prog_9_method_10_code_256 0 rfl rfl) ?_
  refine lv_iconst (v := iI 1) hx hb (D_4 W_prog_9_method_10_code_256 1 rfl rfl) rfl ?_
  refine zsub hx hb (D_100 W_prog_9_method_10_code_256 2 rfl rfl) ?_
  refine lv_aload_n hx hb (D_42 W_prog_9_method_10_code_256 3 rfl rfl) rfl (lv_at hl 1 rfl) ?_
  refine zget (ci := 7) (C := RX7) (T := TX7) (v := .int (iI (F45 7 l0 3))) (k := 3) hx hb hts inW_7 hown hK hZ45 g44.1 g44.2 rfl (by decide) k_2_101 rfl (D_180 W_prog_9_method_10_code_256 4 rfl rfl rfl) ?_
  refine lv_iconst (v := iI 1) hx hb (D_4 W_prog_9_method_10_code_256 7 rfl rfl) rfl ?_
  obtain ⟨g46, hf⟩ := gif hf
  refine va_mmax hx hb (by rw [hml]; exact hl.1.symm) hown (hts _ k_8_142) (hts _ k_1_39) (hts _ k_1_3) (hts _ k_1_40) (Nat.le_of_ble_eq_true rfl) (Nat.le_of_ble_eq_true rfl) (Nat.le_of_ble_eq_true rfl) (Nat.le_of_ble_eq_true rfl) (D_184 W_prog_9_method_10_code_256 8 rfl rfl rfl) ?_
  rw [zmax_e g46 (by decide)]
  obtain ⟨g47, hf⟩ := gif hf
  refine zdv_r hx hb g47 (D_108 W_prog_9_method_10_code_256 11 rfl rfl) ?_
  refine lv_aload_n hx hb (D_42 W_prog_9_method_10_code_256 12 rfl rfl) rfl (lv_at hl 1 rfl) ?_
  refine zget (ci := 7) (C := RX7) (T := TX7) (v := .int (iI (F45 7 l0 3))) (k := 3) hx hb hts inW_7 hown hK hZ45 g44.1 g44.2 rfl (by decide) k_2_101 rfl (D_180 W_prog_9_method_10_code_256 13 rfl rfl rfl) ?_
  refine zmul hx hb (D_104 W_prog_9_method_10_code_256 16 rfl rfl) ?_
  obtain ⟨r48, F48, B48, hc48, hf⟩ := gbind hf
  refine va_callv (va_runV (As := [.int (iI l3), .int (iI ((zdv ((l3 + (F45 7 l0 3)) - 1) (zmax (F45 7 l0 3) 1)) * (F45 7 l0 3)))]) (rest := []) ⟨hx, hb, hml, hown, hts⟩ (c_Scribe_writeRest (l := l) hc48) (cwV 2 hts (gdV k_8_191 k_8_193 ks_117 k_1_7 k_8_194) rfl rfl rfl (by decide +kernel) ⟨Nat.le_of_ble_eq_true rfl, Nat.le_of_ble_eq_true rfl⟩) (zPV X hZ45 hS45 (ci := 7) g44.1 g44.2 (r := (RX7, TX7, 9)) rfl [.int (iI l3), .int (iI ((zdv ((l3 + (F45 7 l0 3)) - 1) (zmax (F45 7 l0 3) 1)) * (F45 7 l0 3)))]) rfl rfl hl.1 rfl (lv_room (Nat.le_of_ble_eq_true rfl)) (D_182 W_prog_9_method_10_code_256 17 rfl rfl rfl) ⟨Nat.le_of_ble_eq_true rfl, Nat.le_of_ble_eq_true rfl⟩) hS45 (fun q _ h => zAin X hS45 q h) (zAin X hS45) (fun u48 t48 H48 locs48 ht48 hv48 hw48 hB48 hz48 hk48 hS48 => ?_)
  have hZ48 := zBack X ht48 hB48
  refine lv_aload_n hx hb (D_42 W_prog_9_method_10_code_256 20 rfl rfl) rfl (lv_at hl 1 rfl) ?_
  refine zget (ci := 7) (C := RX7) (T := TX7) (v := va_rf (zrf ad 0 (F48 7 l0 1))) (k := 1) hx hb hts inW_7 hown hK hZ48 g44.1 g44.2 rfl (by decide) k_2_99 rfl (D_180 W_prog_9_method_10_code_256 21 rfl rfl rfl) ?_
  refine va_ldcS hx hb hown (hX.2.2.2.2.1 12 _ rfl).1 (D_18 W_prog_9_method_10_code_256 24 rfl rfl) ?_
  obtain ⟨g49, hf⟩ := gif hf
  refine W.eq (g2 := F0 m 282 ls [.ref (aS 12), .ref (ad 0 (F48 7 l0 1) 0)]) (by rw [zrf_pos (ad := ad) (t := 0) g49.1]; try rfl) ?_
  obtain ⟨r50, F50, B50, hc50, hf⟩ := gbind hf
  refine va_callv (va_runV (As := [.ref (aS 12)]) (rest := []) ⟨hx, hb, hml, hown, hts⟩ (c_ByteRow_putText (l := l) hc50) (cwV 1 hts (gdV k_8_172 k_7_129 k_7_130 k_1_2 k_7_131) rfl rfl rfl (by decide +kernel) ⟨Nat.le_of_ble_eq_true rfl, Nat.le_of_ble_eq_true rfl⟩) (zPV X hZ48 hS48 (ci := 0) g49.1 g49.2 (r := (RX0, TX0, 3)) rfl [.ref (aS 12)]) rfl rfl hl.1 rfl (lv_room (Nat.le_of_ble_eq_true rfl)) (D_182 W_prog_9_method_10_code_256 26 rfl rfl rfl) ⟨Nat.le_of_ble_eq_true rfl, Nat.le_of_ble_eq_true rfl⟩) hS48 (fun q _ h => zAin X hS48 q h) (zAin X hS48) (fun u50 t50 H50 locs50 ht50 hv50 hw50 hB50 hz50 hk50 hS50 => ?_)
  have hZ50 := zBack X ht50 hB50
  cases hf
  exact W.vret hx hb hr (fun t ht hW => ⟨⟨(), rfl, trivial, by rw [ht]; exact hZ50, va_K.moved hW.alike hK⟩, hS50.F ht⟩) hS50.2.2 (D_177 W_prog_9_method_10_code_256 29 rfl rfl) hlk

def f_Scribe_writeVoice_157 (K : zK) : Nat → Int → Int → Int → Int → Int → Int → zF → zB → zO
  | 0, _, _, _, _, _, _, _, _ => none
  | n + 1, l10, l9, l8, l4, l0, l3, F, B => if 0 ≤ l0 ∧ l0 < K.2 7 then if 0 ≤ (F 7 l0 0) ∧ (F 7 l0 0) < K.2 8 then if r32 l10 then if r32 (F 8 (F 7 l0 0) 2) then (if (F 8 (F 7 l0 0) 2) ≤ l10 then f_Scribe_writeVoice_242 K l9 l0 l3 F B else if r32 (F 7 l0 7) then if r32 l4 then (if l4 ≤ (F 7 l0 7) then f_Scribe_writeVoice_242 K l9 l0 l3 F B else zbind (f_Scribe_gatherEvent K l0 (F 7 l0 7) l4 F B) (fun r40 F40 B40 => zbind (f_Scribe_writeRest K l0 l9 ((F40 7 l0 5) * l8) F40 B40) (fun r41 F41 B41 => zbind (f_Scribe_spellEvent K l0 F41 B41) (fun r42 F42 B42 => zbind (f_Scribe_writeSpan K l0 ((F42 7 l0 5) * l8) ((F42 7 l0 6) * l8) F42 B42) (fun r43 F43 B43 => f_Scribe_writeVoice_157 K n (l10 + 1) ((F43 7 l0 6) * l8) l8 l4 l0 l3 F43 B43))))) else none else none) else none else none else none else none
set_option maxHeartbeats 4000000 in
set_option maxRecDepth 100000 in
theorem b_Scribe_writeVoice_157 {D : va_G} {ca : Nat → ClassId} {ad : Nat → Int → Nat → Nat} {L : List Nat} {aS vS : Nat → Nat} {A : Nat → Prop} {p : Program} {l : Launch} {e : Env} {s : State} {m : MethodId} {args : Array Value} {below : List Frame} {meth : Method} {c : Code} {K : zK} {r : Int} {F9 : zF} {B9 : zB} (X : zX D ca L aS vS A p s m args meth c prog_9_method_10_code 11 (Option.none : Option Jvm.ClassFile.FieldType) "StaveHouse$Scribe") : ∀ {n : Nat} {l10 : Int} {l9 : Int} {l8 : Int} {l4 : Int} {l0 : Int} {l3 : Int} {F : zF} {B : zB} {H : Heap} {locs : List Loc} {ls : Array Slot}, f_Scribe_writeVoice_157 K n l10 l9 l8 l4 l0 l3 F B = some (r, F9, B9) → zH D ca ad lnC K.2 L F B A H → va_S A s.heap H locs → lv_has ls 11 [(10, .int (iI l10)), (9, .int (iI l9)), (8, .int (iI l8)), (4, .int (iI l4)), (0, .ref (ad 7 l0 0)), (3, .int (iI l3))] → W p l e ({ frames := 8, cells := 0, slots := 0, locals := 179 } : Room) s m args below meth c H locs 0 0 (MQ below (Q_Scribe_writeVoice K D ca ad L r F9 B9 A) args s 0 0 A) (F0 m 157 ls []) := by
  obtain ⟨hx, hb, hr, hml, hown, hts, hlk, hK, hA, hL, hX⟩ := id X
  intro n
  induction n with
  | zero =>
    intros
    rename_i hf _ _ _
    cases hf
  | succ n ih =>
    intro l10 l9 l8 l4 l0 l3 F B H locs ls hf hZ hS hl
    replace hf : (if 0 ≤ l0 ∧ l0 < K.2 7 then if 0 ≤ (F 7 l0 0) ∧ (F 7 l0 0) < K.2 8 then if r32 l10 then if r32 (F 8 (F 7 l0 0) 2) then (if (F 8 (F 7 l0 0) 2) ≤ l10 then f_Scribe_writeVoice_242 K l9 l0 l3 F B else if r32 (F 7 l0 7) then if r32 l4 then (if l4 ≤ (F 7 l0 7) then f_Scribe_writeVoice_242 K l9 l0 l3 F B else zbind (f_Scribe_gatherEvent K l0 (F 7 l0 7) l4 F B) (fun r40 F40 B40 => zbind (f_Scribe_writeRest K l0 l9 ((F40 7 l0 5) * l8) F40 B40) (fun r41 F41 B41 => zbind (f_Scribe_spellEvent K l0 F41 B41) (fun r42 F42 B42 => zbind (f_Scribe_writeSpan K l0 ((F42 7 l0 5) * l8) ((F42 7 l0 6) * l8) F42 B42) (fun r43 F43 B43 => f_Scribe_writeVoice_157 K n (l10 + 1) ((F43 7 l0 6) * l8) l8 l4 l0 l3 F43 B43))))) else none else none) else none else none else none else none) = some (r, F9, B9) := hf
    refine lv_iload hx hb (D_21 W_prog_9_method_10_code_128 29 rfl rfl) (lv_at hl 0 rfl) ?_
    refine lv_aload_n hx hb (D_42 W_prog_9_method_10_code_128 31 rfl rfl) rfl (lv_at hl 4 rfl) ?_
    obtain ⟨g31, hf⟩ := gif hf
    refine zget (ci := 7) (C := RX7) (T := TX7) (v := va_rf (zrf ad 8 (F 7 l0 0))) (k := 0) hx hb hts inW_7 hown hK hZ g31.1 g31.2 rfl (by decide) k_2_98 rfl (D_180 W_prog_9_method_10_code_160 0 rfl rfl rfl) ?_
    obtain ⟨g33, hf⟩ := gif hf
    refine zunrf g33.1 ?_
    refine zget (ci := 8) (C := RX8) (T := TX8) (v := .int (iI (F 8 (F 7 l0 0) 2))) (k := 2) hx hb hts inW_8 hown hK hZ g33.1 g33.2 rfl (by decide) k_7_224 rfl (D_180 W_prog_9_method_10_code_160 3 rfl rfl rfl) ?_
    obtain ⟨g34, hf⟩ := gif hf
    obtain ⟨g35, hf⟩ := gif hf
    refine zge (tgt := 242) hx hb g34 g35 (D_162 W_prog_9_method_10_code_160 6 rfl rfl rfl) (by decide) (fun h36 => ?_) (fun h36 => ?_)
    · replace hf := gpos hf h36
      exact b_Scribe_writeVoice_242 X hf hZ hS (lv_sub hl [1, 4, 5] rfl)
    · replace hf := gneg hf h36
      refine lv_aload_n hx hb (D_42 W_prog_9_method_10_code_160 9 rfl rfl) rfl (lv_at hl 4 rfl) ?_
      refine zget (ci := 7) (C := RX7) (T := TX7) (v := .int (iI (F 7 l0 7))) (k := 7) hx hb hts inW_7 hown hK hZ g31.1 g31.2 rfl (by decide) k_2_105 rfl (D_180 W_prog_9_method_10_code_160 10 rfl rfl rfl) ?_
      refine lv_iload hx hb (D_21 W_prog_9_method_10_code_160 13 rfl rfl) (lv_at hl 3 rfl) ?_
      obtain ⟨g37, hf⟩ := gif hf
      obtain ⟨g38, hf⟩ := gif hf
      refine zge (tgt := 242) hx hb g37 g38 (D_162 W_prog_9_method_10_code_160 15 rfl rfl rfl) (by decide) (fun h39 => ?_) (fun h39 => ?_)
      · replace hf := gpos hf h39
        exact b_Scribe_writeVoice_242 X hf hZ hS (lv_sub hl [1, 4, 5] rfl)
      · replace hf := gneg hf h39
        refine lv_aload_n hx hb (D_42 W_prog_9_method_10_code_160 18 rfl rfl) rfl (lv_at hl 4 rfl) ?_
        refine lv_aload_n hx hb (D_42 W_prog_9_method_10_code_160 19 rfl rfl) rfl (lv_at hl 4 rfl) ?_
        refine zget (ci := 7) (C := RX7) (T := TX7) (v := .int (iI (F 7 l0 7))) (k := 7) hx hb hts inW_7 hown hK hZ g31.1 g31.2 rfl (by decide) k_2_105 rfl (D_180 W_prog_9_method_10_code_160 20 rfl rfl rfl) ?_
        refine lv_iload hx hb (D_21 W_prog_9_method_10_code_160 23 rfl rfl) (lv_at hl 3 rfl) ?_
        obtain ⟨r40, F40, B40, hc40, hf⟩ := gbind hf
        refine va_callv (va_runV (As := [.int (iI (F 7 l0 7)), .int (iI l4)]) (rest := []) ⟨hx, hb, hml, hown, hts⟩ (c_Scribe_gatherEvent (l := l) hc40) (cwV 2 hts (gdV k_8_152 k_8_154 ks_113 k_1_7 k_8_155) rfl rfl rfl (by decide +kernel) ⟨Nat.le_of_ble_eq_true rfl, Nat.le_of_ble_eq_true rfl⟩) (zPV X hZ hS (ci := 7) g31.1 g31.2 (r := (RX7, TX7, 9)) rfl [.int (iI (F 7 l0 7)), .int (iI l4)]) rfl rfl hl.1 rfl (lv_room (Nat.le_of_ble_eq_true rfl)) (D_182 W_prog_9_method_10_code_160 25 rfl rfl rfl) ⟨Nat.le_of_ble_eq_true rfl, Nat.le_of_ble_eq_true rfl⟩) hS (fun q _ h => zAin X hS q h) (zAin X hS) (fun u40 t40 H40 locs40 ht40 hv40 hw40 hB40 hz40 hk40 hS40 => ?_)
        have hZ40 := zBack X ht40 hB40
        refine lv_aload_n hx hb (D_42 W_prog_9_method_10_code_160 28 rfl rfl) rfl (lv_at hl 4 rfl) ?_
        refine lv_iload hx hb (D_21 W_prog_9_method_10_code_160 29 rfl rfl) (lv_at hl 1 rfl) ?_
        refine lv_aload_n hx hb (D_42 W_prog_9_method_10_code_160 31 rfl rfl) rfl (lv_at hl 4 rfl) ?_
        refine zget (ci := 7) (C := RX7) (T := TX7) (v := .long (lI (F40 7 l0 5))) (k := 5) hx hb hts inW_7 hown hK hZ40 g31.1 g31.2 rfl (by decide) k_2_103 rfl (D_180 W_prog_9_method_10_code_192 0 rfl rfl rfl) ?_
        refine zl2iw hx hb (D_136 W_prog_9_method_10_code_192 3 rfl rfl) ?_
        refine lv_iload hx hb (D_21 W_prog_9_method_10_code_192 4 rfl rfl) (lv_at hl 2 rfl) ?_
        refine zmul hx hb (D_104 W_prog_9_method_10_code_192 6 rfl rfl) ?_
        obtain ⟨r41, F41, B41, hc41, hf⟩ := gbind hf
        refine va_callv (va_runV (As := [.int (iI l9), .int (iI ((F40 7 l0 5) * l8))]) (rest := []) ⟨hx, hb, hml, hown, hts⟩ (c_Scribe_writeRest (l := l) hc41) (cwV 2 hts (gdV k_8_191 k_8_193 ks_117 k_1_7 k_8_194) rfl rfl rfl (by decide +kernel) ⟨Nat.le_of_ble_eq_true rfl, Nat.le_of_ble_eq_true rfl⟩) (zPV X hZ40 hS40 (ci := 7) g31.1 g31.2 (r := (RX7, TX7, 9)) rfl [.int (iI l9), .int (iI ((F40 7 l0 5) * l8))]) rfl rfl hl.1 rfl (lv_room (Nat.le_of_ble_eq_true rfl)) (D_182 W_prog_9_method_10_code_192 7 rfl rfl rfl) ⟨Nat.le_of_ble_eq_true rfl, Nat.le_of_ble_eq_true rfl⟩) hS40 (fun q _ h => zAin X hS40 q h) (zAin X hS40) (fun u41 t41 H41 locs41 ht41 hv41 hw41 hB41 hz41 hk41 hS41 => ?_)
        have hZ41 := zBack X ht41 hB41
        refine lv_aload_n hx hb (D_42 W_prog_9_method_10_code_192 10 rfl rfl) rfl (lv_at hl 4 rfl) ?_
        obtain ⟨r42, F42, B42, hc42, hf⟩ := gbind hf
        refine va_callv (va_runV (As := []) (rest := []) ⟨hx, hb, hml, hown, hts⟩ (c_Scribe_spellEvent (l := l) hc42) (cwV 0 hts (gdV k_8_222 k_8_224 ks_121 k_1_7 k_8_225) rfl rfl rfl (by decide +kernel) ⟨Nat.le_of_ble_eq_true rfl, Nat.le_of_ble_eq_true rfl⟩) (zPV X hZ41 hS41 (ci := 7) g31.1 g31.2 (r := (RX7, TX7, 9)) rfl []) rfl rfl hl.1 rfl (lv_room (Nat.le_of_ble_eq_true rfl)) (D_182 W_prog_9_method_10_code_192 11 rfl rfl rfl) ⟨Nat.le_of_ble_eq_true rfl, Nat.le_of_ble_eq_true rfl⟩) hS41 (fun q _ h => zAin X hS41 q h) (zAin X hS41) (fun u42 t42 H42 locs42 ht42 hv42 hw42 hB42 hz42 hk42 hS42 => ?_)
        have hZ42 := zBack X ht42 hB42
        refine lv_aload_n hx hb (D_42 W_prog_9_method_10_code_192 14 rfl rfl) rfl (lv_at hl 4 rfl) ?_
        refine lv_aload_n hx hb (D_42 W_prog_9_method_10_code_192 15 rfl rfl) rfl (lv_at hl 4 rfl) ?_
        refine zget (ci := 7) (C := RX7) (T := TX7) (v := .long (lI (F42 7 l0 5))) (k := 5) hx hb hts inW_7 hown hK hZ42 g31.1 g31.2 rfl (by decide) k_2_103 rfl (D_180 W_prog_9_method_10_code_192 16 rfl rfl rfl) ?_
        refine zl2iw hx hb (D_136 W_prog_9_method_10_code_192 19 rfl rfl) ?_
        refine lv_iload hx hb (D_21 W_prog_9_method_10_code_192 20 rfl rfl) (lv_at hl 2 rfl) ?_
        refine zmul hx hb (D_104 W_prog_9_method_10_code_192 22 rfl rfl) ?_
        refine lv_aload_n hx hb (D_42 W_prog_9_method_10_code_192 23 rfl rfl) rfl (lv_at hl 4 rfl) ?_
        refine zget (ci := 7) (C := RX7) (T := TX7) (v := .long (lI (F42 7 l0 6))) (k := 6) hx hb hts inW_7 hown hK hZ42 g31.1 g31.2 rfl (by decide) k_2_104 rfl (D_180 W_prog_9_method_10_code_192 24 rfl rfl rfl) ?_
        refine zl2iw hx hb (D_136 W_prog_9_method_10_code_192 27 rfl rfl) ?_
        refine lv_iload hx hb (D_21 W_prog_9_method_10_code_192 28 rfl rfl) (lv_at hl 2 rfl) ?_
        refine zmul hx hb (D_104 W_prog_9_method_10_code_192 30 rfl rfl) ?_
        obtain ⟨r43, F43, B43, hc43, hf⟩ := gbind hf
        refine va_callv (va_runV (As := [.int (iI ((F42 7 l0 5) * l8)), .int (iI ((F42 7 l0 6) * l8))]) (rest := []) ⟨hx, hb, hml, hown, hts⟩ (c_Scribe_writeSpan (l := l) hc43) (cwV 2 hts (gdV k_8_195 k_8_197 ks_118 k_1_7 k_8_198) rfl rfl rfl (by decide +kernel) ⟨Nat.le_of_ble_eq_true rfl, Nat.le_of_ble_eq_true rfl⟩) (zPV X hZ42 hS42 (ci := 7) g31.1 g31.2 (r := (RX7, TX7, 9)) rfl [.int (iI ((F42 7 l0 5) * l8)), .int (iI ((F42 7 l0 6) * l8))]) rfl rfl hl.1 rfl (lv_room (Nat.le_of_ble_eq_true rfl)) (D_182 W_prog_9_method_10_code_192 31 rfl rfl rfl) ⟨Nat.le_of_ble_eq_true rfl, Nat.le_of_ble_eq_true rfl⟩) hS42 (fun q _ h => zAin X hS42 q h) (zAin X hS42) (fun u43 t43 H43 locs43 ht43 hv43 hw43 hB43 hz43 hk43 hS43 => ?_)
        have hZ43 := zBack X ht43 hB43
        refine lv_aload_n hx hb (D_42 W_prog_9_method_10_code_224 2 rfl rfl) rfl (lv_at hl 4 rfl) ?_
        refine zget (ci := 7) (C := RX7) (T := TX7) (v := .long (lI (F43 7 l0 6))) (k := 6) hx hb hts inW_7 hown hK hZ43 g31.1 g31.2 rfl (by decide) k_2_104 rfl (D_180 W_prog_9_method_10_code_224 3 rfl rfl rfl) ?_
        refine zl2iw hx hb (D_136 W_prog_9_method_10_code_224 6 rfl rfl) ?_
        refine lv_iload hx hb (D_21 W_prog_9_method_10_code_224 7 rfl rfl) (lv_at hl 2 rfl) ?_
        refine zmul hx hb (D_104 W_prog_9_method_10_code_224 9 rfl rfl) ?_
        refine lv_istore (lv' := [(9, .int (iI ((F43 7 l0 6) * l8))), (10, .int (iI l10)), (8, .int (iI l8)), (4, .int (iI l4)), (0, .ref (ad 7 l0 0)), (3, .int (iI l3))]) hx hb (D_54 W_prog_9_method_10_code_224 10 rfl rfl) hl (by decide) rfl (fun ls hl => ?_)
        refine lv_iinc (v := iI (l10 + 1)) (lv' := [(10, .int (iI (l10 + 1))), (9, .int (iI ((F43 7 l0 6) * l8))), (8, .int (iI l8)), (4, .int (iI l4)), (0, .ref (ad 7 l0 0)), (3, .int (iI l3))]) hx hb d_9_10_236 hl (k := 1) rfl (iI_add _ 1) (by decide) rfl (fun ls hl => ?_)
        refine lv_goto (tgt := 157) hx hb (D_167 W_prog_9_method_10_code_224 15 rfl rfl rfl) (by decide) ?_
        exact ih hf hZ43 hS43 (lv_sub hl [0, 1, 2, 3, 4, 5] rfl)

def f_Scribe_writeVoice_89 (K : zK) (l4 : Int) (l0 : Int) (l1 : Int) (l3 : Int) (s0 : Int) (s1 : Nat) (F : zF) (B : zB) : zO := if 0 ≤ s0 ∧ s0 < K.2 0 then zbind (f_ByteRow_putText K s0 s1 F B) (fun r19 F19 B19 => if 0 ≤ l0 ∧ l0 < K.2 7 then if 0 ≤ (F19 7 l0 0) ∧ (F19 7 l0 0) < K.2 8 then if 0 ≤ l1 ∧ l1 < 400 then if 0 ≤ (B19 8 (F19 7 l0 0) 220 l1) ∧ (B19 8 (F19 7 l0 0) 220 l1) < 8 then if 0 ≤ (F19 7 l0 1) ∧ (F19 7 l0 1) < K.2 0 then if r32 (B19 8 (F19 7 l0 0) 3 (B19 8 (F19 7 l0 0) 220 l1)) then zbind (f_ByteRow_putDecimal K (F19 7 l0 1) (zmax (B19 8 (F19 7 l0 0) 3 (B19 8 (F19 7 l0 0) 220 l1)) 0) F19 B19) (fun r26 F26 B26 => if 0 ≤ (F26 7 l0 1) ∧ (F26 7 l0 1) < K.2 0 then zbind (f_ByteRow_putText K (F26 7 l0 1) 11 F26 B26) (fun r28 F28 B28 => if ¬ iI (F28 7 l0 2) = 0 then f_Scribe_writeVoice_157 K K.1 0 0 (zdv 512 (F28 7 l0 2)) l4 l0 l3 (zup3 F28 7 l0 7 l1) B28 else none) else none) else none else none else none else none else none else none) else none
set_option maxHeartbeats 4000000 in
set_option maxRecDepth 100000 in
theorem b_Scribe_writeVoice_89 {D : va_G} {ca : Nat → ClassId} {ad : Nat → Int → Nat → Nat} {L : List Nat} {aS vS : Nat → Nat} {A : Nat → Prop} {p : Program} {l : Launch} {e : Env} {s : State} {m : MethodId} {args : Array Value} {below : List Frame} {meth : Method} {c : Code} {K : zK} {r : Int} {F9 : zF} {B9 : zB} (X : zX D ca L aS vS A p s m args meth c prog_9_method_10_code 11 (Option.none : Option Jvm.ClassFile.FieldType) "StaveHouse$Scribe") {l4 : Int} {l0 : Int} {l1 : Int} {l3 : Int} {s0 : Int} {s1 : Nat} {F : zF} {B : zB} {H : Heap} {locs : List Loc} {ls : Array Slot} (hf : f_Scribe_writeVoice_89 K l4 l0 l1 l3 s0 s1 F B = some (r, F9, B9)) (hZ : zH D ca ad lnC K.2 L F B A H) (hS : va_S A s.heap H locs) (hl : lv_has ls 11 [(4, .int (iI l4)), (0, .ref (ad 7 l0 0)), (1, .int (iI l1)), (3, .int (iI l3))]) : W p l e ({ frames := 8, cells := 0, slots := 0, locals := 179 } : Room) s m args below meth c H locs 0 0 (MQ below (Q_Scribe_writeVoice K D ca ad L r F9 B9 A) args s 0 0 A) (F0 m 89 ls [.ref (aS s1), va_rf (zrf ad 0 s0)]) := by
  obtain ⟨hx, hb, hr, hml, hown, hts, hlk, hK, hA, hL, hX⟩ := id X
  replace hf : (if 0 ≤ s0 ∧ s0 < K.2 0 then zbind (f_ByteRow_putText K s0 s1 F B) (fun r19 F19 B19 => if 0 ≤ l0 ∧ l0 < K.2 7 then if 0 ≤ (F19 7 l0 0) ∧ (F19 7 l0 0) < K.2 8 then if 0 ≤ l1 ∧ l1 < 400 then if 0 ≤ (B19 8 (F19 7 l0 0) 220 l1) ∧ (B19 8 (F19 7 l0 0) 220 l1) < 8 then if 0 ≤ (F19 7 l0 1) ∧ (F19 7 l0 1) < K.2 0 then if r32 (B19 8 (F19 7 l0 0) 3 (B19 8 (F19 7 l0 0) 220 l1)) then zbind (f_ByteRow_putDecimal K (F19 7 l0 1) (zmax (B19 8 (F19 7 l0 0) 3 (B19 8 (F19 7 l0 0) 220 l1)) 0) F19 B19) (fun r26 F26 B26 => if 0 ≤ (F26 7 l0 1) ∧ (F26 7 l0 1) < K.2 0 then zbind (f_ByteRow_putText K (F26 7 l0 1) 11 F26 B26) (fun r28 F28 B28 => if ¬ iI (F28 7 l0 2) = 0 then f_Scribe_writeVoice_157 K K.1 0 0 (zdv 512 (F28 7 l0 2)) l4 l0 l3 (zup3 F28 7 l0 7 l1) B28 else none) else none) else none else none else none else none else none else none) else none) = some (r, F9, B9) := hf
  obtain ⟨g18, hf⟩ := gif hf
  refine W.eq (g2 := F0 m 89 ls [.ref (aS s1), .ref (ad 0 s0 0)]) (by rw [zrf_pos (ad := ad) (t := 0) g18.1]; try rfl) ?_
  obtain ⟨r19, F19, B19, hc19, hf⟩ := gbind hf
  refine va_callv (va_runV (As := [.ref (aS s1)]) (rest := []) ⟨hx, hb, hml, hown, hts⟩ (c_ByteRow_putText (l := l) hc19) (cwV 1 hts (gdV k_8_172 k_7_129 k_7_130 k_1_2 k_7_131) rfl rfl rfl (by decide +kernel) ⟨Nat.le_of_ble_eq_true rfl, Nat.le_of_ble_eq_true rfl⟩) (zPV X hZ hS (ci := 0) g18.1 g18.2 (r := (RX0, TX0, 3)) rfl [.ref (aS s1)]) rfl rfl hl.1 rfl (lv_room (Nat.le_of_ble_eq_true rfl)) (D_182 W_prog_9_method_10_code_64 25 rfl rfl rfl) ⟨Nat.le_of_ble_eq_true rfl, Nat.le_of_ble_eq_true rfl⟩) hS (fun q _ h => zAin X hS q h) (zAin X hS) (fun u19 t19 H19 locs19 ht19 hv19 hw19 hB19 hz19 hk19 hS19 => ?_)
  have hZ19 := zBack X ht19 hB19
  refine lv_aload_n hx hb (D_42 W_prog_9_method_10_code_64 28 rfl rfl) rfl (lv_at hl 1 rfl) ?_
  obtain ⟨g20, hf⟩ := gif hf
  refine zget (ci := 7) (C := RX7) (T := TX7) (v := va_rf (zrf ad 8 (F19 7 l0 0))) (k := 0) hx hb hts inW_7 hown hK hZ19 g20.1 g20.2 rfl (by decide) k_2_98 rfl (D_180 W_prog_9_method_10_code_64 29 rfl rfl rfl) ?_
  obtain ⟨g21, hf⟩ := gif hf
  refine zunrf g21.1 ?_
  refine zget (ci := 8) (C := RX8) (T := TX8) (v := .ref (ad 8 (F19 7 l0 0) (3 + 1))) (k := 3) hx hb hts inW_8 hown hK hZ19 g21.1 g21.2 rfl (by decide) k_7_227 rfl (D_180 W_prog_9_method_10_code_96 0 rfl rfl rfl) ?_
  refine lv_aload_n hx hb (D_42 W_prog_9_method_10_code_96 3 rfl rfl) rfl (lv_at hl 1 rfl) ?_
  refine zget (ci := 7) (C := RX7) (T := TX7) (v := va_rf (zrf ad 8 (F19 7 l0 0))) (k := 0) hx hb hts inW_7 hown hK hZ19 g20.1 g20.2 rfl (by decide) k_2_98 rfl (D_180 W_prog_9_method_10_code_96 4 rfl rfl rfl) ?_
  refine zunrf g21.1 ?_
  refine zget (ci := 8) (C := RX8) (T := TX8) (v := .ref (ad 8 (F19 7 l0 0) (1 + 1))) (k := 1) hx hb hts inW_8 hown hK hZ19 g21.1 g21.2 rfl (by decide) k_7_221 rfl (D_180 W_prog_9_method_10_code_96 7 rfl rfl rfl) ?_
  refine lv_iconst (v := iI 0) hx hb (D_3 W_prog_9_method_10_code_96 10 rfl rfl) rfl ?_
  refine zaldQ (t := 1) (ci := 8) (k := 1) hx hb hK rfl hZ19 g21.1 g21.2 rfl (Nat.le_of_ble_eq_true rfl) (by decide) (by decide) (D_50 W_prog_9_method_10_code_96 11 rfl rfl) ?_
  refine W.eq (g2 := F0 m 108 ls [.ref (ad 8 (F19 7 l0 0) (220 + 1)), .ref (ad 8 (F19 7 l0 0) (3 + 1))]) rfl ?_
  refine lv_iload_n hx hb (D_27 W_prog_9_method_10_code_96 12 rfl rfl) rfl (lv_at hl 2 rfl) ?_
  obtain ⟨g22, hf⟩ := gif hf
  refine zlald (ci := 8) (k := 220) hx hb hK rfl hZ19 g21.1 g21.2 rfl (Nat.le_of_ble_eq_true rfl) g22.1 g22.2 (D_47 W_prog_9_method_10_code_96 13 rfl rfl) ?_
  refine zl2iw hx hb (D_136 W_prog_9_method_10_code_96 14 rfl rfl) ?_
  obtain ⟨g23, hf⟩ := gif hf
  refine zald (ci := 8) (k := 3) hx hb hK rfl hZ19 g21.1 g21.2 rfl (Nat.le_of_ble_eq_true rfl) g23.1 g23.2 (D_46 W_prog_9_method_10_code_96 15 rfl rfl) ?_
  refine lv_istore (lv' := [(7, .int (iI (B19 8 (F19 7 l0 0) 3 (B19 8 (F19 7 l0 0) 220 l1)))), (4, .int (iI l4)), (0, .ref (ad 7 l0 0)), (1, .int (iI l1)), (3, .int (iI l3))]) hx hb (D_54 W_prog_9_method_10_code_96 16 rfl rfl) hl (by decide) rfl (fun ls hl => ?_)
  refine lv_aload_n hx hb (D_42 W_prog_9_method_10_code_96 18 rfl rfl) rfl (lv_at hl 2 rfl) ?_
  refine zget (ci := 7) (C := RX7) (T := TX7) (v := va_rf (zrf ad 0 (F19 7 l0 1))) (k := 1) hx hb hts inW_7 hown hK hZ19 g20.1 g20.2 rfl (by decide) k_2_99 rfl (D_180 W_prog_9_method_10_code_96 19 rfl rfl rfl) ?_
  refine lv_iload hx hb (D_21 W_prog_9_method_10_code_96 22 rfl rfl) (lv_at hl 0 rfl) ?_
  refine lv_iconst (v := iI 0) hx hb (D_3 W_prog_9_method_10_code_96 24 rfl rfl) rfl ?_
  obtain ⟨g24, hf⟩ := gif hf
  refine W.eq (g2 := F0 m 121 ls [.int (iI 0), .int (iI (B19 8 (F19 7 l0 0) 3 (B19 8 (F19 7 l0 0) 220 l1))), .ref (ad 0 (F19 7 l0 1) 0)]) (by rw [zrf_pos (ad := ad) (t := 0) g24.1]; try rfl) ?_
  obtain ⟨g25, hf⟩ := gif hf
  refine va_mmax hx hb (by rw [hml]; exact hl.1.symm) hown (hts _ k_8_142) (hts _ k_1_39) (hts _ k_1_3) (hts _ k_1_40) (Nat.le_of_ble_eq_true rfl) (Nat.le_of_ble_eq_true rfl) (Nat.le_of_ble_eq_true rfl) (Nat.le_of_ble_eq_true rfl) (D_184 W_prog_9_method_10_code_96 25 rfl rfl rfl) ?_
  rw [zmax_e g25 (by decide)]
  obtain ⟨r26, F26, B26, hc26, hf⟩ := gbind hf
  refine va_callv (va_runV (As := [.int (iI (zmax (B19 8 (F19 7 l0 0) 3 (B19 8 (F19 7 l0 0) 220 l1)) 0))]) (rest := []) ⟨hx, hb, hml, hown, hts⟩ (c_ByteRow_putDecimal (l := l) hc26) (cwV 1 hts (gdV k_8_174 k_8_175 k_8_176 k_1_2 k_8_177) rfl rfl rfl (by decide +kernel) ⟨Nat.le_of_ble_eq_true rfl, Nat.le_of_ble_eq_true rfl⟩) (zPV X hZ19 hS19 (ci := 0) g24.1 g24.2 (r := (RX0, TX0, 3)) rfl [.int (iI (zmax (B19 8 (F19 7 l0 0) 3 (B19 8 (F19 7 l0 0) 220 l1)) 0))]) rfl rfl hl.1 rfl (lv_room (Nat.le_of_ble_eq_true rfl)) (D_182 W_prog_9_method_10_code_96 28 rfl rfl rfl) ⟨Nat.le_of_ble_eq_true rfl, Nat.le_of_ble_eq_true rfl⟩) hS19 (fun q _ h => zAin X hS19 q h) (zAin X hS19) (fun u26 t26 H26 locs26 ht26 hv26 hw26 hB26 hz26 hk26 hS26 => ?_)
  have hZ26 := zBack X ht26 hB26
  refine lv_aload_n hx hb (D_42 W_prog_9_method_10_code_96 31 rfl rfl) rfl (lv_at hl 2 rfl) ?_
  refine zget (ci := 7) (C := RX7) (T := TX7) (v := va_rf (zrf ad 0 (F26 7 l0 1))) (k := 1) hx hb hts inW_7 hown hK hZ26 g20.1 g20.2 rfl (by decide) k_2_99 rfl (D_180 W_prog_9_method_10_code_128 0 rfl rfl rfl) ?_
  refine va_ldcS hx hb hown (hX.2.2.2.2.1 11 _ rfl).1 (D_18 W_prog_9_method_10_code_128 3 rfl rfl) ?_
  obtain ⟨g27, hf⟩ := gif hf
  refine W.eq (g2 := F0 m 133 ls [.ref (aS 11), .ref (ad 0 (F26 7 l0 1) 0)]) (by rw [zrf_pos (ad := ad) (t := 0) g27.1]; try rfl) ?_
  obtain ⟨r28, F28, B28, hc28, hf⟩ := gbind hf
  refine va_callv (va_runV (As := [.ref (aS 11)]) (rest := []) ⟨hx, hb, hml, hown, hts⟩ (c_ByteRow_putText (l := l) hc28) (cwV 1 hts (gdV k_8_172 k_7_129 k_7_130 k_1_2 k_7_131) rfl rfl rfl (by decide +kernel) ⟨Nat.le_of_ble_eq_true rfl, Nat.le_of_ble_eq_true rfl⟩) (zPV X hZ26 hS26 (ci := 0) g27.1 g27.2 (r := (RX0, TX0, 3)) rfl [.ref (aS 11)]) rfl rfl hl.1 rfl (lv_room (Nat.le_of_ble_eq_true rfl)) (D_182 W_prog_9_method_10_code_128 5 rfl rfl rfl) ⟨Nat.le_of_ble_eq_true rfl, Nat.le_of_ble_eq_true rfl⟩) hS26 (fun q _ h => zAin X hS26 q h) (zAin X hS26) (fun u28 t28 H28 locs28 ht28 hv28 hw28 hB28 hz28 hk28 hS28 => ?_)
  have hZ28 := zBack X ht28 hB28
  refine lv_sipush (v := iI 512) hx hb (D_17 W_prog_9_method_10_code_128 8 rfl rfl rfl) (by decide) ?_
  refine lv_aload_n hx hb (D_42 W_prog_9_method_10_code_128 11 rfl rfl) rfl (lv_at hl 2 rfl) ?_
  refine zget (ci := 7) (C := RX7) (T := TX7) (v := .int (iI (F28 7 l0 2))) (k := 2) hx hb hts inW_7 hown hK hZ28 g20.1 g20.2 rfl (by decide) k_2_100 rfl (D_180 W_prog_9_method_10_code_128 12 rfl rfl rfl) ?_
  obtain ⟨g29, hf⟩ := gif hf
  refine zdv_r hx hb g29 (D_108 W_prog_9_method_10_code_128 15 rfl rfl) ?_
  refine lv_istore (lv' := [(8, .int (iI (zdv 512 (F28 7 l0 2)))), (7, .int (iI (B19 8 (F19 7 l0 0) 3 (B19 8 (F19 7 l0 0) 220 l1)))), (4, .int (iI l4)), (0, .ref (ad 7 l0 0)), (1, .int (iI l1)), (3, .int (iI l3))]) hx hb (D_54 W_prog_9_method_10_code_128 16 rfl rfl) hl (by decide) rfl (fun ls hl => ?_)
  refine lv_iconst (v := iI 0) hx hb (D_3 W_prog_9_method_10_code_128 18 rfl rfl) rfl ?_
  refine lv_istore (lv' := [(9, .int (iI 0)), (8, .int (iI (zdv 512 (F28 7 l0 2)))), (7, .int (iI (B19 8 (F19 7 l0 0) 3 (B19 8 (F19 7 l0 0) 220 l1)))), (4, .int (iI l4)), (0, .ref (ad 7 l0 0)), (1, .int (iI l1)), (3, .int (iI l3))]) hx hb (D_54 W_prog_9_method_10_code_128 19 rfl rfl) hl (by decide) rfl (fun ls hl => ?_)
  refine lv_aload_n hx hb (D_42 W_prog_9_method_10_code_128 21 rfl rfl) rfl (lv_at hl 4 rfl) ?_
  refine lv_iload_n hx hb (D_27 W_prog_9_method_10_code_128 22 rfl rfl) rfl (lv_at hl 5 rfl) ?_
  refine zput (ci := 7) (C := RX7) (T := TX7) (k := 7) (v := l1) (w := .int (iI l1)) hx hb hts inW_7 tyX7 tyX7_ok nmX7 hown hK hZ28 hS28 g20.1 g20.2 rfl (by decide) k_2_105 rfl (fun G h => congrArg (fun q => Value.int (iI q)) h) rfl rfl (zno (by decide)) (D_181 W_prog_9_method_10_code_128 23 rfl rfl rfl) (fun H30 locs30 hZ30 hS30 => ?_)
  refine lv_iconst (v := iI 0) hx hb (D_3 W_prog_9_method_10_code_128 26 rfl rfl) rfl ?_
  refine lv_istore (lv' := [(10, .int (iI 0)), (9, .int (iI 0)), (8, .int (iI (zdv 512 (F28 7 l0 2)))), (7, .int (iI (B19 8 (F19 7 l0 0) 3 (B19 8 (F19 7 l0 0) 220 l1)))), (4, .int (iI l4)), (0, .ref (ad 7 l0 0)), (1, .int (iI l1)), (3, .int (iI l3))]) hx hb (D_54 W_prog_9_method_10_code_128 27 rfl rfl) hl (by decide) rfl (fun ls hl => ?_)
  exact b_Scribe_writeVoice_157 X hf hZ30 hS30 (lv_sub hl [0, 1, 2, 4, 5, 7] rfl)

def f_Scribe_writeVoice_13 (K : zK) : Nat → Int → Int → Int → Int → Int → Int → Int → zF → zB → zO
  | 0, _, _, _, _, _, _, _, _, _ => none
  | n + 1, l7, l5, l4, l0, l1, l2, l3, F, B => if r32 l7 then if r32 l4 then (if l4 ≤ l7 then if 0 ≤ l0 ∧ l0 < K.2 7 then if 0 ≤ (F 7 l0 1) ∧ (F 7 l0 1) < K.2 0 then zbind (f_ByteRow_putText K (F 7 l0 1) 8 F B) (fun r8 F8 B8 => if 0 ≤ (F8 7 l0 1) ∧ (F8 7 l0 1) < K.2 0 then zbind (f_ByteRow_put K (F8 7 l0 1) (97 + l2) F8 B8) (fun r10 F10 B10 => if r32 (l4 - l1) then if r64 l5 then if r64 (60 * (l4 - l1)) then (if (zcmp l5 (60 * (l4 - l1))) < 0 then f_Scribe_writeVoice_89 K l4 l0 l1 l3 (F10 7 l0 1) 10 F10 B10 else f_Scribe_writeVoice_89 K l4 l0 l1 l3 (F10 7 l0 1) 9 F10 B10) else none else none else none) else none) else none else none else if 0 ≤ l0 ∧ l0 < K.2 7 then if 0 ≤ (F 7 l0 0) ∧ (F 7 l0 0) < K.2 8 then if 0 ≤ l7 ∧ l7 < 400 then f_Scribe_writeVoice_13 K n (l7 + 1) (l5 + (B 8 (F 7 l0 0) 222 l7)) l4 l0 l1 l2 l3 F B else none else none else none) else none else none
set_option maxHeartbeats 4000000 in
set_option maxRecDepth 100000 in
theorem b_Scribe_writeVoice_13 {D : va_G} {ca : Nat → ClassId} {ad : Nat → Int → Nat → Nat} {L : List Nat} {aS vS : Nat → Nat} {A : Nat → Prop} {p : Program} {l : Launch} {e : Env} {s : State} {m : MethodId} {args : Array Value} {below : List Frame} {meth : Method} {c : Code} {K : zK} {r : Int} {F9 : zF} {B9 : zB} (X : zX D ca L aS vS A p s m args meth c prog_9_method_10_code 11 (Option.none : Option Jvm.ClassFile.FieldType) "StaveHouse$Scribe") : ∀ {n : Nat} {l7 : Int} {l5 : Int} {l4 : Int} {l0 : Int} {l1 : Int} {l2 : Int} {l3 : Int} {F : zF} {B : zB} {H : Heap} {locs : List Loc} {ls : Array Slot}, f_Scribe_writeVoice_13 K n l7 l5 l4 l0 l1 l2 l3 F B = some (r, F9, B9) → zH D ca ad lnC K.2 L F B A H → va_S A s.heap H locs → lv_has ls 11 [(7, .int (iI l7)), (5, .long (lI l5)), (4, .int (iI l4)), (0, .ref (ad 7 l0 0)), (1, .int (iI l1)), (2, .int (iI l2)), (3, .int (iI l3))] → W p l e ({ frames := 8, cells := 0, slots := 0, locals := 179 } : Room) s m args below meth c H locs 0 0 (MQ below (Q_Scribe_writeVoice K D ca ad L r F9 B9 A) args s 0 0 A) (F0 m 13 ls []) := by
  obtain ⟨hx, hb, hr, hml, hown, hts, hlk, hK, hA, hL, hX⟩ := id X
  intro n
  induction n with
  | zero =>
    intros
    rename_i hf _ _ _
    cases hf
  | succ n ih =>
    intro l7 l5 l4 l0 l1 l2 l3 F B H locs ls hf hZ hS hl
    replace hf : (if r32 l7 then if r32 l4 then (if l4 ≤ l7 then if 0 ≤ l0 ∧ l0 < K.2 7 then if 0 ≤ (F 7 l0 1) ∧ (F 7 l0 1) < K.2 0 then zbind (f_ByteRow_putText K (F 7 l0 1) 8 F B) (fun r8 F8 B8 => if 0 ≤ (F8 7 l0 1) ∧ (F8 7 l0 1) < K.2 0 then zbind (f_ByteRow_put K (F8 7 l0 1) (97 + l2) F8 B8) (fun r10 F10 B10 => if r32 (l4 - l1) then if r64 l5 then if r64 (60 * (l4 - l1)) then (if (zcmp l5 (60 * (l4 - l1))) < 0 then f_Scribe_writeVoice_89 K l4 l0 l1 l3 (F10 7 l0 1) 10 F10 B10 else f_Scribe_writeVoice_89 K l4 l0 l1 l3 (F10 7 l0 1) 9 F10 B10) else none else none else none) else none) else none else none else if 0 ≤ l0 ∧ l0 < K.2 7 then if 0 ≤ (F 7 l0 0) ∧ (F 7 l0 0) < K.2 8 then if 0 ≤ l7 ∧ l7 < 400 then f_Scribe_writeVoice_13 K n (l7 + 1) (l5 + (B 8 (F 7 l0 0) 222 l7)) l4 l0 l1 l2 l3 F B else none else none else none) else none else none) = some (r, F9, B9) := hf
    refine lv_iload hx hb (D_21 W_prog_9_method_10_code_0 13 rfl rfl) (lv_at hl 0 rfl) ?_
    refine lv_iload hx hb (D_21 W_prog_9_method_10_code_0 15 rfl rfl) (lv_at hl 2 rfl) ?_
    obtain ⟨g3, hf⟩ := gif hf
    obtain ⟨g4, hf⟩ := gif hf
    refine zge (tgt := 43) hx hb g3 g4 (D_162 W_prog_9_method_10_code_0 17 rfl rfl rfl) (by decide) (fun h5 => ?_) (fun h5 => ?_)
    · replace hf := gpos hf h5
      refine lv_aload_n hx hb (D_42 W_prog_9_method_10_code_32 11 rfl rfl) rfl (lv_at hl 3 rfl) ?_
      obtain ⟨g6, hf⟩ := gif hf
      refine zget (ci := 7) (C := RX7) (T := TX7) (v := va_rf (zrf ad 0 (F 7 l0 1))) (k := 1) hx hb hts inW_7 hown hK hZ g6.1 g6.2 rfl (by decide) k_2_99 rfl (D_180 W_prog_9_method_10_code_32 12 rfl rfl rfl) ?_
      refine va_ldcS hx hb hown (hX.2.2.2.2.1 8 _ rfl).1 (D_18 W_prog_9_method_10_code_32 15 rfl rfl) ?_
      obtain ⟨g7, hf⟩ := gif hf
      refine W.eq (g2 := F0 m 49 ls [.ref (aS 8), .ref (ad 0 (F 7 l0 1) 0)]) (by rw [zrf_pos (ad := ad) (t := 0) g7.1]; try rfl) ?_
      obtain ⟨r8, F8, B8, hc8, hf⟩ := gbind hf
      refine va_callv (va_runV (As := [.ref (aS 8)]) (rest := []) ⟨hx, hb, hml, hown, hts⟩ (c_ByteRow_putText (l := l) hc8) (cwV 1 hts (gdV k_8_172 k_7_129 k_7_130 k_1_2 k_7_131) rfl rfl rfl (by decide +kernel) ⟨Nat.le_of_ble_eq_true rfl, Nat.le_of_ble_eq_true rfl⟩) (zPV X hZ hS (ci := 0) g7.1 g7.2 (r := (RX0, TX0, 3)) rfl [.ref (aS 8)]) rfl rfl hl.1 rfl (lv_room (Nat.le_of_ble_eq_true rfl)) (D_182 W_prog_9_method_10_code_32 17 rfl rfl rfl) ⟨Nat.le_of_ble_eq_true rfl, Nat.le_of_ble_eq_true rfl⟩) hS (fun q _ h => zAin X hS q h) (zAin X hS) (fun u8 t8 H8 locs8 ht8 hv8 hw8 hB8 hz8 hk8 hS8 => ?_)
      have hZ8 := zBack X ht8 hB8
      refine lv_aload_n hx hb (D_42 W_prog_9_method_10_code_32 20 rfl rfl) rfl (lv_at hl 3 rfl) ?_
      refine zget (ci := 7) (C := RX7) (T := TX7) (v := va_rf (zrf ad 0 (F8 7 l0 1))) (k := 1) hx hb hts inW_7 hown hK hZ8 g6.1 g6.2 rfl (by decide) k_2_99 rfl (D_180 W_prog_9_method_10_code_32 21 rfl rfl rfl) ?_
      refine lv_bipush (v := iI 97) hx hb (D_16 W_prog_9_method_10_code_32 24 rfl rfl rfl) (by decide) ?_
      refine lv_iload_n hx hb (D_28 W_prog_9_method_10_code_32 26 rfl rfl) rfl (lv_at hl 5 rfl) ?_
      refine zadd hx hb (D_96 W_prog_9_method_10_code_32 27 rfl rfl) ?_
      obtain ⟨g9, hf⟩ := gif hf
      refine W.eq (g2 := F0 m 60 ls [.int (iI (97 + l2)), .ref (ad 0 (F8 7 l0 1) 0)]) (by rw [zrf_pos (ad := ad) (t := 0) g9.1]; try rfl) ?_
      obtain ⟨r10, F10, B10, hc10, hf⟩ := gbind hf
      refine va_callv (va_runV (As := [.int (iI (97 + l2))]) (rest := []) ⟨hx, hb, hml, hown, hts⟩ (c_ByteRow_put (l := l) hc10) (cwV 1 hts (gdV k_8_180 k_2_171 k_2_172 k_1_2 k_2_173) rfl rfl rfl (by decide +kernel) ⟨Nat.le_of_ble_eq_true rfl, Nat.le_of_ble_eq_true rfl⟩) (zPV X hZ8 hS8 (ci := 0) g9.1 g9.2 (r := (RX0, TX0, 3)) rfl [.int (iI (97 + l2))]) rfl rfl hl.1 rfl (lv_room (Nat.le_of_ble_eq_true rfl)) (D_182 W_prog_9_method_10_code_32 28 rfl rfl rfl) ⟨Nat.le_of_ble_eq_true rfl, Nat.le_of_ble_eq_true rfl⟩) hS8 (fun q _ h => zAin X hS8 q h) (zAin X hS8) (fun u10 t10 H10 locs10 ht10 hv10 hw10 hB10 hz10 hk10 hS10 => ?_)
      have hZ10 := zBack X ht10 hB10
      refine lv_aload_n hx hb (D_42 W_prog_9_method_10_code_32 31 rfl rfl) rfl (lv_at hl 3 rfl) ?_
      refine zget (ci := 7) (C := RX7) (T := TX7) (v := va_rf (zrf ad 0 (F10 7 l0 1))) (k := 1) hx hb hts inW_7 hown hK hZ10 g6.1 g6.2 rfl (by decide) k_2_99 rfl (D_180 W_prog_9_method_10_code_64 0 rfl rfl rfl) ?_
      refine lv_lload hx hb (D_22 W_prog_9_method_10_code_64 3 rfl rfl) (lv_at hl 1 rfl) ?_
      refine lv_ldc2 hx hb hown (hts _ k_8_187) (D_20 W_prog_9_method_10_code_64 5 rfl rfl rfl) ?_
      refine W.eq (g2 := F0 m 72 ls [.long (lI 60), .long (lI l5), va_rf (zrf ad 0 (F10 7 l0 1))]) rfl ?_
      refine lv_iload hx hb (D_21 W_prog_9_method_10_code_64 8 rfl rfl) (lv_at hl 2 rfl) ?_
      refine lv_iload_n hx hb (D_27 W_prog_9_method_10_code_64 10 rfl rfl) rfl (lv_at hl 4 rfl) ?_
      refine zsub hx hb (D_100 W_prog_9_method_10_code_64 11 rfl rfl) ?_
      obtain ⟨g11, hf⟩ := gif hf
      refine zi2l hx hb g11 (D_133 W_prog_9_method_10_code_64 12 rfl rfl) ?_
      refine zlmul hx hb (D_105 W_prog_9_method_10_code_64 13 rfl rfl) ?_
      obtain ⟨g12, hf⟩ := gif hf
      obtain ⟨g13, hf⟩ := gif hf
      refine zcmp_r hx hb g12 g13 (D_148 W_prog_9_method_10_code_64 14 rfl rfl) ?_
      refine z0lt (tgt := 87) hx hb zcmp_32 (D_155 W_prog_9_method_10_code_64 15 rfl rfl rfl) (by decide) (fun h14 => ?_) (fun h14 => ?_)
      · replace hf := gpos hf h14
        refine va_ldcS hx hb hown (hX.2.2.2.2.1 10 _ rfl).1 (D_18 W_prog_9_method_10_code_64 23 rfl rfl) ?_
        exact b_Scribe_writeVoice_89 X hf hZ10 hS10 (lv_sub hl [2, 3, 4, 6] rfl)
      · replace hf := gneg hf h14
        refine va_ldcS hx hb hown (hX.2.2.2.2.1 9 _ rfl).1 (D_18 W_prog_9_method_10_code_64 18 rfl rfl) ?_
        refine lv_goto (tgt := 89) hx hb (D_167 W_prog_9_method_10_code_64 20 rfl rfl rfl) (by decide) ?_
        exact b_Scribe_writeVoice_89 X hf hZ10 hS10 (lv_sub hl [2, 3, 4, 6] rfl)
    · replace hf := gneg hf h5
      refine lv_lload hx hb (D_22 W_prog_9_method_10_code_0 20 rfl rfl) (lv_at hl 1 rfl) ?_
      refine lv_aload_n hx hb (D_42 W_prog_9_method_10_code_0 22 rfl rfl) rfl (lv_at hl 3 rfl) ?_
      obtain ⟨g15, hf⟩ := gif hf
      refine zget (ci := 7) (C := RX7) (T := TX7) (v := va_rf (zrf ad 8 (F 7 l0 0))) (k := 0) hx hb hts inW_7 hown hK hZ g15.1 g15.2 rfl (by decide) k_2_98 rfl (D_180 W_prog_9_method_10_code_0 23 rfl rfl rfl) ?_
      obtain ⟨g16, hf⟩ := gif hf
      refine zunrf g16.1 ?_
      refine zget (ci := 8) (C := RX8) (T := TX8) (v := .ref (ad 8 (F 7 l0 0) (1 + 1))) (k := 1) hx hb hts inW_8 hown hK hZ g16.1 g16.2 rfl (by decide) k_7_221 rfl (D_180 W_prog_9_method_10_code_0 26 rfl rfl rfl) ?_
      refine lv_iconst (v := iI 2) hx hb (D_5 W_prog_9_method_10_code_0 29 rfl rfl) rfl ?_
      refine zaldQ (t := 1) (ci := 8) (k := 1) hx hb hK rfl hZ g16.1 g16.2 rfl (Nat.le_of_ble_eq_true rfl) (by decide) (by decide) (D_50 W_prog_9_method_10_code_0 30 rfl rfl) ?_
      refine W.eq (g2 := F0 m 31 ls [.ref (ad 8 (F 7 l0 0) (222 + 1)), .long (lI l5)]) rfl ?_
      refine lv_iload hx hb (D_21 W_prog_9_method_10_code_0 31 rfl rfl) (lv_at hl 0 rfl) ?_
      obtain ⟨g17, hf⟩ := gif hf
      refine zlald (ci := 8) (k := 222) hx hb hK rfl hZ g16.1 g16.2 rfl (Nat.le_of_ble_eq_true rfl) g17.1 g17.2 (D_47 W_prog_9_method_10_code_32 1 rfl rfl) ?_
      refine zladd hx hb (D_97 W_prog_9_method_10_code_32 2 rfl rfl) ?_
      refine lv_lstore (lv' := [(5, .long (lI (l5 + (B 8 (F 7 l0 0) 222 l7)))), (7, .int (iI l7)), (4, .int (iI l4)), (0, .ref (ad 7 l0 0)), (1, .int (iI l1)), (2, .int (iI l2)), (3, .int (iI l3))]) hx hb (D_55 W_prog_9_method_10_code_32 3 rfl rfl) hl (by decide) rfl (fun ls hl => ?_)
      refine lv_iinc (v := iI (l7 + 1)) (lv' := [(7, .int (iI (l7 + 1))), (5, .long (lI (l5 + (B 8 (F 7 l0 0) 222 l7)))), (4, .int (iI l4)), (0, .ref (ad 7 l0 0)), (1, .int (iI l1)), (2, .int (iI l2)), (3, .int (iI l3))]) hx hb d_9_10_37 hl (k := 1) rfl (iI_add _ 1) (by decide) rfl (fun ls hl => ?_)
      refine lv_goto (tgt := 13) hx hb (D_167 W_prog_9_method_10_code_32 8 rfl rfl rfl) (by decide) ?_
      exact ih hf hZ hS (lv_sub hl [0, 1, 2, 3, 4, 5, 6] rfl)

def f_Scribe_writeVoice (K : zK) (l0 : Int) (l1 : Int) (l2 : Int) (l3 : Int) (F : zF) (B : zB) : zO := if 0 ≤ l0 ∧ l0 < K.2 7 then zbind (f_Scribe_trackEnd K l0 l1 F B) (fun r2 F2 B2 => f_Scribe_writeVoice_13 K K.1 l1 0 r2 l0 l1 l2 l3 F2 B2) else none
set_option maxHeartbeats 4000000 in
set_option maxRecDepth 100000 in
theorem c_Scribe_writeVoice {l : Launch} {D : va_G} {ca : Nat → ClassId} {ad : Nat → Int → Nat → Nat} {L : List Nat} {aS vS : Nat → Nat} {sz : Nat} {K : zK}  {l0 : Int} {l1 : Int} {l2 : Int} {l3 : Int} {F F9 : zF} {B B9 : zB} {r : Int} (hf : f_Scribe_writeVoice K l0 l1 l2 l3 F B = some (r, F9, B9)) : Met l ({ cls := "StaveHouse$Scribe", name := "writeVoice", desc := "(III)V" } : Jvm.MethodName) (Cond.code ({ cls := "StaveHouse$Scribe", name := "writeVoice", desc := "(III)V" } : Jvm.MethodName) prog_9_method_10_code 11 (Option.none : Option Jvm.ClassFile.FieldType) :: wAll) ({ frames := 8, cells := 0, slots := 0, locals := 179 } : Room) (va_Pc [.ref (ad 7 l0 0), .int (iI l1), .int (iI l2), .int (iI l3)] (zPre D ca ad lnC K.2 L aS vS F B sz)) (Q_Scribe_writeVoice K D ca ad L r F9 B9 (zA L sz)) 0 0 (zA L sz) := by
  refine zMet (Qc := Q_Scribe_writeVoice K D ca ad L r F9 B9) (lv := [(0, .ref (ad 7 l0 0)), (1, .int (iI l1)), (2, .int (iI l2)), (3, .int (iI l3))]) (by decide) (Nat.le_of_ble_eq_true rfl) rfl (fun A p e s m below meth c ls X hZ hS hl => ?_)
  obtain ⟨hx, hb, hr, hml, hown, hts, hlk, hK, hA, hL, hX⟩ := id X
  replace hf : (if 0 ≤ l0 ∧ l0 < K.2 7 then zbind (f_Scribe_trackEnd K l0 l1 F B) (fun r2 F2 B2 => f_Scribe_writeVoice_13 K K.1 l1 0 r2 l0 l1 l2 l3 F2 B2) else none) = some (r, F9, B9) := hf
  refine lv_aload_n hx hb (D_42 W_prog_9_method_10_code_0 0 rfl rfl) rfl (lv_at hl 0 rfl) ?_
  refine lv_iload_n hx hb (D_27 W_prog_9_method_10_code_0 1 rfl rfl) rfl (lv_at hl 1 rfl) ?_
  obtain ⟨g1, hf⟩ := gif hf
  obtain ⟨r2, F2, B2, hc2, hf⟩ := gbind hf
  refine va_calli (va_runV (As := [.int (iI l1)]) (rest := []) ⟨hx, hb, hml, hown, hts⟩ (c_Scribe_trackEnd (l := l) hc2) (cwV 1 hts (gdV k_8_148 k_8_150 ks_112 k_1_7 k_8_151) rfl rfl rfl (by decide +kernel) ⟨Nat.le_of_ble_eq_true rfl, Nat.le_of_ble_eq_true rfl⟩) (zPV X hZ hS (ci := 7) g1.1 g1.2 (r := (RX7, TX7, 9)) rfl [.int (iI l1)]) rfl rfl hl.1 rfl (lv_room (Nat.le_of_ble_eq_true rfl)) (D_182 W_prog_9_method_10_code_0 2 rfl rfl rfl) ⟨Nat.le_of_ble_eq_true rfl, Nat.le_of_ble_eq_true rfl⟩) hS (fun q _ h => zAin X hS q h) (zAin X hS) (fun p2 u2 t2 H2 locs2 ht2 hv2 hw2 hB2 hz2 hk2 hS2 => ?_)
  have hZ2 := zBack X ht2 hB2
  subst hw2
  refine lv_istore (lv' := [(4, .int (iI r2)), (0, .ref (ad 7 l0 0)), (1, .int (iI l1)), (2, .int (iI l2)), (3, .int (iI l3))]) hx hb (D_54 W_prog_9_method_10_code_0 5 rfl rfl) hl (by decide) rfl (fun ls hl => ?_)
  refine lv_lconst (v := lI 0) hx hb (D_9 W_prog_9_method_10_code_0 7 rfl rfl) (by decide) ?_
  refine lv_lstore (lv' := [(5, .long (lI 0)), (4, .int (iI r2)), (0, .ref (ad 7 l0 0)), (1, .int (iI l1)), (2, .int (iI l2)), (3, .int (iI l3))]) hx hb (D_55 W_prog_9_method_10_code_0 8 rfl rfl) hl (by decide) rfl (fun ls hl => ?_)
  refine lv_iload_n hx hb (D_27 W_prog_9_method_10_code_0 10 rfl rfl) rfl (lv_at hl 3 rfl) ?_
  refine lv_istore (lv' := [(7, .int (iI l1)), (5, .long (lI 0)), (4, .int (iI r2)), (0, .ref (ad 7 l0 0)), (1, .int (iI l1)), (2, .int (iI l2)), (3, .int (iI l3))]) hx hb (D_54 W_prog_9_method_10_code_0 11 rfl rfl) hl (by decide) rfl (fun ls hl => ?_)
  exact b_Scribe_writeVoice_13 X hf hZ2 hS2 (lv_sub hl [0, 1, 2, 3, 4, 5, 6] rfl)

