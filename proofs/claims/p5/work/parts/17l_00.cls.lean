theorem k_2_221 : (Jvm.Cond.fieldLink "StaveHouse$Layout" (46 : Nat) "StaveHouse$Piece" "bars" "I") ∈ wAll := wA_2 (j := 221) rfl rfl
theorem k_7_21 : (Jvm.Cond.methodLink "StaveHouse$Layout" (52 : Nat) ({ cls := "java/lang/Math", name := "min", desc := "(II)I" } : Jvm.MethodName)) ∈ wAll := wA_7 (j := 21) rfl rfl
theorem k_1_43 : (Jvm.Cond.fieldLink "StaveHouse$SoundFile" (31 : Nat) "StaveHouse$ByteRow" "size" "I") ∈ wAll := wA_1 (j := 43) rfl rfl
theorem k_2_101 : (Jvm.Cond.fieldLink "StaveHouse$Scribe" (46 : Nat) "StaveHouse$Scribe" "bar" "I") ∈ wAll := wA_2 (j := 101) rfl rfl
theorem k_8_199 : (Jvm.Cond.constant "StaveHouse$Scribe" (180 : Nat) (51200 : Int32)) ∈ wAll := wA_8 (j := 199) rfl rfl
theorem k_8_200 : (Jvm.Cond.methodLink "StaveHouse$Scribe" (181 : Nat) ({ cls := "java/lang/Math", name := "min", desc := "(II)I" } : Jvm.MethodName)) ∈ wAll := wA_8 (j := 200) rfl rfl
theorem k_5_27 : (Jvm.Cond.methodLink "StaveHouse$Part" (52 : Nat) ({ cls := "StaveHouse$Part", name := "placeEvents", desc := "()V" } : Jvm.MethodName)) ∈ wAll := wA_5 (j := 27) rfl rfl
theorem k_5_29 : (Jvm.Cond.instanceMethod ({ cls := "StaveHouse$Part", name := "placeEvents", desc := "()V" } : Jvm.MethodName)) ∈ wAll := wA_5 (j := 29) rfl rfl
theorem ks_46 : (Jvm.Cond.selects "StaveHouse$Part" ({ cls := "StaveHouse$Part", name := "placeEvents", desc := "()V" } : Jvm.MethodName) ({ cls := "StaveHouse$Part", name := "placeEvents", desc := "()V" } : Jvm.MethodName)) ∈ wAll := wA_s (j := 46) rfl rfl
theorem k_5_30 : (Jvm.Cond.code ({ cls := "StaveHouse$Part", name := "placeEvents", desc := "()V" } : Jvm.MethodName) prog_6_method_5_code (2 : Nat) (Option.none : Option Jvm.ClassFile.FieldType)) ∈ wAll := wA_5 (j := 30) rfl rfl
theorem k_4_125 : (Jvm.Cond.fieldLink "StaveHouse$Part" (49 : Nat) "StaveHouse$Part" "token" "I") ∈ wAll := wA_4 (j := 125) rfl rfl
theorem k_8_34 : (Jvm.Cond.methodLink "StaveHouse$SoundFile" (45 : Nat) ({ cls := "StaveHouse$SoundFile", name := "setDefaults", desc := "()V" } : Jvm.MethodName)) ∈ wAll := wA_8 (j := 34) rfl rfl
theorem k_8_36 : (Jvm.Cond.instanceMethod ({ cls := "StaveHouse$SoundFile", name := "setDefaults", desc := "()V" } : Jvm.MethodName)) ∈ wAll := wA_8 (j := 36) rfl rfl
theorem ks_92 : (Jvm.Cond.selects "StaveHouse$SoundFile" ({ cls := "StaveHouse$SoundFile", name := "setDefaults", desc := "()V" } : Jvm.MethodName) ({ cls := "StaveHouse$SoundFile", name := "setDefaults", desc := "()V" } : Jvm.MethodName)) ∈ wAll := wA_s (j := 92) rfl rfl
theorem k_8_37 : (Jvm.Cond.code ({ cls := "StaveHouse$SoundFile", name := "setDefaults", desc := "()V" } : Jvm.MethodName) prog_10_method_3_code (2 : Nat) (Option.none : Option Jvm.ClassFile.FieldType)) ∈ wAll := wA_8 (j := 37) rfl rfl
theorem k_9_85 : (Jvm.Cond.methodLink "StaveHouse" (321 : Nat) ({ cls := "StaveHouse$Part", name := "firstSounding", desc := "()I" } : Jvm.MethodName)) ∈ wAll := wA_9 (j := 85) rfl rfl
theorem k_9_86 : (Jvm.Cond.instanceMethod ({ cls := "StaveHouse$Part", name := "firstSounding", desc := "()I" } : Jvm.MethodName)) ∈ wAll := wA_9 (j := 86) rfl rfl
theorem k_9_87 : (Jvm.Cond.selects "StaveHouse$Part" ({ cls := "StaveHouse$Part", name := "firstSounding", desc := "()I" } : Jvm.MethodName) ({ cls := "StaveHouse$Part", name := "firstSounding", desc := "()I" } : Jvm.MethodName)) ∈ wAll := wA_9 (j := 87) rfl rfl
theorem k_9_88 : (Jvm.Cond.code ({ cls := "StaveHouse$Part", name := "firstSounding", desc := "()I" } : Jvm.MethodName) prog_6_method_26_code (2 : Nat) (Option.some Jvm.ClassFile.FieldType.int)) ∈ wAll := wA_9 (j := 88) rfl rfl
theorem k_5_239 : (Jvm.Cond.methodLink "StaveHouse$Study" (43 : Nat) ({ cls := "StaveHouse$Study", name := "findMoments", desc := "(LStaveHouse$Piece;)V" } : Jvm.MethodName)) ∈ wAll := wA_5 (j := 239) rfl rfl
theorem k_6_1 : (Jvm.Cond.instanceMethod ({ cls := "StaveHouse$Study", name := "findMoments", desc := "(LStaveHouse$Piece;)V" } : Jvm.MethodName)) ∈ wAll := wA_6 (j := 1) rfl rfl
theorem ks_66 : (Jvm.Cond.selects "StaveHouse$Study" ({ cls := "StaveHouse$Study", name := "findMoments", desc := "(LStaveHouse$Piece;)V" } : Jvm.MethodName) ({ cls := "StaveHouse$Study", name := "findMoments", desc := "(LStaveHouse$Piece;)V" } : Jvm.MethodName)) ∈ wAll := wA_s (j := 66) rfl rfl
theorem k_6_2 : (Jvm.Cond.code ({ cls := "StaveHouse$Study", name := "findMoments", desc := "(LStaveHouse$Piece;)V" } : Jvm.MethodName) prog_11_method_3_code (9 : Nat) (Option.none : Option Jvm.ClassFile.FieldType)) ∈ wAll := wA_6 (j := 2) rfl rfl
theorem k_8_187 : (Jvm.Cond.constantLong "StaveHouse$Scribe" (158 : Nat) (60 : Int64)) ∈ wAll := wA_8 (j := 187) rfl rfl
theorem k_7_227 : (Jvm.Cond.fieldLink "StaveHouse$Scribe" (164 : Nat) "StaveHouse$SoundFile" "numbers" "[I") ∈ wAll := wA_7 (j := 227) rfl rfl
theorem k_6_9 : (Jvm.Cond.methodLink "StaveHouse$Study" (54 : Nat) ({ cls := "StaveHouse$Study", name := "takeLines", desc := "(LStaveHouse$Piece;I)V" } : Jvm.MethodName)) ∈ wAll := wA_6 (j := 9) rfl rfl
theorem k_6_11 : (Jvm.Cond.instanceMethod ({ cls := "StaveHouse$Study", name := "takeLines", desc := "(LStaveHouse$Piece;I)V" } : Jvm.MethodName)) ∈ wAll := wA_6 (j := 11) rfl rfl
theorem ks_68 : (Jvm.Cond.selects "StaveHouse$Study" ({ cls := "StaveHouse$Study", name := "takeLines", desc := "(LStaveHouse$Piece;I)V" } : Jvm.MethodName) ({ cls := "StaveHouse$Study", name := "takeLines", desc := "(LStaveHouse$Piece;I)V" } : Jvm.MethodName)) ∈ wAll := wA_s (j := 68) rfl rfl
theorem k_6_12 : (Jvm.Cond.code ({ cls := "StaveHouse$Study", name := "takeLines", desc := "(LStaveHouse$Piece;I)V" } : Jvm.MethodName) prog_11_method_6_code (6 : Nat) (Option.none : Option Jvm.ClassFile.FieldType)) ∈ wAll := wA_6 (j := 12) rfl rfl
theorem k_6_27 : (Jvm.Cond.methodLink "StaveHouse$Study" (63 : Nat) ({ cls := "StaveHouse$Study", name := "findFaults", desc := "(II)V" } : Jvm.MethodName)) ∈ wAll := wA_6 (j := 27) rfl rfl
theorem k_6_29 : (Jvm.Cond.instanceMethod ({ cls := "StaveHouse$Study", name := "findFaults", desc := "(II)V" } : Jvm.MethodName)) ∈ wAll := wA_6 (j := 29) rfl rfl
theorem ks_70 : (Jvm.Cond.selects "StaveHouse$Study" ({ cls := "StaveHouse$Study", name := "findFaults", desc := "(II)V" } : Jvm.MethodName) ({ cls := "StaveHouse$Study", name := "findFaults", desc := "(II)V" } : Jvm.MethodName)) ∈ wAll := wA_s (j := 70) rfl rfl
theorem k_6_30 : (Jvm.Cond.code ({ cls := "StaveHouse$Study", name := "findFaults", desc := "(II)V" } : Jvm.MethodName) prog_11_method_7_code (6 : Nat) (Option.none : Option Jvm.ClassFile.FieldType)) ∈ wAll := wA_6 (j := 30) rfl rfl
theorem k_7_22 : (Jvm.Cond.methodLink "StaveHouse$Layout" (58 : Nat) ({ cls := "StaveHouse$Layout", name := "setColumns", desc := "(LStaveHouse$Piece;I)V" } : Jvm.MethodName)) ∈ wAll := wA_7 (j := 22) rfl rfl
theorem k_7_24 : (Jvm.Cond.instanceMethod ({ cls := "StaveHouse$Layout", name := "setColumns", desc := "(LStaveHouse$Piece;I)V" } : Jvm.MethodName)) ∈ wAll := wA_7 (j := 24) rfl rfl
theorem ks_79 : (Jvm.Cond.selects "StaveHouse$Layout" ({ cls := "StaveHouse$Layout", name := "setColumns", desc := "(LStaveHouse$Piece;I)V" } : Jvm.MethodName) ({ cls := "StaveHouse$Layout", name := "setColumns", desc := "(LStaveHouse$Piece;I)V" } : Jvm.MethodName)) ∈ wAll := wA_s (j := 79) rfl rfl
theorem k_7_25 : (Jvm.Cond.code ({ cls := "StaveHouse$Layout", name := "setColumns", desc := "(LStaveHouse$Piece;I)V" } : Jvm.MethodName) prog_4_method_3_code (5 : Nat) (Option.none : Option Jvm.ClassFile.FieldType)) ∈ wAll := wA_7 (j := 25) rfl rfl
theorem k_7_46 : (Jvm.Cond.methodLink "StaveHouse$Layout" (62 : Nat) ({ cls := "StaveHouse$Layout", name := "choose", desc := "(LStaveHouse$Piece;II)V" } : Jvm.MethodName)) ∈ wAll := wA_7 (j := 46) rfl rfl
theorem k_7_48 : (Jvm.Cond.instanceMethod ({ cls := "StaveHouse$Layout", name := "choose", desc := "(LStaveHouse$Piece;II)V" } : Jvm.MethodName)) ∈ wAll := wA_7 (j := 48) rfl rfl
theorem ks_83 : (Jvm.Cond.selects "StaveHouse$Layout" ({ cls := "StaveHouse$Layout", name := "choose", desc := "(LStaveHouse$Piece;II)V" } : Jvm.MethodName) ({ cls := "StaveHouse$Layout", name := "choose", desc := "(LStaveHouse$Piece;II)V" } : Jvm.MethodName)) ∈ wAll := wA_s (j := 83) rfl rfl
theorem k_7_49 : (Jvm.Cond.code ({ cls := "StaveHouse$Layout", name := "choose", desc := "(LStaveHouse$Piece;II)V" } : Jvm.MethodName) prog_4_method_10_code (9 : Nat) (Option.none : Option Jvm.ClassFile.FieldType)) ∈ wAll := wA_7 (j := 49) rfl rfl
theorem k_7_59 : (Jvm.Cond.methodLink "StaveHouse$Layout" (69 : Nat) ({ cls := "StaveHouse$Layout", name := "widthOf", desc := "(LStaveHouse$Piece;II)I" } : Jvm.MethodName)) ∈ wAll := wA_7 (j := 59) rfl rfl
theorem k_7_61 : (Jvm.Cond.instanceMethod ({ cls := "StaveHouse$Layout", name := "widthOf", desc := "(LStaveHouse$Piece;II)I" } : Jvm.MethodName)) ∈ wAll := wA_7 (j := 61) rfl rfl
theorem ks_84 : (Jvm.Cond.selects "StaveHouse$Layout" ({ cls := "StaveHouse$Layout", name := "widthOf", desc := "(LStaveHouse$Piece;II)I" } : Jvm.MethodName) ({ cls := "StaveHouse$Layout", name := "widthOf", desc := "(LStaveHouse$Piece;II)I" } : Jvm.MethodName)) ∈ wAll := wA_s (j := 84) rfl rfl
theorem k_7_62 : (Jvm.Cond.code ({ cls := "StaveHouse$Layout", name := "widthOf", desc := "(LStaveHouse$Piece;II)I" } : Jvm.MethodName) prog_4_method_9_code (6 : Nat) (Option.some Jvm.ClassFile.FieldType.int)) ∈ wAll := wA_7 (j := 62) rfl rfl
theorem k_7_63 : (Jvm.Cond.methodLink "StaveHouse$Layout" (73 : Nat) ({ cls := "StaveHouse$Layout", name := "setXs", desc := "(LStaveHouse$Piece;II)V" } : Jvm.MethodName)) ∈ wAll := wA_7 (j := 63) rfl rfl
theorem k_7_65 : (Jvm.Cond.instanceMethod ({ cls := "StaveHouse$Layout", name := "setXs", desc := "(LStaveHouse$Piece;II)V" } : Jvm.MethodName)) ∈ wAll := wA_7 (j := 65) rfl rfl
theorem ks_85 : (Jvm.Cond.selects "StaveHouse$Layout" ({ cls := "StaveHouse$Layout", name := "setXs", desc := "(LStaveHouse$Piece;II)V" } : Jvm.MethodName) ({ cls := "StaveHouse$Layout", name := "setXs", desc := "(LStaveHouse$Piece;II)V" } : Jvm.MethodName)) ∈ wAll := wA_s (j := 85) rfl rfl
theorem k_7_66 : (Jvm.Cond.code ({ cls := "StaveHouse$Layout", name := "setXs", desc := "(LStaveHouse$Piece;II)V" } : Jvm.MethodName) prog_4_method_12_code (10 : Nat) (Option.none : Option Jvm.ClassFile.FieldType)) ∈ wAll := wA_7 (j := 66) rfl rfl
theorem k_2_211 : (Jvm.Cond.fieldLink "StaveHouse$Performance" (241 : Nat) "StaveHouse$Piece" "above" "I") ∈ wAll := wA_2 (j := 211) rfl rfl
theorem k_2_216 : (Jvm.Cond.fieldLink "StaveHouse$Performance" (244 : Nat) "StaveHouse$Piece" "below" "I") ∈ wAll := wA_2 (j := 216) rfl rfl
theorem k_7_169 : (Jvm.Cond.methodLink "StaveHouse$Performance" (247 : Nat) ({ cls := "java/lang/Integer", name := "bitCount", desc := "(I)I" } : Jvm.MethodName)) ∈ wAll := wA_7 (j := 169) rfl rfl
theorem k_2_206 : (Jvm.Cond.fieldLink "StaveHouse$Performance" (252 : Nat) "StaveHouse$Piece" "minor" "I") ∈ wAll := wA_2 (j := 206) rfl rfl
theorem k_7_175 : (Jvm.Cond.constant "StaveHouse$Performance" (255 : Nat) (60000000 : Int32)) ∈ wAll := wA_7 (j := 175) rfl rfl
theorem k_8_38 : (Jvm.Cond.methodLink "StaveHouse$SoundFile" (48 : Nat) ({ cls := "StaveHouse$SoundFile", name := "loadHead", desc := "()V" } : Jvm.MethodName)) ∈ wAll := wA_8 (j := 38) rfl rfl
theorem k_8_40 : (Jvm.Cond.instanceMethod ({ cls := "StaveHouse$SoundFile", name := "loadHead", desc := "()V" } : Jvm.MethodName)) ∈ wAll := wA_8 (j := 40) rfl rfl
theorem ks_93 : (Jvm.Cond.selects "StaveHouse$SoundFile" ({ cls := "StaveHouse$SoundFile", name := "loadHead", desc := "()V" } : Jvm.MethodName) ({ cls := "StaveHouse$SoundFile", name := "loadHead", desc := "()V" } : Jvm.MethodName)) ∈ wAll := wA_s (j := 93) rfl rfl
theorem k_8_41 : (Jvm.Cond.code ({ cls := "StaveHouse$SoundFile", name := "loadHead", desc := "()V" } : Jvm.MethodName) prog_10_method_12_code (5 : Nat) (Option.none : Option Jvm.ClassFile.FieldType)) ∈ wAll := wA_8 (j := 41) rfl rfl
theorem k_8_74 : (Jvm.Cond.constantLong "StaveHouse$SoundFile" (58 : Nat) (1297379947 : Int64)) ∈ wAll := wA_8 (j := 74) rfl rfl
theorem k_8_75 : (Jvm.Cond.methodLink "StaveHouse$SoundFile" (60 : Nat) ({ cls := "java/lang/Math", name := "min", desc := "(JJ)J" } : Jvm.MethodName)) ∈ wAll := wA_8 (j := 75) rfl rfl
theorem k_8_80 : (Jvm.Cond.methodLink "StaveHouse$SoundFile" (130 : Nat) ({ cls := "StaveHouse$SoundFile", name := "loadEvent", desc := "(I)V" } : Jvm.MethodName)) ∈ wAll := wA_8 (j := 80) rfl rfl
theorem k_8_82 : (Jvm.Cond.instanceMethod ({ cls := "StaveHouse$SoundFile", name := "loadEvent", desc := "(I)V" } : Jvm.MethodName)) ∈ wAll := wA_8 (j := 82) rfl rfl
theorem ks_101 : (Jvm.Cond.selects "StaveHouse$SoundFile" ({ cls := "StaveHouse$SoundFile", name := "loadEvent", desc := "(I)V" } : Jvm.MethodName) ({ cls := "StaveHouse$SoundFile", name := "loadEvent", desc := "(I)V" } : Jvm.MethodName)) ∈ wAll := wA_s (j := 101) rfl rfl
theorem k_8_83 : (Jvm.Cond.code ({ cls := "StaveHouse$SoundFile", name := "loadEvent", desc := "(I)V" } : Jvm.MethodName) prog_10_method_14_code (5 : Nat) (Option.none : Option Jvm.ClassFile.FieldType)) ∈ wAll := wA_8 (j := 83) rfl rfl
theorem k_8_203 : (Jvm.Cond.methodLink "StaveHouse$Scribe" (190 : Nat) ({ cls := "StaveHouse$Scribe", name := "writeNote", desc := "(IZ)V" } : Jvm.MethodName)) ∈ wAll := wA_8 (j := 203) rfl rfl
theorem k_8_205 : (Jvm.Cond.instanceMethod ({ cls := "StaveHouse$Scribe", name := "writeNote", desc := "(IZ)V" } : Jvm.MethodName)) ∈ wAll := wA_8 (j := 205) rfl rfl
theorem ks_119 : (Jvm.Cond.selects "StaveHouse$Scribe" ({ cls := "StaveHouse$Scribe", name := "writeNote", desc := "(IZ)V" } : Jvm.MethodName) ({ cls := "StaveHouse$Scribe", name := "writeNote", desc := "(IZ)V" } : Jvm.MethodName)) ∈ wAll := wA_s (j := 119) rfl rfl
theorem k_8_206 : (Jvm.Cond.code ({ cls := "StaveHouse$Scribe", name := "writeNote", desc := "(IZ)V" } : Jvm.MethodName) prog_9_method_13_code (4 : Nat) (Option.none : Option Jvm.ClassFile.FieldType)) ∈ wAll := wA_8 (j := 206) rfl rfl
theorem k_8_238 : (Jvm.Cond.methodLink "StaveHouse" (297 : Nat) ({ cls := "StaveHouse$Performance", name := "playOn", desc := "(LStaveHouse$Piece;I)I" } : Jvm.MethodName)) ∈ wAll := wA_8 (j := 238) rfl rfl
theorem k_8_239 : (Jvm.Cond.instanceMethod ({ cls := "StaveHouse$Performance", name := "playOn", desc := "(LStaveHouse$Piece;I)I" } : Jvm.MethodName)) ∈ wAll := wA_8 (j := 239) rfl rfl
theorem k_9_0 : (Jvm.Cond.selects "StaveHouse$Performance" ({ cls := "StaveHouse$Performance", name := "playOn", desc := "(LStaveHouse$Piece;I)I" } : Jvm.MethodName) ({ cls := "StaveHouse$Performance", name := "playOn", desc := "(LStaveHouse$Piece;I)I" } : Jvm.MethodName)) ∈ wAll := wA_9 (j := 0) rfl rfl
theorem k_9_1 : (Jvm.Cond.code ({ cls := "StaveHouse$Performance", name := "playOn", desc := "(LStaveHouse$Piece;I)I" } : Jvm.MethodName) prog_7_method_24_code (5 : Nat) (Option.some Jvm.ClassFile.FieldType.int)) ∈ wAll := wA_9 (j := 1) rfl rfl
theorem k_9_89 : (Jvm.Cond.methodLink "StaveHouse" (324 : Nat) ({ cls := "StaveHouse$Part", name := "followedFor", desc := "(LStaveHouse$Part;II)I" } : Jvm.MethodName)) ∈ wAll := wA_9 (j := 89) rfl rfl
theorem k_9_90 : (Jvm.Cond.instanceMethod ({ cls := "StaveHouse$Part", name := "followedFor", desc := "(LStaveHouse$Part;II)I" } : Jvm.MethodName)) ∈ wAll := wA_9 (j := 90) rfl rfl
theorem k_9_91 : (Jvm.Cond.selects "StaveHouse$Part" ({ cls := "StaveHouse$Part", name := "followedFor", desc := "(LStaveHouse$Part;II)I" } : Jvm.MethodName) ({ cls := "StaveHouse$Part", name := "followedFor", desc := "(LStaveHouse$Part;II)I" } : Jvm.MethodName)) ∈ wAll := wA_9 (j := 91) rfl rfl
theorem k_9_92 : (Jvm.Cond.code ({ cls := "StaveHouse$Part", name := "followedFor", desc := "(LStaveHouse$Part;II)I" } : Jvm.MethodName) prog_6_method_27_code (9 : Nat) (Option.some Jvm.ClassFile.FieldType.int)) ∈ wAll := wA_9 (j := 92) rfl rfl
theorem k_9_98 : (Jvm.Cond.methodLink "StaveHouse" (328 : Nat) ({ cls := "StaveHouse$Event", name := "topStep", desc := "()I" } : Jvm.MethodName)) ∈ wAll := wA_9 (j := 98) rfl rfl
theorem k_5_49 : (Jvm.Cond.methodLink "StaveHouse$Part" (77 : Nat) ({ cls := "StaveHouse$Part", name := "writeNotes", desc := "(LStaveHouse$Piece;)V" } : Jvm.MethodName)) ∈ wAll := wA_5 (j := 49) rfl rfl
theorem k_5_51 : (Jvm.Cond.instanceMethod ({ cls := "StaveHouse$Part", name := "writeNotes", desc := "(LStaveHouse$Piece;)V" } : Jvm.MethodName)) ∈ wAll := wA_5 (j := 51) rfl rfl
theorem ks_48 : (Jvm.Cond.selects "StaveHouse$Part" ({ cls := "StaveHouse$Part", name := "writeNotes", desc := "(LStaveHouse$Piece;)V" } : Jvm.MethodName) ({ cls := "StaveHouse$Part", name := "writeNotes", desc := "(LStaveHouse$Piece;)V" } : Jvm.MethodName)) ∈ wAll := wA_s (j := 48) rfl rfl
theorem k_5_52 : (Jvm.Cond.code ({ cls := "StaveHouse$Part", name := "writeNotes", desc := "(LStaveHouse$Piece;)V" } : Jvm.MethodName) prog_6_method_9_code (6 : Nat) (Option.none : Option Jvm.ClassFile.FieldType)) ∈ wAll := wA_5 (j := 52) rfl rfl
theorem k_5_32 : (Jvm.Cond.methodLink "StaveHouse$Part" (61 : Nat) ({ cls := "StaveHouse$Part", name := "bracketStands", desc := "(IJ)Z" } : Jvm.MethodName)) ∈ wAll := wA_5 (j := 32) rfl rfl
theorem k_5_34 : (Jvm.Cond.instanceMethod ({ cls := "StaveHouse$Part", name := "bracketStands", desc := "(IJ)Z" } : Jvm.MethodName)) ∈ wAll := wA_5 (j := 34) rfl rfl
theorem ks_47 : (Jvm.Cond.selects "StaveHouse$Part" ({ cls := "StaveHouse$Part", name := "bracketStands", desc := "(IJ)Z" } : Jvm.MethodName) ({ cls := "StaveHouse$Part", name := "bracketStands", desc := "(IJ)Z" } : Jvm.MethodName)) ∈ wAll := wA_s (j := 47) rfl rfl
theorem k_5_35 : (Jvm.Cond.code ({ cls := "StaveHouse$Part", name := "bracketStands", desc := "(IJ)Z" } : Jvm.MethodName) prog_6_method_6_code (10 : Nat) (Option.some Jvm.ClassFile.FieldType.boolean)) ∈ wAll := wA_5 (j := 35) rfl rfl
theorem k_2_45 : (Jvm.Cond.fieldLink "StaveHouse$Part" (72 : Nat) "StaveHouse$Event" "token" "I") ∈ wAll := wA_2 (j := 45) rfl rfl
theorem k_2_36 : (Jvm.Cond.fieldLink "StaveHouse$Part" (65 : Nat) "StaveHouse$Event" "bracketPlace" "I") ∈ wAll := wA_2 (j := 36) rfl rfl
theorem k_2_55 : (Jvm.Cond.fieldLink "StaveHouse$Part" (73 : Nat) "StaveHouse$Event" "slurred" "Z") ∈ wAll := wA_2 (j := 55) rfl rfl
theorem k_7_158 : (Jvm.Cond.methodLink "StaveHouse$Performance" (213 : Nat) ({ cls := "StaveHouse$Performance", name := "writeHead", desc := "(LStaveHouse$Piece;LStaveHouse$ByteRow;)V" } : Jvm.MethodName)) ∈ wAll := wA_7 (j := 158) rfl rfl
theorem k_7_159 : (Jvm.Cond.static ({ cls := "StaveHouse$Performance", name := "writeHead", desc := "(LStaveHouse$Piece;LStaveHouse$ByteRow;)V" } : Jvm.MethodName)) ∈ wAll := wA_7 (j := 159) rfl rfl
theorem k_7_160 : (Jvm.Cond.code ({ cls := "StaveHouse$Performance", name := "writeHead", desc := "(LStaveHouse$Piece;LStaveHouse$ByteRow;)V" } : Jvm.MethodName) prog_7_method_21_code (3 : Nat) (Option.none : Option Jvm.ClassFile.FieldType)) ∈ wAll := wA_7 (j := 160) rfl rfl
theorem k_7_183 : (Jvm.Cond.methodLink "StaveHouse$Performance" (217 : Nat) ({ cls := "StaveHouse$Performance", name := "writeVoice", desc := "(LStaveHouse$Part;ILStaveHouse$ByteRow;)V" } : Jvm.MethodName)) ∈ wAll := wA_7 (j := 183) rfl rfl
theorem k_7_185 : (Jvm.Cond.instanceMethod ({ cls := "StaveHouse$Performance", name := "writeVoice", desc := "(LStaveHouse$Part;ILStaveHouse$ByteRow;)V" } : Jvm.MethodName)) ∈ wAll := wA_7 (j := 185) rfl rfl
theorem ks_90 : (Jvm.Cond.selects "StaveHouse$Performance" ({ cls := "StaveHouse$Performance", name := "writeVoice", desc := "(LStaveHouse$Part;ILStaveHouse$ByteRow;)V" } : Jvm.MethodName) ({ cls := "StaveHouse$Performance", name := "writeVoice", desc := "(LStaveHouse$Part;ILStaveHouse$ByteRow;)V" } : Jvm.MethodName)) ∈ wAll := wA_s (j := 90) rfl rfl
theorem k_7_186 : (Jvm.Cond.code ({ cls := "StaveHouse$Performance", name := "writeVoice", desc := "(LStaveHouse$Part;ILStaveHouse$ByteRow;)V" } : Jvm.MethodName) prog_7_method_22_code (7 : Nat) (Option.none : Option Jvm.ClassFile.FieldType)) ∈ wAll := wA_7 (j := 186) rfl rfl
theorem k_8_76 : (Jvm.Cond.methodLink "StaveHouse$SoundFile" (66 : Nat) ({ cls := "StaveHouse$SoundFile", name := "loadTrack", desc := "(J)V" } : Jvm.MethodName)) ∈ wAll := wA_8 (j := 76) rfl rfl
theorem k_8_78 : (Jvm.Cond.instanceMethod ({ cls := "StaveHouse$SoundFile", name := "loadTrack", desc := "(J)V" } : Jvm.MethodName)) ∈ wAll := wA_8 (j := 78) rfl rfl
theorem ks_100 : (Jvm.Cond.selects "StaveHouse$SoundFile" ({ cls := "StaveHouse$SoundFile", name := "loadTrack", desc := "(J)V" } : Jvm.MethodName) ({ cls := "StaveHouse$SoundFile", name := "loadTrack", desc := "(J)V" } : Jvm.MethodName)) ∈ wAll := wA_s (j := 100) rfl rfl
theorem k_8_79 : (Jvm.Cond.code ({ cls := "StaveHouse$SoundFile", name := "loadTrack", desc := "(J)V" } : Jvm.MethodName) prog_10_method_13_code (5 : Nat) (Option.none : Option Jvm.ClassFile.FieldType)) ∈ wAll := wA_8 (j := 79) rfl rfl
theorem k_8_195 : (Jvm.Cond.methodLink "StaveHouse$Scribe" (175 : Nat) ({ cls := "StaveHouse$Scribe", name := "writeSpan", desc := "(II)V" } : Jvm.MethodName)) ∈ wAll := wA_8 (j := 195) rfl rfl
theorem k_8_197 : (Jvm.Cond.instanceMethod ({ cls := "StaveHouse$Scribe", name := "writeSpan", desc := "(II)V" } : Jvm.MethodName)) ∈ wAll := wA_8 (j := 197) rfl rfl
theorem ks_118 : (Jvm.Cond.selects "StaveHouse$Scribe" ({ cls := "StaveHouse$Scribe", name := "writeSpan", desc := "(II)V" } : Jvm.MethodName) ({ cls := "StaveHouse$Scribe", name := "writeSpan", desc := "(II)V" } : Jvm.MethodName)) ∈ wAll := wA_s (j := 118) rfl rfl
theorem k_8_198 : (Jvm.Cond.code ({ cls := "StaveHouse$Scribe", name := "writeSpan", desc := "(II)V" } : Jvm.MethodName) prog_9_method_12_code (7 : Nat) (Option.none : Option Jvm.ClassFile.FieldType)) ∈ wAll := wA_8 (j := 198) rfl rfl
theorem k_7_123 : (Jvm.Cond.methodLink "StaveHouse" (264 : Nat) ({ cls := "StaveHouse$Performance", name := "write", desc := "(LStaveHouse$Piece;LStaveHouse$ByteRow;)V" } : Jvm.MethodName)) ∈ wAll := wA_7 (j := 123) rfl rfl
theorem k_7_124 : (Jvm.Cond.instanceMethod ({ cls := "StaveHouse$Performance", name := "write", desc := "(LStaveHouse$Piece;LStaveHouse$ByteRow;)V" } : Jvm.MethodName)) ∈ wAll := wA_7 (j := 124) rfl rfl
theorem k_7_125 : (Jvm.Cond.selects "StaveHouse$Performance" ({ cls := "StaveHouse$Performance", name := "write", desc := "(LStaveHouse$Piece;LStaveHouse$ByteRow;)V" } : Jvm.MethodName) ({ cls := "StaveHouse$Performance", name := "write", desc := "(LStaveHouse$Piece;LStaveHouse$ByteRow;)V" } : Jvm.MethodName)) ∈ wAll := wA_7 (j := 125) rfl rfl
theorem k_7_126 : (Jvm.Cond.code ({ cls := "StaveHouse$Performance", name := "write", desc := "(LStaveHouse$Piece;LStaveHouse$ByteRow;)V" } : Jvm.MethodName) prog_7_method_17_code (4 : Nat) (Option.none : Option Jvm.ClassFile.FieldType)) ∈ wAll := wA_7 (j := 126) rfl rfl
theorem k_8_191 : (Jvm.Cond.methodLink "StaveHouse$Scribe" (169 : Nat) ({ cls := "StaveHouse$Scribe", name := "writeRest", desc := "(II)V" } : Jvm.MethodName)) ∈ wAll := wA_8 (j := 191) rfl rfl
theorem k_8_193 : (Jvm.Cond.instanceMethod ({ cls := "StaveHouse$Scribe", name := "writeRest", desc := "(II)V" } : Jvm.MethodName)) ∈ wAll := wA_8 (j := 193) rfl rfl
theorem ks_117 : (Jvm.Cond.selects "StaveHouse$Scribe" ({ cls := "StaveHouse$Scribe", name := "writeRest", desc := "(II)V" } : Jvm.MethodName) ({ cls := "StaveHouse$Scribe", name := "writeRest", desc := "(II)V" } : Jvm.MethodName)) ∈ wAll := wA_s (j := 117) rfl rfl
theorem k_8_194 : (Jvm.Cond.code ({ cls := "StaveHouse$Scribe", name := "writeRest", desc := "(II)V" } : Jvm.MethodName) prog_9_method_11_code (3 : Nat) (Option.none : Option Jvm.ClassFile.FieldType)) ∈ wAll := wA_8 (j := 194) rfl rfl
theorem k_8_222 : (Jvm.Cond.methodLink "StaveHouse$Scribe" (172 : Nat) ({ cls := "StaveHouse$Scribe", name := "spellEvent", desc := "()V" } : Jvm.MethodName)) ∈ wAll := wA_8 (j := 222) rfl rfl
theorem k_8_224 : (Jvm.Cond.instanceMethod ({ cls := "StaveHouse$Scribe", name := "spellEvent", desc := "()V" } : Jvm.MethodName)) ∈ wAll := wA_8 (j := 224) rfl rfl
theorem ks_121 : (Jvm.Cond.selects "StaveHouse$Scribe" ({ cls := "StaveHouse$Scribe", name := "spellEvent", desc := "()V" } : Jvm.MethodName) ({ cls := "StaveHouse$Scribe", name := "spellEvent", desc := "()V" } : Jvm.MethodName)) ∈ wAll := wA_s (j := 121) rfl rfl
theorem k_8_225 : (Jvm.Cond.code ({ cls := "StaveHouse$Scribe", name := "spellEvent", desc := "()V" } : Jvm.MethodName) prog_9_method_7_code (3 : Nat) (Option.none : Option Jvm.ClassFile.FieldType)) ∈ wAll := wA_8 (j := 225) rfl rfl
theorem W_prog_6_method_4_code_0 : chW prog_6_method_4_code 0 [42, 180, 0, 31, 154, 0, 14, 16, 15, 16, 16, 42, 180, 0, 49, 104, 96, 172, 42, 182, 0, 52, 3, 61, 3, 62, 29, 42, 180, 0, 31, 162, 0, 155, 42, 180] := chW_of (by decide +kernel)
theorem d_6_4_0 : decode prog_6_method_4_code 0 = .ok (.aload_n 0, 1) := D_42 W_prog_6_method_4_code_0 0 rfl rfl
theorem d_6_4_1 : decode prog_6_method_4_code 1 = .ok (.getfield 31, 3) := D_180 W_prog_6_method_4_code_0 1 rfl rfl rfl
theorem d_6_4_4 : decode prog_6_method_4_code 4 = .ok (.ifCond .ne 14, 3) := D_154 W_prog_6_method_4_code_0 4 rfl rfl rfl
theorem d_6_4_18 : decode prog_6_method_4_code 18 = .ok (.aload_n 0, 1) := D_42 W_prog_6_method_4_code_0 18 rfl rfl
theorem d_6_4_19 : decode prog_6_method_4_code 19 = .ok (.invokevirtual 52, 3) := D_182 W_prog_6_method_4_code_0 19 rfl rfl rfl
theorem W_prog_11_method_2_code_0 : chW prog_11_method_2_code 0 [42, 43, 182, 0, 43, 42, 3, 181, 0, 47, 3, 61, 28, 42, 180, 0, 51, 162, 0, 38, 42, 180, 0, 47, 17, 1, 44, 162, 0, 28, 42, 43, 28, 182, 0, 54] := chW_of (by decide +kernel)
theorem d_11_2_0 : decode prog_11_method_2_code 0 = .ok (.aload_n 0, 1) := D_42 W_prog_11_method_2_code_0 0 rfl rfl
theorem d_11_2_1 : decode prog_11_method_2_code 1 = .ok (.aload_n 1, 1) := D_43 W_prog_11_method_2_code_0 1 rfl rfl
theorem d_11_2_2 : decode prog_11_method_2_code 2 = .ok (.invokevirtual 43, 3) := D_182 W_prog_11_method_2_code_0 2 rfl rfl rfl
theorem W_prog_4_method_2_code_0 : chW prog_4_method_2_code 0 [43, 180, 0, 46, 16, 100, 184, 0, 52, 62, 42, 43, 29, 182, 0, 58, 42, 43, 29, 28, 182, 0, 62, 42, 3, 181, 0, 66, 3, 54, 4, 3, 54, 5, 21, 5] := chW_of (by decide +kernel)
theorem d_4_2_0 : decode prog_4_method_2_code 0 = .ok (.aload_n 1, 1) := D_43 W_prog_4_method_2_code_0 0 rfl rfl
theorem d_4_2_1 : decode prog_4_method_2_code 1 = .ok (.getfield 46, 3) := D_180 W_prog_4_method_2_code_0 1 rfl rfl rfl
theorem d_4_2_4 : decode prog_4_method_2_code 4 = .ok (.bipush 100, 2) := D_16 W_prog_4_method_2_code_0 4 rfl rfl rfl
theorem d_4_2_6 : decode prog_4_method_2_code 6 = .ok (.invokestatic 52, 3) := D_184 W_prog_4_method_2_code_0 6 rfl rfl rfl
theorem d_4_2_9 : decode prog_4_method_2_code 9 = .ok (.istore_n 3, 1) := D_62 W_prog_4_method_2_code_0 9 rfl rfl
theorem d_4_2_10 : decode prog_4_method_2_code 10 = .ok (.aload_n 0, 1) := D_42 W_prog_4_method_2_code_0 10 rfl rfl
theorem d_4_2_11 : decode prog_4_method_2_code 11 = .ok (.aload_n 1, 1) := D_43 W_prog_4_method_2_code_0 11 rfl rfl
theorem d_4_2_12 : decode prog_4_method_2_code 12 = .ok (.iload_n 3, 1) := D_29 W_prog_4_method_2_code_0 12 rfl rfl
theorem d_4_2_13 : decode prog_4_method_2_code 13 = .ok (.invokevirtual 58, 3) := D_182 W_prog_4_method_2_code_0 13 rfl rfl rfl
theorem W_prog_1_method_21_code_0 : chW prog_1_method_21_code 0 [42, 27, 182, 0, 97, 77, 42, 27, 182, 1, 0, 78, 44, 198, 0, 7, 45, 199, 0, 5, 2, 172, 42, 180, 0, 22, 182, 0, 92, 45, 44, 42, 180, 0, 22, 182] := chW_of (by decide +kernel)
theorem d_1_21_0 : decode prog_1_method_21_code 0 = .ok (.aload_n 0, 1) := D_42 W_prog_1_method_21_code_0 0 rfl rfl
theorem d_1_21_1 : decode prog_1_method_21_code 1 = .ok (.iload_n 1, 1) := D_27 W_prog_1_method_21_code_0 1 rfl rfl
theorem d_1_21_2 : decode prog_1_method_21_code 2 = .ok (.invokevirtual 97, 3) := D_182 W_prog_1_method_21_code_0 2 rfl rfl rfl
theorem d_1_21_5 : decode prog_1_method_21_code 5 = .ok (.astore_n 2, 1) := D_77 W_prog_1_method_21_code_0 5 rfl rfl
theorem d_1_21_6 : decode prog_1_method_21_code 6 = .ok (.aload_n 0, 1) := D_42 W_prog_1_method_21_code_0 6 rfl rfl
theorem d_1_21_7 : decode prog_1_method_21_code 7 = .ok (.iload_n 1, 1) := D_27 W_prog_1_method_21_code_0 7 rfl rfl
theorem d_1_21_8 : decode prog_1_method_21_code 8 = .ok (.invokevirtual 256, 3) := D_182 W_prog_1_method_21_code_0 8 rfl rfl rfl
theorem d_1_21_11 : decode prog_1_method_21_code 11 = .ok (.astore_n 3, 1) := D_78 W_prog_1_method_21_code_0 11 rfl rfl
theorem d_1_21_12 : decode prog_1_method_21_code 12 = .ok (.aload_n 2, 1) := D_44 W_prog_1_method_21_code_0 12 rfl rfl
theorem d_1_21_13 : decode prog_1_method_21_code 13 = .ok (.ifnull 7, 3) := D_198 W_prog_1_method_21_code_0 13 rfl rfl rfl
theorem d_1_21_16 : decode prog_1_method_21_code 16 = .ok (.aload_n 3, 1) := D_45 W_prog_1_method_21_code_0 16 rfl rfl
theorem d_1_21_17 : decode prog_1_method_21_code 17 = .ok (.ifnonnull 5, 3) := D_199 W_prog_1_method_21_code_0 17 rfl rfl rfl
theorem d_1_21_22 : decode prog_1_method_21_code 22 = .ok (.aload_n 0, 1) := D_42 W_prog_1_method_21_code_0 22 rfl rfl
theorem d_1_21_23 : decode prog_1_method_21_code 23 = .ok (.getfield 22, 3) := D_180 W_prog_1_method_21_code_0 23 rfl rfl rfl
theorem d_1_21_26 : decode prog_1_method_21_code 26 = .ok (.invokevirtual 92, 3) := D_182 W_prog_1_method_21_code_0 26 rfl rfl rfl
theorem d_1_21_29 : decode prog_1_method_21_code 29 = .ok (.aload_n 3, 1) := D_45 W_prog_1_method_21_code_0 29 rfl rfl
theorem d_1_21_30 : decode prog_1_method_21_code 30 = .ok (.aload_n 2, 1) := D_44 W_prog_1_method_21_code_0 30 rfl rfl
theorem d_1_21_31 : decode prog_1_method_21_code 31 = .ok (.aload_n 0, 1) := D_42 W_prog_1_method_21_code_0 31 rfl rfl
theorem W_prog_1_method_21_code_32 : chW prog_1_method_21_code 32 [180, 0, 22, 182, 1, 8, 42, 180, 0, 22, 180, 0, 56, 172] := chW_of (by decide +kernel)
theorem d_1_21_32 : decode prog_1_method_21_code 32 = .ok (.getfield 22, 3) := D_180 W_prog_1_method_21_code_32 0 rfl rfl rfl
theorem d_1_21_35 : decode prog_1_method_21_code 35 = .ok (.invokevirtual 264, 3) := D_182 W_prog_1_method_21_code_32 3 rfl rfl rfl
theorem W_prog_7_method_17_code_0 : chW prog_7_method_17_code 0 [44, 18, 201, 182, 0, 203, 44, 16, 6, 7, 182, 0, 209, 44, 4, 5, 182, 0, 209, 44, 43, 180, 0, 47, 4, 96, 5, 182, 0, 209, 44, 16, 96, 5, 182, 0] := chW_of (by decide +kernel)
theorem d_7_17_0 : decode prog_7_method_17_code 0 = .ok (.aload_n 2, 1) := D_44 W_prog_7_method_17_code_0 0 rfl rfl
theorem d_7_17_1 : decode prog_7_method_17_code 1 = .ok (.ldc 201, 2) := D_18 W_prog_7_method_17_code_0 1 rfl rfl
theorem d_7_17_3 : decode prog_7_method_17_code 3 = .ok (.invokevirtual 203, 3) := D_182 W_prog_7_method_17_code_0 3 rfl rfl rfl
theorem W_prog_7_method_21_code_0 : chW prog_7_method_21_code 0 [43, 184, 0, 237, 61, 43, 16, 88, 7, 184, 0, 226, 43, 42, 180, 0, 241, 182, 0, 233, 43, 42, 180, 0, 244, 4, 100, 184, 0, 247, 182, 0, 233, 43, 16, 24] := chW_of (by decide +kernel)
theorem d_7_21_0 : decode prog_7_method_21_code 0 = .ok (.aload_n 1, 1) := D_43 W_prog_7_method_21_code_0 0 rfl rfl
theorem d_7_21_1 : decode prog_7_method_21_code 1 = .ok (.invokestatic 237, 3) := D_184 W_prog_7_method_21_code_0 1 rfl rfl rfl
theorem W_prog_10_method_2_code_0 : chW prog_10_method_2_code 0 [42, 43, 181, 0, 23, 42, 3, 181, 0, 27, 42, 43, 180, 0, 31, 181, 0, 36, 42, 3, 181, 0, 39, 42, 3, 181, 0, 42, 42, 182, 0, 45, 42, 182, 0, 48] := chW_of (by decide +kernel)
theorem d_10_2_0 : decode prog_10_method_2_code 0 = .ok (.aload_n 0, 1) := D_42 W_prog_10_method_2_code_0 0 rfl rfl
theorem d_10_2_1 : decode prog_10_method_2_code 1 = .ok (.aload_n 1, 1) := D_43 W_prog_10_method_2_code_0 1 rfl rfl
theorem d_10_2_2 : decode prog_10_method_2_code 2 = .ok (.putfield 23, 3) := D_181 W_prog_10_method_2_code_0 2 rfl rfl rfl
theorem d_10_2_5 : decode prog_10_method_2_code 5 = .ok (.aload_n 0, 1) := D_42 W_prog_10_method_2_code_0 5 rfl rfl
theorem d_10_2_6 : decode prog_10_method_2_code 6 = .ok (.iconst 0, 1) := D_3 W_prog_10_method_2_code_0 6 rfl rfl
theorem d_10_2_7 : decode prog_10_method_2_code 7 = .ok (.putfield 27, 3) := D_181 W_prog_10_method_2_code_0 7 rfl rfl rfl
theorem d_10_2_10 : decode prog_10_method_2_code 10 = .ok (.aload_n 0, 1) := D_42 W_prog_10_method_2_code_0 10 rfl rfl
theorem d_10_2_11 : decode prog_10_method_2_code 11 = .ok (.aload_n 1, 1) := D_43 W_prog_10_method_2_code_0 11 rfl rfl
theorem d_10_2_12 : decode prog_10_method_2_code 12 = .ok (.getfield 31, 3) := D_180 W_prog_10_method_2_code_0 12 rfl rfl rfl
theorem d_10_2_15 : decode prog_10_method_2_code 15 = .ok (.putfield 36, 3) := D_181 W_prog_10_method_2_code_0 15 rfl rfl rfl
theorem d_10_2_18 : decode prog_10_method_2_code 18 = .ok (.aload_n 0, 1) := D_42 W_prog_10_method_2_code_0 18 rfl rfl
theorem d_10_2_19 : decode prog_10_method_2_code 19 = .ok (.iconst 0, 1) := D_3 W_prog_10_method_2_code_0 19 rfl rfl
theorem d_10_2_20 : decode prog_10_method_2_code 20 = .ok (.putfield 39, 3) := D_181 W_prog_10_method_2_code_0 20 rfl rfl rfl
theorem d_10_2_23 : decode prog_10_method_2_code 23 = .ok (.aload_n 0, 1) := D_42 W_prog_10_method_2_code_0 23 rfl rfl
theorem d_10_2_24 : decode prog_10_method_2_code 24 = .ok (.iconst 0, 1) := D_3 W_prog_10_method_2_code_0 24 rfl rfl
theorem d_10_2_25 : decode prog_10_method_2_code 25 = .ok (.putfield 42, 3) := D_181 W_prog_10_method_2_code_0 25 rfl rfl rfl
theorem d_10_2_28 : decode prog_10_method_2_code 28 = .ok (.aload_n 0, 1) := D_42 W_prog_10_method_2_code_0 28 rfl rfl
theorem d_10_2_29 : decode prog_10_method_2_code 29 = .ok (.invokevirtual 45, 3) := D_182 W_prog_10_method_2_code_0 29 rfl rfl rfl
theorem W_prog_10_method_13_code_0 : chW prog_10_method_13_code 0 [42, 180, 0, 42, 62, 42, 3, 181, 0, 120, 42, 9, 181, 0, 123, 42, 3, 181, 0, 127, 3, 54, 4, 21, 4, 17, 11, 184, 162, 0, 38, 42, 180, 0, 39, 154] := chW_of (by decide +kernel)
theorem d_10_13_0 : decode prog_10_method_13_code 0 = .ok (.aload_n 0, 1) := D_42 W_prog_10_method_13_code_0 0 rfl rfl
theorem d_10_13_1 : decode prog_10_method_13_code 1 = .ok (.getfield 42, 3) := D_180 W_prog_10_method_13_code_0 1 rfl rfl rfl
theorem d_10_13_4 : decode prog_10_method_13_code 4 = .ok (.istore_n 3, 1) := D_62 W_prog_10_method_13_code_0 4 rfl rfl
theorem d_10_13_5 : decode prog_10_method_13_code 5 = .ok (.aload_n 0, 1) := D_42 W_prog_10_method_13_code_0 5 rfl rfl
theorem d_10_13_6 : decode prog_10_method_13_code 6 = .ok (.iconst 0, 1) := D_3 W_prog_10_method_13_code_0 6 rfl rfl
theorem d_10_13_7 : decode prog_10_method_13_code 7 = .ok (.putfield 120, 3) := D_181 W_prog_10_method_13_code_0 7 rfl rfl rfl
theorem d_10_13_10 : decode prog_10_method_13_code 10 = .ok (.aload_n 0, 1) := D_42 W_prog_10_method_13_code_0 10 rfl rfl
theorem d_10_13_11 : decode prog_10_method_13_code 11 = .ok (.lconst 0, 1) := D_9 W_prog_10_method_13_code_0 11 rfl rfl
theorem d_10_13_12 : decode prog_10_method_13_code 12 = .ok (.putfield 123, 3) := D_181 W_prog_10_method_13_code_0 12 rfl rfl rfl
theorem d_10_13_15 : decode prog_10_method_13_code 15 = .ok (.aload_n 0, 1) := D_42 W_prog_10_method_13_code_0 15 rfl rfl
theorem d_10_13_16 : decode prog_10_method_13_code 16 = .ok (.iconst 0, 1) := D_3 W_prog_10_method_13_code_0 16 rfl rfl
theorem d_10_13_17 : decode prog_10_method_13_code 17 = .ok (.putfield 127, 3) := D_181 W_prog_10_method_13_code_0 17 rfl rfl rfl
theorem d_10_13_20 : decode prog_10_method_13_code 20 = .ok (.iconst 0, 1) := D_3 W_prog_10_method_13_code_0 20 rfl rfl
theorem d_10_13_21 : decode prog_10_method_13_code 21 = .ok (.istore 4, 2) := D_54 W_prog_10_method_13_code_0 21 rfl rfl
theorem d_10_13_23 : decode prog_10_method_13_code 23 = .ok (.iload 4, 2) := D_21 W_prog_10_method_13_code_0 23 rfl rfl
theorem d_10_13_25 : decode prog_10_method_13_code 25 = .ok (.sipush 3000, 3) := D_17 W_prog_10_method_13_code_0 25 rfl rfl rfl
theorem d_10_13_28 : decode prog_10_method_13_code 28 = .ok (.if_icmp .ge 38, 3) := D_162 W_prog_10_method_13_code_0 28 rfl rfl rfl
theorem d_10_13_31 : decode prog_10_method_13_code 31 = .ok (.aload_n 0, 1) := D_42 W_prog_10_method_13_code_0 31 rfl rfl
theorem W_prog_10_method_13_code_32 : chW prog_10_method_13_code 32 [180, 0, 39, 154, 0, 31, 42, 180, 0, 27, 133, 31, 148, 156, 0, 21, 42, 180, 0, 127, 154, 0, 14, 42, 29, 182, 0, 130, 132, 4, 1, 167, 255, 216, 29, 54] := chW_of (by decide +kernel)
theorem d_10_13_32 : decode prog_10_method_13_code 32 = .ok (.getfield 39, 3) := D_180 W_prog_10_method_13_code_32 0 rfl rfl rfl
theorem d_10_13_35 : decode prog_10_method_13_code 35 = .ok (.ifCond .ne 31, 3) := D_154 W_prog_10_method_13_code_32 3 rfl rfl rfl
theorem d_10_13_38 : decode prog_10_method_13_code 38 = .ok (.aload_n 0, 1) := D_42 W_prog_10_method_13_code_32 6 rfl rfl
theorem d_10_13_39 : decode prog_10_method_13_code 39 = .ok (.getfield 27, 3) := D_180 W_prog_10_method_13_code_32 7 rfl rfl rfl
theorem d_10_13_42 : decode prog_10_method_13_code 42 = .ok (.i2l, 1) := D_133 W_prog_10_method_13_code_32 10 rfl rfl
theorem d_10_13_43 : decode prog_10_method_13_code 43 = .ok (.lload_n 1, 1) := D_31 W_prog_10_method_13_code_32 11 rfl rfl
theorem d_10_13_44 : decode prog_10_method_13_code 44 = .ok (.lcmp, 1) := D_148 W_prog_10_method_13_code_32 12 rfl rfl
theorem d_10_13_45 : decode prog_10_method_13_code 45 = .ok (.ifCond .ge 21, 3) := D_156 W_prog_10_method_13_code_32 13 rfl rfl rfl
theorem d_10_13_48 : decode prog_10_method_13_code 48 = .ok (.aload_n 0, 1) := D_42 W_prog_10_method_13_code_32 16 rfl rfl
theorem d_10_13_49 : decode prog_10_method_13_code 49 = .ok (.getfield 127, 3) := D_180 W_prog_10_method_13_code_32 17 rfl rfl rfl
theorem d_10_13_52 : decode prog_10_method_13_code 52 = .ok (.ifCond .ne 14, 3) := D_154 W_prog_10_method_13_code_32 20 rfl rfl rfl
theorem d_10_13_55 : decode prog_10_method_13_code 55 = .ok (.aload_n 0, 1) := D_42 W_prog_10_method_13_code_32 23 rfl rfl
theorem d_10_13_56 : decode prog_10_method_13_code 56 = .ok (.iload_n 3, 1) := D_29 W_prog_10_method_13_code_32 24 rfl rfl
theorem d_10_13_57 : decode prog_10_method_13_code 57 = .ok (.invokevirtual 130, 3) := D_182 W_prog_10_method_13_code_32 25 rfl rfl rfl
theorem W_prog_9_method_10_code_0 : chW prog_9_method_10_code 0 [42, 27, 182, 0, 70, 54, 4, 9, 55, 5, 27, 54, 7, 21, 7, 21, 4, 162, 0, 26, 22, 5, 42, 180, 0, 22, 180, 0, 81, 5, 50, 21, 7, 47, 97, 55] := chW_of (by decide +kernel)
theorem d_9_10_0 : decode prog_9_method_10_code 0 = .ok (.aload_n 0, 1) := D_42 W_prog_9_method_10_code_0 0 rfl rfl
theorem d_9_10_1 : decode prog_9_method_10_code 1 = .ok (.iload_n 1, 1) := D_27 W_prog_9_method_10_code_0 1 rfl rfl
theorem d_9_10_2 : decode prog_9_method_10_code 2 = .ok (.invokevirtual 70, 3) := D_182 W_prog_9_method_10_code_0 2 rfl rfl rfl
theorem d_9_10_5 : decode prog_9_method_10_code 5 = .ok (.istore 4, 2) := D_54 W_prog_9_method_10_code_0 5 rfl rfl
theorem d_9_10_7 : decode prog_9_method_10_code 7 = .ok (.lconst 0, 1) := D_9 W_prog_9_method_10_code_0 7 rfl rfl
theorem d_9_10_8 : decode prog_9_method_10_code 8 = .ok (.lstore 5, 2) := D_55 W_prog_9_method_10_code_0 8 rfl rfl
theorem d_9_10_10 : decode prog_9_method_10_code 10 = .ok (.iload_n 1, 1) := D_27 W_prog_9_method_10_code_0 10 rfl rfl
theorem d_9_10_11 : decode prog_9_method_10_code 11 = .ok (.istore 7, 2) := D_54 W_prog_9_method_10_code_0 11 rfl rfl
theorem d_9_10_13 : decode prog_9_method_10_code 13 = .ok (.iload 7, 2) := D_21 W_prog_9_method_10_code_0 13 rfl rfl
theorem d_9_10_15 : decode prog_9_method_10_code 15 = .ok (.iload 4, 2) := D_21 W_prog_9_method_10_code_0 15 rfl rfl
theorem d_9_10_17 : decode prog_9_method_10_code 17 = .ok (.if_icmp .ge 26, 3) := D_162 W_prog_9_method_10_code_0 17 rfl rfl rfl
theorem W_prog_9_method_10_code_32 : chW prog_9_method_10_code 32 [7, 47, 97, 55, 5, 132, 7, 1, 167, 255, 229, 42, 180, 0, 26, 18, 156, 182, 0, 137, 42, 180, 0, 26, 16, 97, 28, 96, 182, 0, 151, 42, 180, 0, 26, 22] := chW_of (by decide +kernel)
theorem d_9_10_43 : decode prog_9_method_10_code 43 = .ok (.aload_n 0, 1) := D_42 W_prog_9_method_10_code_32 11 rfl rfl
theorem d_9_10_44 : decode prog_9_method_10_code 44 = .ok (.getfield 26, 3) := D_180 W_prog_9_method_10_code_32 12 rfl rfl rfl
theorem d_9_10_47 : decode prog_9_method_10_code 47 = .ok (.ldc 156, 2) := D_18 W_prog_9_method_10_code_32 15 rfl rfl
theorem d_9_10_49 : decode prog_9_method_10_code 49 = .ok (.invokevirtual 137, 3) := D_182 W_prog_9_method_10_code_32 17 rfl rfl rfl
theorem W_prog_9_method_11_code_0 : chW prog_9_method_11_code 0 [42, 180, 0, 12, 3, 181, 0, 115, 42, 27, 28, 182, 0, 175, 177] := chW_of (by decide +kernel)
theorem d_9_11_0 : decode prog_9_method_11_code 0 = .ok (.aload_n 0, 1) := D_42 W_prog_9_method_11_code_0 0 rfl rfl
theorem d_9_11_1 : decode prog_9_method_11_code 1 = .ok (.getfield 12, 3) := D_180 W_prog_9_method_11_code_0 1 rfl rfl rfl
theorem d_9_11_4 : decode prog_9_method_11_code 4 = .ok (.iconst 0, 1) := D_3 W_prog_9_method_11_code_0 4 rfl rfl
theorem d_9_11_5 : decode prog_9_method_11_code 5 = .ok (.putfield 115, 3) := D_181 W_prog_9_method_11_code_0 5 rfl rfl rfl
theorem d_9_11_8 : decode prog_9_method_11_code 8 = .ok (.aload_n 0, 1) := D_42 W_prog_9_method_11_code_0 8 rfl rfl
theorem d_9_11_9 : decode prog_9_method_11_code 9 = .ok (.iload_n 1, 1) := D_27 W_prog_9_method_11_code_0 9 rfl rfl
theorem d_9_11_10 : decode prog_9_method_11_code 10 = .ok (.iload_n 2, 1) := D_28 W_prog_9_method_11_code_0 10 rfl rfl
theorem d_9_11_11 : decode prog_9_method_11_code 11 = .ok (.invokevirtual 175, 3) := D_182 W_prog_9_method_11_code_0 11 rfl rfl rfl
theorem W_prog_9_method_12_code_0 : chW prog_9_method_12_code 0 [27, 62, 3, 54, 4, 21, 4, 18, 180, 162, 0, 113, 29, 28, 162, 0, 108, 42, 180, 0, 46, 158, 0, 101, 28, 29, 100, 42, 180, 0, 46, 29, 42, 180, 0, 46] := chW_of (by decide +kernel)
theorem d_9_12_0 : decode prog_9_method_12_code 0 = .ok (.iload_n 1, 1) := D_27 W_prog_9_method_12_code_0 0 rfl rfl
theorem d_9_12_1 : decode prog_9_method_12_code 1 = .ok (.istore_n 3, 1) := D_62 W_prog_9_method_12_code_0 1 rfl rfl
theorem d_9_12_2 : decode prog_9_method_12_code 2 = .ok (.iconst 0, 1) := D_3 W_prog_9_method_12_code_0 2 rfl rfl
theorem d_9_12_3 : decode prog_9_method_12_code 3 = .ok (.istore 4, 2) := D_54 W_prog_9_method_12_code_0 3 rfl rfl
theorem d_9_12_5 : decode prog_9_method_12_code 5 = .ok (.iload 4, 2) := D_21 W_prog_9_method_12_code_0 5 rfl rfl
theorem d_9_12_7 : decode prog_9_method_12_code 7 = .ok (.ldc 180, 2) := D_18 W_prog_9_method_12_code_0 7 rfl rfl
theorem d_9_12_9 : decode prog_9_method_12_code 9 = .ok (.if_icmp .ge 113, 3) := D_162 W_prog_9_method_12_code_0 9 rfl rfl rfl
theorem d_9_12_12 : decode prog_9_method_12_code 12 = .ok (.iload_n 3, 1) := D_29 W_prog_9_method_12_code_0 12 rfl rfl
theorem d_9_12_13 : decode prog_9_method_12_code 13 = .ok (.iload_n 2, 1) := D_28 W_prog_9_method_12_code_0 13 rfl rfl
theorem d_9_12_14 : decode prog_9_method_12_code 14 = .ok (.if_icmp .ge 108, 3) := D_162 W_prog_9_method_12_code_0 14 rfl rfl rfl
theorem d_9_12_17 : decode prog_9_method_12_code 17 = .ok (.aload_n 0, 1) := D_42 W_prog_9_method_12_code_0 17 rfl rfl
theorem d_9_12_18 : decode prog_9_method_12_code 18 = .ok (.getfield 46, 3) := D_180 W_prog_9_method_12_code_0 18 rfl rfl rfl
theorem d_9_12_21 : decode prog_9_method_12_code 21 = .ok (.ifCond .le 101, 3) := D_158 W_prog_9_method_12_code_0 21 rfl rfl rfl
theorem d_9_12_24 : decode prog_9_method_12_code 24 = .ok (.iload_n 2, 1) := D_28 W_prog_9_method_12_code_0 24 rfl rfl
theorem d_9_12_25 : decode prog_9_method_12_code 25 = .ok (.iload_n 3, 1) := D_29 W_prog_9_method_12_code_0 25 rfl rfl
theorem d_9_12_26 : decode prog_9_method_12_code 26 = .ok (.isub, 1) := D_100 W_prog_9_method_12_code_0 26 rfl rfl
theorem d_9_12_27 : decode prog_9_method_12_code 27 = .ok (.aload_n 0, 1) := D_42 W_prog_9_method_12_code_0 27 rfl rfl
theorem d_9_12_28 : decode prog_9_method_12_code 28 = .ok (.getfield 46, 3) := D_180 W_prog_9_method_12_code_0 28 rfl rfl rfl
theorem d_9_12_31 : decode prog_9_method_12_code 31 = .ok (.iload_n 3, 1) := D_29 W_prog_9_method_12_code_0 31 rfl rfl
theorem W_prog_9_method_12_code_32 : chW prog_9_method_12_code 32 [42, 180, 0, 46, 112, 100, 184, 0, 181, 54, 5, 42, 180, 0, 22, 180, 0, 40, 7, 46, 42, 180, 0, 22, 180, 0, 40, 8, 46, 29, 42, 180, 0, 46, 112, 21] := chW_of (by decide +kernel)
theorem d_9_12_32 : decode prog_9_method_12_code 32 = .ok (.aload_n 0, 1) := D_42 W_prog_9_method_12_code_32 0 rfl rfl
theorem d_9_12_33 : decode prog_9_method_12_code 33 = .ok (.getfield 46, 3) := D_180 W_prog_9_method_12_code_32 1 rfl rfl rfl
theorem d_9_12_36 : decode prog_9_method_12_code 36 = .ok (.irem, 1) := D_112 W_prog_9_method_12_code_32 4 rfl rfl
theorem d_9_12_37 : decode prog_9_method_12_code 37 = .ok (.isub, 1) := D_100 W_prog_9_method_12_code_32 5 rfl rfl
theorem d_9_12_38 : decode prog_9_method_12_code 38 = .ok (.invokestatic 181, 3) := D_184 W_prog_9_method_12_code_32 6 rfl rfl rfl
theorem d_9_12_41 : decode prog_9_method_12_code 41 = .ok (.istore 5, 2) := D_54 W_prog_9_method_12_code_32 9 rfl rfl
theorem d_9_12_43 : decode prog_9_method_12_code 43 = .ok (.aload_n 0, 1) := D_42 W_prog_9_method_12_code_32 11 rfl rfl
theorem d_9_12_44 : decode prog_9_method_12_code 44 = .ok (.getfield 22, 3) := D_180 W_prog_9_method_12_code_32 12 rfl rfl rfl
theorem d_9_12_47 : decode prog_9_method_12_code 47 = .ok (.getfield 40, 3) := D_180 W_prog_9_method_12_code_32 15 rfl rfl rfl
theorem d_9_12_50 : decode prog_9_method_12_code 50 = .ok (.iconst 4, 1) := D_7 W_prog_9_method_12_code_32 18 rfl rfl
theorem d_9_12_51 : decode prog_9_method_12_code 51 = .ok (.iaload, 1) := D_46 W_prog_9_method_12_code_32 19 rfl rfl
theorem d_9_12_52 : decode prog_9_method_12_code 52 = .ok (.aload_n 0, 1) := D_42 W_prog_9_method_12_code_32 20 rfl rfl
theorem d_9_12_53 : decode prog_9_method_12_code 53 = .ok (.getfield 22, 3) := D_180 W_prog_9_method_12_code_32 21 rfl rfl rfl
theorem d_9_12_56 : decode prog_9_method_12_code 56 = .ok (.getfield 40, 3) := D_180 W_prog_9_method_12_code_32 24 rfl rfl rfl
theorem d_9_12_59 : decode prog_9_method_12_code 59 = .ok (.iconst 5, 1) := D_8 W_prog_9_method_12_code_32 27 rfl rfl
theorem d_9_12_60 : decode prog_9_method_12_code 60 = .ok (.iaload, 1) := D_46 W_prog_9_method_12_code_32 28 rfl rfl
theorem d_9_12_61 : decode prog_9_method_12_code 61 = .ok (.iload_n 3, 1) := D_29 W_prog_9_method_12_code_32 29 rfl rfl
theorem d_9_12_62 : decode prog_9_method_12_code 62 = .ok (.aload_n 0, 1) := D_42 W_prog_9_method_12_code_32 30 rfl rfl
theorem d_9_12_63 : decode prog_9_method_12_code 63 = .ok (.getfield 46, 3) := D_180 W_prog_9_method_12_code_32 31 rfl rfl rfl
theorem W_prog_9_method_12_code_64 : chW prog_9_method_12_code 64 [0, 46, 112, 21, 5, 184, 0, 183, 54, 6, 29, 21, 6, 184, 0, 187, 96, 62, 42, 21, 6, 29, 28, 162, 0, 7, 4, 167, 0, 4, 3, 182, 0, 190, 29, 42] := chW_of (by decide +kernel)
theorem d_9_12_66 : decode prog_9_method_12_code 66 = .ok (.irem, 1) := D_112 W_prog_9_method_12_code_64 2 rfl rfl
theorem d_9_12_67 : decode prog_9_method_12_code 67 = .ok (.iload 5, 2) := D_21 W_prog_9_method_12_code_64 3 rfl rfl
theorem d_9_12_69 : decode prog_9_method_12_code 69 = .ok (.invokestatic 183, 3) := D_184 W_prog_9_method_12_code_64 5 rfl rfl rfl
theorem W_prog_1_method_28_code_0 : chW prog_1_method_28_code 0 [42, 27, 182, 1, 0, 78, 42, 27, 182, 0, 97, 58, 4, 45, 198, 0, 19, 25, 4, 198, 0, 14, 28, 155, 0, 10, 28, 17, 3, 232, 164, 0, 5, 2, 172, 45] := chW_of (by decide +kernel)
theorem d_1_28_0 : decode prog_1_method_28_code 0 = .ok (.aload_n 0, 1) := D_42 W_prog_1_method_28_code_0 0 rfl rfl
theorem d_1_28_1 : decode prog_1_method_28_code 1 = .ok (.iload_n 1, 1) := D_27 W_prog_1_method_28_code_0 1 rfl rfl
theorem d_1_28_2 : decode prog_1_method_28_code 2 = .ok (.invokevirtual 256, 3) := D_182 W_prog_1_method_28_code_0 2 rfl rfl rfl
theorem d_1_28_5 : decode prog_1_method_28_code 5 = .ok (.astore_n 3, 1) := D_78 W_prog_1_method_28_code_0 5 rfl rfl
theorem d_1_28_6 : decode prog_1_method_28_code 6 = .ok (.aload_n 0, 1) := D_42 W_prog_1_method_28_code_0 6 rfl rfl
theorem d_1_28_7 : decode prog_1_method_28_code 7 = .ok (.iload_n 1, 1) := D_27 W_prog_1_method_28_code_0 7 rfl rfl
theorem d_1_28_8 : decode prog_1_method_28_code 8 = .ok (.invokevirtual 97, 3) := D_182 W_prog_1_method_28_code_0 8 rfl rfl rfl
theorem d_1_28_11 : decode prog_1_method_28_code 11 = .ok (.astore 4, 2) := D_58 W_prog_1_method_28_code_0 11 rfl rfl
theorem d_1_28_13 : decode prog_1_method_28_code 13 = .ok (.aload_n 3, 1) := D_45 W_prog_1_method_28_code_0 13 rfl rfl
theorem d_1_28_14 : decode prog_1_method_28_code 14 = .ok (.ifnull 19, 3) := D_198 W_prog_1_method_28_code_0 14 rfl rfl rfl
theorem d_1_28_17 : decode prog_1_method_28_code 17 = .ok (.aload 4, 2) := D_25 W_prog_1_method_28_code_0 17 rfl rfl
theorem d_1_28_19 : decode prog_1_method_28_code 19 = .ok (.ifnull 14, 3) := D_198 W_prog_1_method_28_code_0 19 rfl rfl rfl
theorem d_1_28_22 : decode prog_1_method_28_code 22 = .ok (.iload_n 2, 1) := D_28 W_prog_1_method_28_code_0 22 rfl rfl
theorem d_1_28_23 : decode prog_1_method_28_code 23 = .ok (.ifCond .lt 10, 3) := D_155 W_prog_1_method_28_code_0 23 rfl rfl rfl
theorem d_1_28_26 : decode prog_1_method_28_code 26 = .ok (.iload_n 2, 1) := D_28 W_prog_1_method_28_code_0 26 rfl rfl
theorem d_1_28_27 : decode prog_1_method_28_code 27 = .ok (.sipush 1000, 3) := D_17 W_prog_1_method_28_code_0 27 rfl rfl rfl
theorem d_1_28_30 : decode prog_1_method_28_code 30 = .ok (.if_icmp .le 5, 3) := D_164 W_prog_1_method_28_code_0 30 rfl rfl rfl
theorem W_prog_1_method_28_code_32 : chW prog_1_method_28_code 32 [5, 2, 172, 45, 25, 4, 28, 182, 1, 41, 172] := chW_of (by decide +kernel)
theorem d_1_28_35 : decode prog_1_method_28_code 35 = .ok (.aload_n 3, 1) := D_45 W_prog_1_method_28_code_32 3 rfl rfl
theorem d_1_28_36 : decode prog_1_method_28_code 36 = .ok (.aload 4, 2) := D_25 W_prog_1_method_28_code_32 4 rfl rfl
theorem d_1_28_38 : decode prog_1_method_28_code 38 = .ok (.iload_n 2, 1) := D_28 W_prog_1_method_28_code_32 6 rfl rfl
theorem d_1_28_39 : decode prog_1_method_28_code 39 = .ok (.invokevirtual 297, 3) := D_182 W_prog_1_method_28_code_32 7 rfl rfl rfl
theorem W_prog_1_method_32_code_0 : chW prog_1_method_32_code 0 [42, 27, 28, 182, 0, 101, 58, 5, 42, 27, 29, 182, 0, 101, 58, 6, 25, 5, 198, 0, 24, 25, 6, 198, 0, 19, 28, 29, 159, 0, 14, 21, 4, 155, 0, 9] := chW_of (by decide +kernel)
theorem d_1_32_0 : decode prog_1_method_32_code 0 = .ok (.aload_n 0, 1) := D_42 W_prog_1_method_32_code_0 0 rfl rfl
theorem d_1_32_1 : decode prog_1_method_32_code 1 = .ok (.iload_n 1, 1) := D_27 W_prog_1_method_32_code_0 1 rfl rfl
theorem d_1_32_2 : decode prog_1_method_32_code 2 = .ok (.iload_n 2, 1) := D_28 W_prog_1_method_32_code_0 2 rfl rfl
theorem d_1_32_3 : decode prog_1_method_32_code 3 = .ok (.invokevirtual 101, 3) := D_182 W_prog_1_method_32_code_0 3 rfl rfl rfl
theorem d_1_32_6 : decode prog_1_method_32_code 6 = .ok (.astore 5, 2) := D_58 W_prog_1_method_32_code_0 6 rfl rfl
theorem d_1_32_8 : decode prog_1_method_32_code 8 = .ok (.aload_n 0, 1) := D_42 W_prog_1_method_32_code_0 8 rfl rfl
theorem d_1_32_9 : decode prog_1_method_32_code 9 = .ok (.iload_n 1, 1) := D_27 W_prog_1_method_32_code_0 9 rfl rfl
theorem d_1_32_10 : decode prog_1_method_32_code 10 = .ok (.iload_n 3, 1) := D_29 W_prog_1_method_32_code_0 10 rfl rfl
theorem d_1_32_11 : decode prog_1_method_32_code 11 = .ok (.invokevirtual 101, 3) := D_182 W_prog_1_method_32_code_0 11 rfl rfl rfl
theorem d_1_32_14 : decode prog_1_method_32_code 14 = .ok (.astore 6, 2) := D_58 W_prog_1_method_32_code_0 14 rfl rfl
theorem d_1_32_16 : decode prog_1_method_32_code 16 = .ok (.aload 5, 2) := D_25 W_prog_1_method_32_code_0 16 rfl rfl
theorem d_1_32_18 : decode prog_1_method_32_code 18 = .ok (.ifnull 24, 3) := D_198 W_prog_1_method_32_code_0 18 rfl rfl rfl
theorem d_1_32_21 : decode prog_1_method_32_code 21 = .ok (.aload 6, 2) := D_25 W_prog_1_method_32_code_0 21 rfl rfl
theorem d_1_32_23 : decode prog_1_method_32_code 23 = .ok (.ifnull 19, 3) := D_198 W_prog_1_method_32_code_0 23 rfl rfl rfl
theorem d_1_32_26 : decode prog_1_method_32_code 26 = .ok (.iload_n 2, 1) := D_28 W_prog_1_method_32_code_0 26 rfl rfl
theorem d_1_32_27 : decode prog_1_method_32_code 27 = .ok (.iload_n 3, 1) := D_29 W_prog_1_method_32_code_0 27 rfl rfl
theorem d_1_32_28 : decode prog_1_method_32_code 28 = .ok (.if_icmp .eq 14, 3) := D_159 W_prog_1_method_32_code_0 28 rfl rfl rfl
theorem d_1_32_31 : decode prog_1_method_32_code 31 = .ok (.iload 4, 2) := D_21 W_prog_1_method_32_code_0 31 rfl rfl
theorem W_prog_1_method_32_code_32 : chW prog_1_method_32_code 32 [4, 155, 0, 9, 21, 4, 6, 164, 0, 7, 20, 0, 191, 173, 25, 5, 182, 1, 65, 54, 7, 25, 6, 182, 1, 65, 54, 8, 21, 7, 2, 159, 0, 9, 21, 8] := chW_of (by decide +kernel)
theorem d_1_32_33 : decode prog_1_method_32_code 33 = .ok (.ifCond .lt 9, 3) := D_155 W_prog_1_method_32_code_32 1 rfl rfl rfl
theorem d_1_32_36 : decode prog_1_method_32_code 36 = .ok (.iload 4, 2) := D_21 W_prog_1_method_32_code_32 4 rfl rfl
theorem d_1_32_38 : decode prog_1_method_32_code 38 = .ok (.iconst 3, 1) := D_6 W_prog_1_method_32_code_32 6 rfl rfl
theorem d_1_32_39 : decode prog_1_method_32_code 39 = .ok (.if_icmp .le 7, 3) := D_164 W_prog_1_method_32_code_32 7 rfl rfl rfl
theorem d_1_32_46 : decode prog_1_method_32_code 46 = .ok (.aload 5, 2) := D_25 W_prog_1_method_32_code_32 14 rfl rfl
theorem d_1_32_48 : decode prog_1_method_32_code 48 = .ok (.invokevirtual 321, 3) := D_182 W_prog_1_method_32_code_32 16 rfl rfl rfl
theorem d_6_4_22 : decode prog_6_method_4_code 22 = .ok (.iconst 0, 1) := D_3 W_prog_6_method_4_code_0 22 rfl rfl
theorem d_6_4_23 : decode prog_6_method_4_code 23 = .ok (.istore_n 2, 1) := D_61 W_prog_6_method_4_code_0 23 rfl rfl
theorem d_6_4_24 : decode prog_6_method_4_code 24 = .ok (.iconst 0, 1) := D_3 W_prog_6_method_4_code_0 24 rfl rfl
theorem d_6_4_25 : decode prog_6_method_4_code 25 = .ok (.istore_n 3, 1) := D_62 W_prog_6_method_4_code_0 25 rfl rfl
theorem d_6_4_7 : decode prog_6_method_4_code 7 = .ok (.bipush 15, 2) := D_16 W_prog_6_method_4_code_0 7 rfl rfl rfl
theorem d_6_4_9 : decode prog_6_method_4_code 9 = .ok (.bipush 16, 2) := D_16 W_prog_6_method_4_code_0 9 rfl rfl rfl
theorem d_6_4_11 : decode prog_6_method_4_code 11 = .ok (.aload_n 0, 1) := D_42 W_prog_6_method_4_code_0 11 rfl rfl
theorem d_6_4_12 : decode prog_6_method_4_code 12 = .ok (.getfield 49, 3) := D_180 W_prog_6_method_4_code_0 12 rfl rfl rfl
theorem d_6_4_15 : decode prog_6_method_4_code 15 = .ok (.imul, 1) := D_104 W_prog_6_method_4_code_0 15 rfl rfl
theorem d_6_4_16 : decode prog_6_method_4_code 16 = .ok (.iadd, 1) := D_96 W_prog_6_method_4_code_0 16 rfl rfl
theorem d_6_4_17 : decode prog_6_method_4_code 17 = .ok (.ireturn, 1) := D_172 W_prog_6_method_4_code_0 17 rfl rfl
theorem d_6_4_26 : decode prog_6_method_4_code 26 = .ok (.iload_n 3, 1) := D_29 W_prog_6_method_4_code_0 26 rfl rfl
theorem d_6_4_27 : decode prog_6_method_4_code 27 = .ok (.aload_n 0, 1) := D_42 W_prog_6_method_4_code_0 27 rfl rfl
theorem d_6_4_28 : decode prog_6_method_4_code 28 = .ok (.getfield 31, 3) := D_180 W_prog_6_method_4_code_0 28 rfl rfl rfl
theorem d_6_4_31 : decode prog_6_method_4_code 31 = .ok (.if_icmp .ge 155, 3) := D_162 W_prog_6_method_4_code_0 31 rfl rfl rfl
theorem W_prog_6_method_4_code_160 : chW prog_6_method_4_code 160 [4, 5, 182, 0, 45, 153, 0, 7, 4, 167, 0, 4, 3, 61, 25, 4, 28, 181, 0, 73, 132, 3, 1, 167, 255, 99, 28, 153, 0, 14, 16, 11, 16, 16, 42, 180] := chW_of (by decide +kernel)
theorem d_6_4_186 : decode prog_6_method_4_code 186 = .ok (.iload_n 2, 1) := D_28 W_prog_6_method_4_code_160 26 rfl rfl
theorem d_6_4_187 : decode prog_6_method_4_code 187 = .ok (.ifCond .eq 14, 3) := D_153 W_prog_6_method_4_code_160 27 rfl rfl rfl
theorem W_prog_6_method_4_code_192 : chW prog_6_method_4_code 192 [16, 16, 42, 180, 0, 49, 104, 96, 172, 42, 43, 182, 0, 77, 42, 180, 0, 81, 153, 0, 16, 16, 14, 16, 16, 42, 180, 0, 49, 104, 96, 167, 0, 4, 3, 172] := chW_of (by decide +kernel)
theorem d_6_4_201 : decode prog_6_method_4_code 201 = .ok (.aload_n 0, 1) := D_42 W_prog_6_method_4_code_192 9 rfl rfl
theorem d_6_4_202 : decode prog_6_method_4_code 202 = .ok (.aload_n 1, 1) := D_43 W_prog_6_method_4_code_192 10 rfl rfl
theorem d_6_4_203 : decode prog_6_method_4_code 203 = .ok (.invokevirtual 77, 3) := D_182 W_prog_6_method_4_code_192 11 rfl rfl rfl
theorem W_prog_10_method_2_code_32 : chW prog_10_method_2_code 32 [42, 182, 0, 48, 42, 3, 181, 0, 51, 3, 61, 28, 17, 11, 184, 162, 0, 122, 42, 180, 0, 39, 154, 0, 115, 42, 180, 0, 51, 42, 180, 0, 9, 3, 46, 162] := chW_of (by decide +kernel)
theorem d_10_2_32 : decode prog_10_method_2_code 32 = .ok (.aload_n 0, 1) := D_42 W_prog_10_method_2_code_32 0 rfl rfl
theorem d_10_2_33 : decode prog_10_method_2_code 33 = .ok (.invokevirtual 48, 3) := D_182 W_prog_10_method_2_code_32 1 rfl rfl rfl
theorem d_9_12_72 : decode prog_9_method_12_code 72 = .ok (.istore 6, 2) := D_54 W_prog_9_method_12_code_64 8 rfl rfl
theorem d_9_12_74 : decode prog_9_method_12_code 74 = .ok (.iload_n 3, 1) := D_29 W_prog_9_method_12_code_64 10 rfl rfl
theorem d_9_12_75 : decode prog_9_method_12_code 75 = .ok (.iload 6, 2) := D_21 W_prog_9_method_12_code_64 11 rfl rfl
theorem d_9_12_77 : decode prog_9_method_12_code 77 = .ok (.invokestatic 187, 3) := D_184 W_prog_9_method_12_code_64 13 rfl rfl rfl
theorem d_9_12_80 : decode prog_9_method_12_code 80 = .ok (.iadd, 1) := D_96 W_prog_9_method_12_code_64 16 rfl rfl
theorem d_9_12_81 : decode prog_9_method_12_code 81 = .ok (.istore_n 3, 1) := D_62 W_prog_9_method_12_code_64 17 rfl rfl
theorem d_9_12_82 : decode prog_9_method_12_code 82 = .ok (.aload_n 0, 1) := D_42 W_prog_9_method_12_code_64 18 rfl rfl
theorem d_9_12_83 : decode prog_9_method_12_code 83 = .ok (.iload 6, 2) := D_21 W_prog_9_method_12_code_64 19 rfl rfl
theorem d_9_12_85 : decode prog_9_method_12_code 85 = .ok (.iload_n 3, 1) := D_29 W_prog_9_method_12_code_64 21 rfl rfl
theorem d_9_12_86 : decode prog_9_method_12_code 86 = .ok (.iload_n 2, 1) := D_28 W_prog_9_method_12_code_64 22 rfl rfl
theorem d_9_12_87 : decode prog_9_method_12_code 87 = .ok (.if_icmp .ge 7, 3) := D_162 W_prog_9_method_12_code_64 23 rfl rfl rfl
theorem d_9_12_94 : decode prog_9_method_12_code 94 = .ok (.iconst 0, 1) := D_3 W_prog_9_method_12_code_64 30 rfl rfl
theorem d_9_12_90 : decode prog_9_method_12_code 90 = .ok (.iconst 1, 1) := D_4 W_prog_9_method_12_code_64 26 rfl rfl
theorem d_9_12_91 : decode prog_9_method_12_code 91 = .ok (.goto 4, 3) := D_167 W_prog_9_method_12_code_64 27 rfl rfl rfl
theorem d_9_12_95 : decode prog_9_method_12_code 95 = .ok (.invokevirtual 190, 3) := D_182 W_prog_9_method_12_code_64 31 rfl rfl rfl
theorem d_1_32_51 : decode prog_1_method_32_code 51 = .ok (.istore 7, 2) := D_54 W_prog_1_method_32_code_32 19 rfl rfl
theorem d_1_32_53 : decode prog_1_method_32_code 53 = .ok (.aload 6, 2) := D_25 W_prog_1_method_32_code_32 21 rfl rfl
theorem d_1_32_55 : decode prog_1_method_32_code 55 = .ok (.invokevirtual 321, 3) := D_182 W_prog_1_method_32_code_32 23 rfl rfl rfl
theorem d_1_32_58 : decode prog_1_method_32_code 58 = .ok (.istore 8, 2) := D_54 W_prog_1_method_32_code_32 26 rfl rfl
theorem d_1_32_60 : decode prog_1_method_32_code 60 = .ok (.iload 7, 2) := D_21 W_prog_1_method_32_code_32 28 rfl rfl
theorem d_1_32_62 : decode prog_1_method_32_code 62 = .ok (.iconst (-1), 1) := D_2 W_prog_1_method_32_code_32 30 rfl rfl
theorem d_1_32_63 : decode prog_1_method_32_code 63 = .ok (.if_icmp .eq 9, 3) := D_159 W_prog_1_method_32_code_32 31 rfl rfl rfl
theorem W_prog_1_method_32_code_64 : chW prog_1_method_32_code 64 [0, 9, 21, 8, 2, 160, 0, 7, 3, 167, 0, 14, 25, 6, 25, 5, 21, 7, 21, 8, 182, 1, 68, 54, 9, 21, 9, 154, 0, 5, 9, 173, 25, 6, 180, 0] := chW_of (by decide +kernel)
theorem d_1_32_66 : decode prog_1_method_32_code 66 = .ok (.iload 8, 2) := D_21 W_prog_1_method_32_code_64 2 rfl rfl
theorem d_1_32_68 : decode prog_1_method_32_code 68 = .ok (.iconst (-1), 1) := D_2 W_prog_1_method_32_code_64 4 rfl rfl
theorem d_1_32_69 : decode prog_1_method_32_code 69 = .ok (.if_icmp .ne 7, 3) := D_160 W_prog_1_method_32_code_64 5 rfl rfl rfl
