theorem k_2_136 : (Jvm.Cond.fieldLink "StaveHouse" (271 : Nat) "StaveHouse" "spareFile" "LStaveHouse$SoundFile;") ∈ wAll := wA_2 (j := 136) rfl rfl
theorem k_7_209 : (Jvm.Cond.classLink "StaveHouse" (275 : Nat) "StaveHouse$SoundFile") ∈ wAll := wA_7 (j := 209) rfl rfl
theorem k_7_210 : (Jvm.Cond.instantiable "StaveHouse$SoundFile" (15 : Nat)) ∈ wAll := wA_7 (j := 210) rfl rfl
theorem k_1_23 : (Jvm.Cond.initialized "StaveHouse$SoundFile") ∈ wAll := wA_1 (j := 23) rfl rfl
theorem k_7_214 : (Jvm.Cond.methodLink "StaveHouse$SoundFile" (3 : Nat) ({ cls := "java/lang/Object", name := "<init>", desc := "()V" } : Jvm.MethodName)) ∈ wAll := wA_7 (j := 214) rfl rfl
theorem k_7_217 : (Jvm.Cond.fieldLink "StaveHouse$SoundFile" (9 : Nat) "StaveHouse$SoundFile" "head" "[I") ∈ wAll := wA_7 (j := 217) rfl rfl
theorem k_7_215 : (Jvm.Cond.classLink "StaveHouse$SoundFile" (15 : Nat) "[[J") ∈ wAll := wA_7 (j := 215) rfl rfl
theorem k_7_220 : (Jvm.Cond.fieldLink "StaveHouse$SoundFile" (17 : Nat) "StaveHouse$SoundFile" "sounds" "[[J") ∈ wAll := wA_7 (j := 220) rfl rfl
theorem k_7_226 : (Jvm.Cond.fieldLink "StaveHouse$SoundFile" (20 : Nat) "StaveHouse$SoundFile" "numbers" "[I") ∈ wAll := wA_7 (j := 226) rfl rfl
theorem k_7_213 : (Jvm.Cond.code ({ cls := "StaveHouse$SoundFile", name := "<init>", desc := "()V" } : Jvm.MethodName) prog_10_method_1_code (1 : Nat) (Option.none : Option Jvm.ClassFile.FieldType)) ∈ wAll := wA_7 (j := 213) rfl rfl
theorem k_7_212 : (Jvm.Cond.instanceMethod ({ cls := "StaveHouse$SoundFile", name := "<init>", desc := "()V" } : Jvm.MethodName)) ∈ wAll := wA_7 (j := 212) rfl rfl
theorem k_7_228 : (Jvm.Cond.fieldLink "StaveHouse$SoundFile" (23 : Nat) "StaveHouse$SoundFile" "row" "LStaveHouse$ByteRow;") ∈ wAll := wA_7 (j := 228) rfl rfl
theorem k_7_229 : (Jvm.Cond.fieldLink "StaveHouse$SoundFile" (27 : Nat) "StaveHouse$SoundFile" "at" "I") ∈ wAll := wA_7 (j := 229) rfl rfl
theorem k_1_43 : (Jvm.Cond.fieldLink "StaveHouse$SoundFile" (31 : Nat) "StaveHouse$ByteRow" "size" "I") ∈ wAll := wA_1 (j := 43) rfl rfl
theorem k_7_230 : (Jvm.Cond.fieldLink "StaveHouse$SoundFile" (36 : Nat) "StaveHouse$SoundFile" "limit" "I") ∈ wAll := wA_7 (j := 230) rfl rfl
theorem k_7_231 : (Jvm.Cond.fieldLink "StaveHouse$SoundFile" (39 : Nat) "StaveHouse$SoundFile" "wrong" "I") ∈ wAll := wA_7 (j := 231) rfl rfl
theorem k_7_223 : (Jvm.Cond.fieldLink "StaveHouse$SoundFile" (42 : Nat) "StaveHouse$SoundFile" "count" "I") ∈ wAll := wA_7 (j := 223) rfl rfl
theorem k_7_236 : (Jvm.Cond.fieldLink "StaveHouse$SoundFile" (73 : Nat) "StaveHouse$SoundFile" "keyTold" "Z") ∈ wAll := wA_7 (j := 236) rfl rfl
theorem k_7_237 : (Jvm.Cond.fieldLink "StaveHouse$SoundFile" (77 : Nat) "StaveHouse$SoundFile" "timeTold" "Z") ∈ wAll := wA_7 (j := 237) rfl rfl
theorem k_7_238 : (Jvm.Cond.fieldLink "StaveHouse$SoundFile" (80 : Nat) "StaveHouse$SoundFile" "tempoTold" "Z") ∈ wAll := wA_7 (j := 238) rfl rfl
theorem k_8_37 : (Jvm.Cond.code ({ cls := "StaveHouse$SoundFile", name := "setDefaults", desc := "()V" } : Jvm.MethodName) prog_10_method_3_code (2 : Nat) (Option.none : Option Jvm.ClassFile.FieldType)) ∈ wAll := wA_8 (j := 37) rfl rfl
theorem k_8_34 : (Jvm.Cond.methodLink "StaveHouse$SoundFile" (45 : Nat) ({ cls := "StaveHouse$SoundFile", name := "setDefaults", desc := "()V" } : Jvm.MethodName)) ∈ wAll := wA_8 (j := 34) rfl rfl
theorem k_8_36 : (Jvm.Cond.instanceMethod ({ cls := "StaveHouse$SoundFile", name := "setDefaults", desc := "()V" } : Jvm.MethodName)) ∈ wAll := wA_8 (j := 36) rfl rfl
theorem ks_92 : (Jvm.Cond.selects "StaveHouse$SoundFile" ({ cls := "StaveHouse$SoundFile", name := "setDefaults", desc := "()V" } : Jvm.MethodName) ({ cls := "StaveHouse$SoundFile", name := "setDefaults", desc := "()V" } : Jvm.MethodName)) ∈ wAll := wA_s (j := 92) rfl rfl
theorem k_8_43 : (Jvm.Cond.methodLink "StaveHouse$SoundFile" (98 : Nat) ({ cls := "java/lang/String", name := "length", desc := "()I" } : Jvm.MethodName)) ∈ wAll := wA_8 (j := 43) rfl rfl
theorem k_8_44 : (Jvm.Cond.methodLink "StaveHouse$SoundFile" (103 : Nat) ({ cls := "java/lang/String", name := "charAt", desc := "(I)C" } : Jvm.MethodName)) ∈ wAll := wA_8 (j := 44) rfl rfl
theorem k_8_56 : (Jvm.Cond.code ({ cls := "StaveHouse$SoundFile", name := "refuse", desc := "(II)V" } : Jvm.MethodName) prog_10_method_4_code (3 : Nat) (Option.none : Option Jvm.ClassFile.FieldType)) ∈ wAll := wA_8 (j := 56) rfl rfl
theorem k_8_53 : (Jvm.Cond.methodLink "StaveHouse$SoundFile" (83 : Nat) ({ cls := "StaveHouse$SoundFile", name := "refuse", desc := "(II)V" } : Jvm.MethodName)) ∈ wAll := wA_8 (j := 53) rfl rfl
theorem k_8_55 : (Jvm.Cond.instanceMethod ({ cls := "StaveHouse$SoundFile", name := "refuse", desc := "(II)V" } : Jvm.MethodName)) ∈ wAll := wA_8 (j := 55) rfl rfl
theorem ks_96 : (Jvm.Cond.selects "StaveHouse$SoundFile" ({ cls := "StaveHouse$SoundFile", name := "refuse", desc := "(II)V" } : Jvm.MethodName) ({ cls := "StaveHouse$SoundFile", name := "refuse", desc := "(II)V" } : Jvm.MethodName)) ∈ wAll := wA_s (j := 96) rfl rfl
theorem k_8_52 : (Jvm.Cond.code ({ cls := "StaveHouse$SoundFile", name := "take", desc := "()I" } : Jvm.MethodName) prog_10_method_5_code (1 : Nat) (Option.some Jvm.ClassFile.FieldType.int)) ∈ wAll := wA_8 (j := 52) rfl rfl
theorem k_8_49 : (Jvm.Cond.methodLink "StaveHouse$SoundFile" (90 : Nat) ({ cls := "StaveHouse$SoundFile", name := "take", desc := "()I" } : Jvm.MethodName)) ∈ wAll := wA_8 (j := 49) rfl rfl
theorem k_8_51 : (Jvm.Cond.instanceMethod ({ cls := "StaveHouse$SoundFile", name := "take", desc := "()I" } : Jvm.MethodName)) ∈ wAll := wA_8 (j := 51) rfl rfl
theorem ks_95 : (Jvm.Cond.selects "StaveHouse$SoundFile" ({ cls := "StaveHouse$SoundFile", name := "take", desc := "()I" } : Jvm.MethodName) ({ cls := "StaveHouse$SoundFile", name := "take", desc := "()I" } : Jvm.MethodName)) ∈ wAll := wA_s (j := 95) rfl rfl
theorem k_8_48 : (Jvm.Cond.code ({ cls := "StaveHouse$SoundFile", name := "takeOnly", desc := "(II)V" } : Jvm.MethodName) prog_10_method_6_code (4 : Nat) (Option.none : Option Jvm.ClassFile.FieldType)) ∈ wAll := wA_8 (j := 48) rfl rfl
theorem k_8_45 : (Jvm.Cond.methodLink "StaveHouse$SoundFile" (107 : Nat) ({ cls := "StaveHouse$SoundFile", name := "takeOnly", desc := "(II)V" } : Jvm.MethodName)) ∈ wAll := wA_8 (j := 45) rfl rfl
theorem k_8_47 : (Jvm.Cond.instanceMethod ({ cls := "StaveHouse$SoundFile", name := "takeOnly", desc := "(II)V" } : Jvm.MethodName)) ∈ wAll := wA_8 (j := 47) rfl rfl
theorem ks_94 : (Jvm.Cond.selects "StaveHouse$SoundFile" ({ cls := "StaveHouse$SoundFile", name := "takeOnly", desc := "(II)V" } : Jvm.MethodName) ({ cls := "StaveHouse$SoundFile", name := "takeOnly", desc := "(II)V" } : Jvm.MethodName)) ∈ wAll := wA_s (j := 94) rfl rfl
theorem k_8_62 : (Jvm.Cond.constantLong "StaveHouse$SoundFile" (94 : Nat) (256 : Int64)) ∈ wAll := wA_8 (j := 62) rfl rfl
theorem k_8_61 : (Jvm.Cond.code ({ cls := "StaveHouse$SoundFile", name := "takeWide", desc := "(I)J" } : Jvm.MethodName) prog_10_method_7_code (5 : Nat) (Option.some Jvm.ClassFile.FieldType.long)) ∈ wAll := wA_8 (j := 61) rfl rfl
theorem k_8_58 : (Jvm.Cond.methodLink "StaveHouse$SoundFile" (54 : Nat) ({ cls := "StaveHouse$SoundFile", name := "takeWide", desc := "(I)J" } : Jvm.MethodName)) ∈ wAll := wA_8 (j := 58) rfl rfl
theorem k_8_60 : (Jvm.Cond.instanceMethod ({ cls := "StaveHouse$SoundFile", name := "takeWide", desc := "(I)J" } : Jvm.MethodName)) ∈ wAll := wA_8 (j := 60) rfl rfl
theorem ks_97 : (Jvm.Cond.selects "StaveHouse$SoundFile" ({ cls := "StaveHouse$SoundFile", name := "takeWide", desc := "(I)J" } : Jvm.MethodName) ({ cls := "StaveHouse$SoundFile", name := "takeWide", desc := "(I)J" } : Jvm.MethodName)) ∈ wAll := wA_s (j := 97) rfl rfl
theorem k_8_63 : (Jvm.Cond.constantLong "StaveHouse$SoundFile" (110 : Nat) (6 : Int64)) ∈ wAll := wA_8 (j := 63) rfl rfl
theorem k_8_64 : (Jvm.Cond.constantLong "StaveHouse$SoundFile" (112 : Nat) (8 : Int64)) ∈ wAll := wA_8 (j := 64) rfl rfl
theorem k_8_68 : (Jvm.Cond.code ({ cls := "StaveHouse$SoundFile", name := "takeBounded", desc := "(IJJ)I" } : Jvm.MethodName) prog_10_method_8_code (9 : Nat) (Option.some Jvm.ClassFile.FieldType.int)) ∈ wAll := wA_8 (j := 68) rfl rfl
theorem k_8_65 : (Jvm.Cond.methodLink "StaveHouse$SoundFile" (114 : Nat) ({ cls := "StaveHouse$SoundFile", name := "takeBounded", desc := "(IJJ)I" } : Jvm.MethodName)) ∈ wAll := wA_8 (j := 65) rfl rfl
theorem k_8_67 : (Jvm.Cond.instanceMethod ({ cls := "StaveHouse$SoundFile", name := "takeBounded", desc := "(IJJ)I" } : Jvm.MethodName)) ∈ wAll := wA_8 (j := 67) rfl rfl
theorem ks_98 : (Jvm.Cond.selects "StaveHouse$SoundFile" ({ cls := "StaveHouse$SoundFile", name := "takeBounded", desc := "(IJJ)I" } : Jvm.MethodName) ({ cls := "StaveHouse$SoundFile", name := "takeBounded", desc := "(IJJ)I" } : Jvm.MethodName)) ∈ wAll := wA_s (j := 98) rfl rfl
theorem k_8_69 : (Jvm.Cond.constantLong "StaveHouse$SoundFile" (118 : Nat) (960 : Int64)) ∈ wAll := wA_8 (j := 69) rfl rfl
theorem k_8_73 : (Jvm.Cond.code ({ cls := "StaveHouse$SoundFile", name := "skip", desc := "(J)V" } : Jvm.MethodName) prog_10_method_11_code (3 : Nat) (Option.none : Option Jvm.ClassFile.FieldType)) ∈ wAll := wA_8 (j := 73) rfl rfl
theorem k_8_70 : (Jvm.Cond.methodLink "StaveHouse$SoundFile" (70 : Nat) ({ cls := "StaveHouse$SoundFile", name := "skip", desc := "(J)V" } : Jvm.MethodName)) ∈ wAll := wA_8 (j := 70) rfl rfl
theorem k_8_72 : (Jvm.Cond.instanceMethod ({ cls := "StaveHouse$SoundFile", name := "skip", desc := "(J)V" } : Jvm.MethodName)) ∈ wAll := wA_8 (j := 72) rfl rfl
theorem ks_99 : (Jvm.Cond.selects "StaveHouse$SoundFile" ({ cls := "StaveHouse$SoundFile", name := "skip", desc := "(J)V" } : Jvm.MethodName) ({ cls := "StaveHouse$SoundFile", name := "skip", desc := "(J)V" } : Jvm.MethodName)) ∈ wAll := wA_s (j := 99) rfl rfl
theorem k_8_41 : (Jvm.Cond.code ({ cls := "StaveHouse$SoundFile", name := "loadHead", desc := "()V" } : Jvm.MethodName) prog_10_method_12_code (5 : Nat) (Option.none : Option Jvm.ClassFile.FieldType)) ∈ wAll := wA_8 (j := 41) rfl rfl
theorem k_8_38 : (Jvm.Cond.methodLink "StaveHouse$SoundFile" (48 : Nat) ({ cls := "StaveHouse$SoundFile", name := "loadHead", desc := "()V" } : Jvm.MethodName)) ∈ wAll := wA_8 (j := 38) rfl rfl
theorem k_8_40 : (Jvm.Cond.instanceMethod ({ cls := "StaveHouse$SoundFile", name := "loadHead", desc := "()V" } : Jvm.MethodName)) ∈ wAll := wA_8 (j := 40) rfl rfl
theorem ks_93 : (Jvm.Cond.selects "StaveHouse$SoundFile" ({ cls := "StaveHouse$SoundFile", name := "loadHead", desc := "()V" } : Jvm.MethodName) ({ cls := "StaveHouse$SoundFile", name := "loadHead", desc := "()V" } : Jvm.MethodName)) ∈ wAll := wA_s (j := 93) rfl rfl
theorem k_7_232 : (Jvm.Cond.fieldLink "StaveHouse$SoundFile" (51 : Nat) "StaveHouse$SoundFile" "track" "I") ∈ wAll := wA_7 (j := 232) rfl rfl
theorem k_8_33 : (Jvm.Cond.code ({ cls := "StaveHouse$SoundFile", name := "load", desc := "(LStaveHouse$ByteRow;)I" } : Jvm.MethodName) prog_10_method_2_code (7 : Nat) (Option.some Jvm.ClassFile.FieldType.int)) ∈ wAll := wA_8 (j := 33) rfl rfl
theorem k_8_30 : (Jvm.Cond.methodLink "StaveHouse" (278 : Nat) ({ cls := "StaveHouse$SoundFile", name := "load", desc := "(LStaveHouse$ByteRow;)I" } : Jvm.MethodName)) ∈ wAll := wA_8 (j := 30) rfl rfl
theorem k_8_31 : (Jvm.Cond.instanceMethod ({ cls := "StaveHouse$SoundFile", name := "load", desc := "(LStaveHouse$ByteRow;)I" } : Jvm.MethodName)) ∈ wAll := wA_8 (j := 31) rfl rfl
theorem k_8_32 : (Jvm.Cond.selects "StaveHouse$SoundFile" ({ cls := "StaveHouse$SoundFile", name := "load", desc := "(LStaveHouse$ByteRow;)I" } : Jvm.MethodName) ({ cls := "StaveHouse$SoundFile", name := "load", desc := "(LStaveHouse$ByteRow;)I" } : Jvm.MethodName)) ∈ wAll := wA_8 (j := 32) rfl rfl
theorem k_7_239 : (Jvm.Cond.laysFinal "StaveHouse$SoundFile" "StaveHouse$SoundFile" "head" "[I") ∈ wAll := wA_7 (j := 239) rfl rfl
theorem k_8_1 : (Jvm.Cond.laysFinal "StaveHouse$SoundFile" "StaveHouse$SoundFile" "sounds" "[[J") ∈ wAll := wA_8 (j := 1) rfl rfl
theorem k_8_3 : (Jvm.Cond.lays "StaveHouse$SoundFile" "StaveHouse$SoundFile" "count" "I") ∈ wAll := wA_8 (j := 3) rfl rfl
theorem k_8_5 : (Jvm.Cond.laysFinal "StaveHouse$SoundFile" "StaveHouse$SoundFile" "numbers" "[I") ∈ wAll := wA_8 (j := 5) rfl rfl
theorem k_8_7 : (Jvm.Cond.lays "StaveHouse$SoundFile" "StaveHouse$SoundFile" "row" "LStaveHouse$ByteRow;") ∈ wAll := wA_8 (j := 7) rfl rfl
theorem k_8_9 : (Jvm.Cond.lays "StaveHouse$SoundFile" "StaveHouse$SoundFile" "at" "I") ∈ wAll := wA_8 (j := 9) rfl rfl
theorem k_8_11 : (Jvm.Cond.lays "StaveHouse$SoundFile" "StaveHouse$SoundFile" "limit" "I") ∈ wAll := wA_8 (j := 11) rfl rfl
theorem k_8_13 : (Jvm.Cond.lays "StaveHouse$SoundFile" "StaveHouse$SoundFile" "wrong" "I") ∈ wAll := wA_8 (j := 13) rfl rfl
theorem k_8_15 : (Jvm.Cond.lays "StaveHouse$SoundFile" "StaveHouse$SoundFile" "track" "I") ∈ wAll := wA_8 (j := 15) rfl rfl
theorem k_8_17 : (Jvm.Cond.lays "StaveHouse$SoundFile" "StaveHouse$SoundFile" "status" "I") ∈ wAll := wA_8 (j := 17) rfl rfl
theorem k_8_19 : (Jvm.Cond.lays "StaveHouse$SoundFile" "StaveHouse$SoundFile" "tick" "J") ∈ wAll := wA_8 (j := 19) rfl rfl
theorem k_8_21 : (Jvm.Cond.lays "StaveHouse$SoundFile" "StaveHouse$SoundFile" "trackDone" "Z") ∈ wAll := wA_8 (j := 21) rfl rfl
theorem k_8_23 : (Jvm.Cond.lays "StaveHouse$SoundFile" "StaveHouse$SoundFile" "keyTold" "Z") ∈ wAll := wA_8 (j := 23) rfl rfl
theorem k_8_25 : (Jvm.Cond.lays "StaveHouse$SoundFile" "StaveHouse$SoundFile" "timeTold" "Z") ∈ wAll := wA_8 (j := 25) rfl rfl
theorem k_8_27 : (Jvm.Cond.lays "StaveHouse$SoundFile" "StaveHouse$SoundFile" "tempoTold" "Z") ∈ wAll := wA_8 (j := 27) rfl rfl
theorem d_1_24_0 : decode prog_1_method_24_code 0 = .ok (.aload_n 0, 1) := by decide +kernel
theorem d_1_24_1 : decode prog_1_method_24_code 1 = .ok (.getfield 271, 3) := by decide +kernel
theorem d_1_24_4 : decode prog_1_method_24_code 4 = .ok (.ifnonnull 14, 3) := by decide +kernel
theorem d_1_24_7 : decode prog_1_method_24_code 7 = .ok (.aload_n 0, 1) := by decide +kernel
theorem d_1_24_8 : decode prog_1_method_24_code 8 = .ok (.new 275, 3) := by decide +kernel
theorem d_1_24_11 : decode prog_1_method_24_code 11 = .ok (.dup, 1) := by decide +kernel
theorem d_1_24_12 : decode prog_1_method_24_code 12 = .ok (.invokespecial 277, 3) := by decide +kernel
theorem d_10_1_0 : decode prog_10_method_1_code 0 = .ok (.aload_n 0, 1) := by decide +kernel
theorem d_10_1_1 : decode prog_10_method_1_code 1 = .ok (.invokespecial 3, 3) := by decide +kernel
theorem d_10_1_4 : decode prog_10_method_1_code 4 = .ok (.aload_n 0, 1) := by decide +kernel
theorem d_10_1_5 : decode prog_10_method_1_code 5 = .ok (.bipush 7, 2) := by decide +kernel
theorem d_10_1_7 : decode prog_10_method_1_code 7 = .ok (.newarray .int, 2) := by decide +kernel
theorem d_10_1_9 : decode prog_10_method_1_code 9 = .ok (.putfield 9, 3) := by decide +kernel
theorem d_10_1_12 : decode prog_10_method_1_code 12 = .ok (.aload_n 0, 1) := by decide +kernel
theorem d_10_1_13 : decode prog_10_method_1_code 13 = .ok (.bipush 6, 2) := by decide +kernel
theorem d_10_1_15 : decode prog_10_method_1_code 15 = .ok (.sipush 400, 3) := by decide +kernel
theorem d_10_1_18 : decode prog_10_method_1_code 18 = .ok (.multianewarray 15 2, 4) := by decide +kernel
theorem d_10_1_22 : decode prog_10_method_1_code 22 = .ok (.putfield 17, 3) := by decide +kernel
theorem d_10_1_25 : decode prog_10_method_1_code 25 = .ok (.aload_n 0, 1) := by decide +kernel
theorem d_10_1_26 : decode prog_10_method_1_code 26 = .ok (.bipush 8, 2) := by decide +kernel
theorem d_10_1_28 : decode prog_10_method_1_code 28 = .ok (.newarray .int, 2) := by decide +kernel
theorem d_10_1_30 : decode prog_10_method_1_code 30 = .ok (.putfield 20, 3) := by decide +kernel
theorem d_10_1_33 : decode prog_10_method_1_code 33 = .ok (.return_, 1) := by decide +kernel
theorem d_1_24_15 : decode prog_1_method_24_code 15 = .ok (.putfield 271, 3) := by decide +kernel
theorem d_1_24_18 : decode prog_1_method_24_code 18 = .ok (.aload_n 0, 1) := by decide +kernel
theorem d_1_24_19 : decode prog_1_method_24_code 19 = .ok (.getfield 271, 3) := by decide +kernel
theorem d_1_24_22 : decode prog_1_method_24_code 22 = .ok (.aload_n 0, 1) := by decide +kernel
theorem d_1_24_23 : decode prog_1_method_24_code 23 = .ok (.getfield 14, 3) := by decide +kernel
theorem d_1_24_26 : decode prog_1_method_24_code 26 = .ok (.invokevirtual 278, 3) := by decide +kernel
theorem d_10_2_0 : decode prog_10_method_2_code 0 = .ok (.aload_n 0, 1) := by decide +kernel
theorem d_10_2_1 : decode prog_10_method_2_code 1 = .ok (.aload_n 1, 1) := by decide +kernel
theorem d_10_2_2 : decode prog_10_method_2_code 2 = .ok (.putfield 23, 3) := by decide +kernel
theorem d_10_2_5 : decode prog_10_method_2_code 5 = .ok (.aload_n 0, 1) := by decide +kernel
theorem d_10_2_6 : decode prog_10_method_2_code 6 = .ok (.iconst 0, 1) := by decide +kernel
theorem d_10_2_7 : decode prog_10_method_2_code 7 = .ok (.putfield 27, 3) := by decide +kernel
theorem d_10_2_10 : decode prog_10_method_2_code 10 = .ok (.aload_n 0, 1) := by decide +kernel
theorem d_10_2_11 : decode prog_10_method_2_code 11 = .ok (.aload_n 1, 1) := by decide +kernel
theorem d_10_2_12 : decode prog_10_method_2_code 12 = .ok (.getfield 31, 3) := by decide +kernel
theorem d_10_2_15 : decode prog_10_method_2_code 15 = .ok (.putfield 36, 3) := by decide +kernel
theorem d_10_2_18 : decode prog_10_method_2_code 18 = .ok (.aload_n 0, 1) := by decide +kernel
theorem d_10_2_19 : decode prog_10_method_2_code 19 = .ok (.iconst 0, 1) := by decide +kernel
theorem d_10_2_20 : decode prog_10_method_2_code 20 = .ok (.putfield 39, 3) := by decide +kernel
theorem d_10_2_23 : decode prog_10_method_2_code 23 = .ok (.aload_n 0, 1) := by decide +kernel
theorem d_10_2_24 : decode prog_10_method_2_code 24 = .ok (.iconst 0, 1) := by decide +kernel
theorem d_10_2_25 : decode prog_10_method_2_code 25 = .ok (.putfield 42, 3) := by decide +kernel
theorem d_10_2_28 : decode prog_10_method_2_code 28 = .ok (.aload_n 0, 1) := by decide +kernel
theorem d_10_2_29 : decode prog_10_method_2_code 29 = .ok (.invokevirtual 45, 3) := by decide +kernel
theorem d_10_3_0 : decode prog_10_method_3_code 0 = .ok (.aload_n 0, 1) := by decide +kernel
theorem d_10_3_1 : decode prog_10_method_3_code 1 = .ok (.getfield 9, 3) := by decide +kernel
theorem d_10_3_4 : decode prog_10_method_3_code 4 = .ok (.iconst 0, 1) := by decide +kernel
theorem d_10_3_5 : decode prog_10_method_3_code 5 = .ok (.iconst 0, 1) := by decide +kernel
theorem d_10_3_6 : decode prog_10_method_3_code 6 = .ok (.iastore, 1) := by decide +kernel
theorem d_10_3_7 : decode prog_10_method_3_code 7 = .ok (.aload_n 0, 1) := by decide +kernel
theorem d_10_3_8 : decode prog_10_method_3_code 8 = .ok (.getfield 9, 3) := by decide +kernel
theorem d_10_3_11 : decode prog_10_method_3_code 11 = .ok (.iconst 1, 1) := by decide +kernel
theorem d_10_3_12 : decode prog_10_method_3_code 12 = .ok (.iconst 0, 1) := by decide +kernel
theorem d_10_3_13 : decode prog_10_method_3_code 13 = .ok (.iastore, 1) := by decide +kernel
theorem d_10_3_14 : decode prog_10_method_3_code 14 = .ok (.aload_n 0, 1) := by decide +kernel
theorem d_10_3_15 : decode prog_10_method_3_code 15 = .ok (.getfield 9, 3) := by decide +kernel
theorem d_10_3_18 : decode prog_10_method_3_code 18 = .ok (.iconst 2, 1) := by decide +kernel
theorem d_10_3_19 : decode prog_10_method_3_code 19 = .ok (.iconst 0, 1) := by decide +kernel
theorem d_10_3_20 : decode prog_10_method_3_code 20 = .ok (.iastore, 1) := by decide +kernel
theorem d_10_3_21 : decode prog_10_method_3_code 21 = .ok (.aload_n 0, 1) := by decide +kernel
theorem d_10_3_22 : decode prog_10_method_3_code 22 = .ok (.getfield 9, 3) := by decide +kernel
theorem d_10_3_25 : decode prog_10_method_3_code 25 = .ok (.iconst 3, 1) := by decide +kernel
theorem d_10_3_26 : decode prog_10_method_3_code 26 = .ok (.iconst 0, 1) := by decide +kernel
theorem d_10_3_27 : decode prog_10_method_3_code 27 = .ok (.iastore, 1) := by decide +kernel
theorem d_10_3_28 : decode prog_10_method_3_code 28 = .ok (.aload_n 0, 1) := by decide +kernel
theorem d_10_3_29 : decode prog_10_method_3_code 29 = .ok (.getfield 9, 3) := by decide +kernel
theorem d_10_3_32 : decode prog_10_method_3_code 32 = .ok (.iconst 4, 1) := by decide +kernel
theorem d_10_3_33 : decode prog_10_method_3_code 33 = .ok (.iconst 4, 1) := by decide +kernel
theorem d_10_3_34 : decode prog_10_method_3_code 34 = .ok (.iastore, 1) := by decide +kernel
theorem d_10_3_35 : decode prog_10_method_3_code 35 = .ok (.aload_n 0, 1) := by decide +kernel
theorem d_10_3_36 : decode prog_10_method_3_code 36 = .ok (.getfield 9, 3) := by decide +kernel
theorem d_10_3_39 : decode prog_10_method_3_code 39 = .ok (.iconst 5, 1) := by decide +kernel
theorem d_10_3_40 : decode prog_10_method_3_code 40 = .ok (.iconst 4, 1) := by decide +kernel
theorem d_10_3_41 : decode prog_10_method_3_code 41 = .ok (.iastore, 1) := by decide +kernel
theorem d_10_3_42 : decode prog_10_method_3_code 42 = .ok (.aload_n 0, 1) := by decide +kernel
theorem d_10_3_43 : decode prog_10_method_3_code 43 = .ok (.getfield 9, 3) := by decide +kernel
theorem d_10_3_46 : decode prog_10_method_3_code 46 = .ok (.bipush 6, 2) := by decide +kernel
theorem d_10_3_48 : decode prog_10_method_3_code 48 = .ok (.bipush 120, 2) := by decide +kernel
theorem d_10_3_50 : decode prog_10_method_3_code 50 = .ok (.iastore, 1) := by decide +kernel
theorem d_10_3_51 : decode prog_10_method_3_code 51 = .ok (.aload_n 0, 1) := by decide +kernel
theorem d_10_3_52 : decode prog_10_method_3_code 52 = .ok (.iconst 0, 1) := by decide +kernel
theorem d_10_3_53 : decode prog_10_method_3_code 53 = .ok (.putfield 73, 3) := by decide +kernel
theorem d_10_3_56 : decode prog_10_method_3_code 56 = .ok (.aload_n 0, 1) := by decide +kernel
theorem d_10_3_57 : decode prog_10_method_3_code 57 = .ok (.iconst 0, 1) := by decide +kernel
theorem d_10_3_58 : decode prog_10_method_3_code 58 = .ok (.putfield 77, 3) := by decide +kernel
theorem d_10_3_61 : decode prog_10_method_3_code 61 = .ok (.aload_n 0, 1) := by decide +kernel
theorem d_10_3_62 : decode prog_10_method_3_code 62 = .ok (.iconst 0, 1) := by decide +kernel
theorem d_10_3_63 : decode prog_10_method_3_code 63 = .ok (.putfield 80, 3) := by decide +kernel
theorem d_10_3_66 : decode prog_10_method_3_code 66 = .ok (.iconst 0, 1) := by decide +kernel
theorem d_10_3_67 : decode prog_10_method_3_code 67 = .ok (.istore_n 1, 1) := by decide +kernel
theorem d_10_3_68 : decode prog_10_method_3_code 68 = .ok (.iload_n 1, 1) := by decide +kernel
theorem d_10_3_69 : decode prog_10_method_3_code 69 = .ok (.bipush 8, 2) := by decide +kernel
theorem d_10_3_71 : decode prog_10_method_3_code 71 = .ok (.if_icmp .ge 16, 3) := by decide +kernel
theorem d_10_3_74 : decode prog_10_method_3_code 74 = .ok (.aload_n 0, 1) := by decide +kernel
theorem d_10_3_75 : decode prog_10_method_3_code 75 = .ok (.getfield 20, 3) := by decide +kernel
theorem d_10_3_78 : decode prog_10_method_3_code 78 = .ok (.iload_n 1, 1) := by decide +kernel
theorem d_10_3_79 : decode prog_10_method_3_code 79 = .ok (.iconst (-1), 1) := by decide +kernel
theorem d_10_3_80 : decode prog_10_method_3_code 80 = .ok (.iastore, 1) := by decide +kernel
theorem d_10_3_81 : decode prog_10_method_3_code 81 = .ok (.iinc 1 1, 3) := by decide +kernel
theorem d_10_3_84 : decode prog_10_method_3_code 84 = .ok (.goto (-16), 3) := by decide +kernel
theorem d_10_3_87 : decode prog_10_method_3_code 87 = .ok (.return_, 1) := by decide +kernel
theorem d_10_2_32 : decode prog_10_method_2_code 32 = .ok (.aload_n 0, 1) := by decide +kernel
theorem d_10_2_33 : decode prog_10_method_2_code 33 = .ok (.invokevirtual 48, 3) := by decide +kernel
theorem d_10_12_0 : decode prog_10_method_12_code 0 = .ok (.ldc 96, 2) := by decide +kernel
theorem d_10_12_2 : decode prog_10_method_12_code 2 = .ok (.astore_n 1, 1) := by decide +kernel
theorem d_10_12_3 : decode prog_10_method_12_code 3 = .ok (.iconst 0, 1) := by decide +kernel
theorem d_10_12_4 : decode prog_10_method_12_code 4 = .ok (.istore_n 2, 1) := by decide +kernel
theorem d_10_12_5 : decode prog_10_method_12_code 5 = .ok (.iload_n 2, 1) := by decide +kernel
theorem d_10_12_6 : decode prog_10_method_12_code 6 = .ok (.aload_n 1, 1) := by decide +kernel
theorem d_10_12_7 : decode prog_10_method_12_code 7 = .ok (.invokevirtual 98, 3) := by decide +kernel
theorem d_10_12_10 : decode prog_10_method_12_code 10 = .ok (.if_icmp .ge 23, 3) := by decide +kernel
theorem d_10_12_13 : decode prog_10_method_12_code 13 = .ok (.aload_n 0, 1) := by decide +kernel
theorem d_10_12_14 : decode prog_10_method_12_code 14 = .ok (.aload_n 1, 1) := by decide +kernel
theorem d_10_12_15 : decode prog_10_method_12_code 15 = .ok (.iload_n 2, 1) := by decide +kernel
theorem d_10_12_16 : decode prog_10_method_12_code 16 = .ok (.invokevirtual 103, 3) := by decide +kernel
theorem d_10_12_19 : decode prog_10_method_12_code 19 = .ok (.aload_n 1, 1) := by decide +kernel
theorem d_10_12_20 : decode prog_10_method_12_code 20 = .ok (.iload_n 2, 1) := by decide +kernel
theorem d_10_12_21 : decode prog_10_method_12_code 21 = .ok (.invokevirtual 103, 3) := by decide +kernel
theorem d_10_12_24 : decode prog_10_method_12_code 24 = .ok (.invokevirtual 107, 3) := by decide +kernel
theorem d_10_6_0 : decode prog_10_method_6_code 0 = .ok (.aload_n 0, 1) := by decide +kernel
theorem d_10_6_1 : decode prog_10_method_6_code 1 = .ok (.invokevirtual 90, 3) := by decide +kernel
theorem d_10_5_0 : decode prog_10_method_5_code 0 = .ok (.aload_n 0, 1) := by decide +kernel
theorem d_10_5_1 : decode prog_10_method_5_code 1 = .ok (.getfield 27, 3) := by decide +kernel
theorem d_10_5_4 : decode prog_10_method_5_code 4 = .ok (.aload_n 0, 1) := by decide +kernel
theorem d_10_5_5 : decode prog_10_method_5_code 5 = .ok (.getfield 36, 3) := by decide +kernel
theorem d_10_5_8 : decode prog_10_method_5_code 8 = .ok (.if_icmp .ge 10, 3) := by decide +kernel
theorem d_10_5_18 : decode prog_10_method_5_code 18 = .ok (.aload_n 0, 1) := by decide +kernel
theorem d_10_5_19 : decode prog_10_method_5_code 19 = .ok (.iconst 2, 1) := by decide +kernel
theorem d_10_5_20 : decode prog_10_method_5_code 20 = .ok (.aload_n 0, 1) := by decide +kernel
theorem d_10_5_21 : decode prog_10_method_5_code 21 = .ok (.getfield 36, 3) := by decide +kernel
theorem d_10_5_24 : decode prog_10_method_5_code 24 = .ok (.invokevirtual 83, 3) := by decide +kernel
theorem d_10_4_0 : decode prog_10_method_4_code 0 = .ok (.aload_n 0, 1) := by decide +kernel
theorem d_10_4_1 : decode prog_10_method_4_code 1 = .ok (.getfield 39, 3) := by decide +kernel
theorem d_10_4_4 : decode prog_10_method_4_code 4 = .ok (.ifCond .ne 13, 3) := by decide +kernel
theorem d_10_4_7 : decode prog_10_method_4_code 7 = .ok (.aload_n 0, 1) := by decide +kernel
theorem d_10_4_8 : decode prog_10_method_4_code 8 = .ok (.iload_n 1, 1) := by decide +kernel
theorem d_10_4_9 : decode prog_10_method_4_code 9 = .ok (.bipush 16, 2) := by decide +kernel
theorem d_10_4_11 : decode prog_10_method_4_code 11 = .ok (.iload_n 2, 1) := by decide +kernel
theorem d_10_4_12 : decode prog_10_method_4_code 12 = .ok (.imul, 1) := by decide +kernel
theorem d_10_4_13 : decode prog_10_method_4_code 13 = .ok (.iadd, 1) := by decide +kernel
theorem d_10_4_14 : decode prog_10_method_4_code 14 = .ok (.putfield 39, 3) := by decide +kernel
theorem d_10_4_17 : decode prog_10_method_4_code 17 = .ok (.return_, 1) := by decide +kernel
theorem d_10_5_27 : decode prog_10_method_5_code 27 = .ok (.iconst 0, 1) := by decide +kernel
theorem d_10_5_28 : decode prog_10_method_5_code 28 = .ok (.ireturn, 1) := by decide +kernel
theorem d_10_6_4 : decode prog_10_method_6_code 4 = .ok (.istore_n 3, 1) := by decide +kernel
theorem d_10_6_5 : decode prog_10_method_6_code 5 = .ok (.iload_n 3, 1) := by decide +kernel
theorem d_10_6_6 : decode prog_10_method_6_code 6 = .ok (.iload_n 1, 1) := by decide +kernel
theorem d_10_6_7 : decode prog_10_method_6_code 7 = .ok (.if_icmp .lt 8, 3) := by decide +kernel
theorem d_10_6_15 : decode prog_10_method_6_code 15 = .ok (.aload_n 0, 1) := by decide +kernel
theorem d_10_6_16 : decode prog_10_method_6_code 16 = .ok (.iconst 1, 1) := by decide +kernel
theorem d_10_6_17 : decode prog_10_method_6_code 17 = .ok (.aload_n 0, 1) := by decide +kernel
theorem d_10_6_18 : decode prog_10_method_6_code 18 = .ok (.getfield 27, 3) := by decide +kernel
theorem d_10_6_21 : decode prog_10_method_6_code 21 = .ok (.iconst 1, 1) := by decide +kernel
theorem d_10_6_22 : decode prog_10_method_6_code 22 = .ok (.isub, 1) := by decide +kernel
theorem d_10_6_23 : decode prog_10_method_6_code 23 = .ok (.invokevirtual 83, 3) := by decide +kernel
theorem d_10_6_26 : decode prog_10_method_6_code 26 = .ok (.return_, 1) := by decide +kernel
theorem d_10_12_27 : decode prog_10_method_12_code 27 = .ok (.iinc 2 1, 3) := by decide +kernel
theorem d_10_12_30 : decode prog_10_method_12_code 30 = .ok (.goto (-25), 3) := by decide +kernel
theorem d_10_12_33 : decode prog_10_method_12_code 33 = .ok (.aload_n 0, 1) := by decide +kernel
theorem d_10_12_34 : decode prog_10_method_12_code 34 = .ok (.getfield 27, 3) := by decide +kernel
theorem d_10_12_37 : decode prog_10_method_12_code 37 = .ok (.istore_n 2, 1) := by decide +kernel
theorem d_10_12_38 : decode prog_10_method_12_code 38 = .ok (.aload_n 0, 1) := by decide +kernel
theorem d_10_12_39 : decode prog_10_method_12_code 39 = .ok (.iconst 4, 1) := by decide +kernel
theorem d_10_12_40 : decode prog_10_method_12_code 40 = .ok (.invokevirtual 54, 3) := by decide +kernel
theorem d_10_7_0 : decode prog_10_method_7_code 0 = .ok (.lconst 0, 1) := by decide +kernel
theorem d_10_7_1 : decode prog_10_method_7_code 1 = .ok (.lstore_n 2, 1) := by decide +kernel
theorem d_10_7_2 : decode prog_10_method_7_code 2 = .ok (.iconst 0, 1) := by decide +kernel
theorem d_10_7_3 : decode prog_10_method_7_code 3 = .ok (.istore 4, 2) := by decide +kernel
theorem d_10_7_5 : decode prog_10_method_7_code 5 = .ok (.iload 4, 2) := by decide +kernel
theorem d_10_7_7 : decode prog_10_method_7_code 7 = .ok (.iload_n 1, 1) := by decide +kernel
theorem d_10_7_8 : decode prog_10_method_7_code 8 = .ok (.if_icmp .ge 21, 3) := by decide +kernel
theorem d_10_7_11 : decode prog_10_method_7_code 11 = .ok (.lload_n 2, 1) := by decide +kernel
theorem d_10_7_12 : decode prog_10_method_7_code 12 = .ok (.ldc2_w 94, 3) := by decide +kernel
theorem d_10_7_15 : decode prog_10_method_7_code 15 = .ok (.lmul, 1) := by decide +kernel
theorem d_10_7_16 : decode prog_10_method_7_code 16 = .ok (.aload_n 0, 1) := by decide +kernel
theorem d_10_7_17 : decode prog_10_method_7_code 17 = .ok (.invokevirtual 90, 3) := by decide +kernel
theorem d_10_7_20 : decode prog_10_method_7_code 20 = .ok (.i2l, 1) := by decide +kernel
theorem d_10_7_21 : decode prog_10_method_7_code 21 = .ok (.ladd, 1) := by decide +kernel
theorem d_10_7_22 : decode prog_10_method_7_code 22 = .ok (.lstore_n 2, 1) := by decide +kernel
theorem d_10_7_23 : decode prog_10_method_7_code 23 = .ok (.iinc 4 1, 3) := by decide +kernel
theorem d_10_7_26 : decode prog_10_method_7_code 26 = .ok (.goto (-21), 3) := by decide +kernel
theorem d_10_7_29 : decode prog_10_method_7_code 29 = .ok (.lload_n 2, 1) := by decide +kernel
theorem d_10_7_30 : decode prog_10_method_7_code 30 = .ok (.lreturn, 1) := by decide +kernel
theorem d_10_12_43 : decode prog_10_method_12_code 43 = .ok (.lstore_n 3, 1) := by decide +kernel
theorem d_10_12_44 : decode prog_10_method_12_code 44 = .ok (.lload_n 3, 1) := by decide +kernel
theorem d_10_12_45 : decode prog_10_method_12_code 45 = .ok (.ldc2_w 110, 3) := by decide +kernel
theorem d_10_12_48 : decode prog_10_method_12_code 48 = .ok (.lcmp, 1) := by decide +kernel
theorem d_10_12_49 : decode prog_10_method_12_code 49 = .ok (.ifCond .ge 9, 3) := by decide +kernel
theorem d_10_12_52 : decode prog_10_method_12_code 52 = .ok (.aload_n 0, 1) := by decide +kernel
theorem d_10_12_53 : decode prog_10_method_12_code 53 = .ok (.iconst 3, 1) := by decide +kernel
theorem d_10_12_54 : decode prog_10_method_12_code 54 = .ok (.iload_n 2, 1) := by decide +kernel
theorem d_10_12_55 : decode prog_10_method_12_code 55 = .ok (.invokevirtual 83, 3) := by decide +kernel
theorem d_10_12_58 : decode prog_10_method_12_code 58 = .ok (.aload_n 0, 1) := by decide +kernel
theorem d_10_12_59 : decode prog_10_method_12_code 59 = .ok (.iconst 0, 1) := by decide +kernel
theorem d_10_12_60 : decode prog_10_method_12_code 60 = .ok (.iconst 0, 1) := by decide +kernel
theorem d_10_12_61 : decode prog_10_method_12_code 61 = .ok (.invokevirtual 107, 3) := by decide +kernel
theorem d_10_6_10 : decode prog_10_method_6_code 10 = .ok (.iload_n 3, 1) := by decide +kernel
theorem d_10_6_11 : decode prog_10_method_6_code 11 = .ok (.iload_n 2, 1) := by decide +kernel
theorem d_10_6_12 : decode prog_10_method_6_code 12 = .ok (.if_icmp .le 14, 3) := by decide +kernel
theorem d_10_12_64 : decode prog_10_method_12_code 64 = .ok (.aload_n 0, 1) := by decide +kernel
theorem d_10_12_65 : decode prog_10_method_12_code 65 = .ok (.iconst 0, 1) := by decide +kernel
theorem d_10_12_66 : decode prog_10_method_12_code 66 = .ok (.iconst 1, 1) := by decide +kernel
theorem d_10_12_67 : decode prog_10_method_12_code 67 = .ok (.invokevirtual 107, 3) := by decide +kernel
theorem d_10_12_70 : decode prog_10_method_12_code 70 = .ok (.aload_n 0, 1) := by decide +kernel
theorem d_10_12_71 : decode prog_10_method_12_code 71 = .ok (.getfield 9, 3) := by decide +kernel
theorem d_10_12_74 : decode prog_10_method_12_code 74 = .ok (.iconst 0, 1) := by decide +kernel
theorem d_10_12_75 : decode prog_10_method_12_code 75 = .ok (.aload_n 0, 1) := by decide +kernel
theorem d_10_12_76 : decode prog_10_method_12_code 76 = .ok (.iconst 2, 1) := by decide +kernel
theorem d_10_12_77 : decode prog_10_method_12_code 77 = .ok (.lconst 1, 1) := by decide +kernel
theorem d_10_12_78 : decode prog_10_method_12_code 78 = .ok (.ldc2_w 112, 3) := by decide +kernel
theorem d_10_12_81 : decode prog_10_method_12_code 81 = .ok (.invokevirtual 114, 3) := by decide +kernel
theorem d_10_8_0 : decode prog_10_method_8_code 0 = .ok (.aload_n 0, 1) := by decide +kernel
theorem d_10_8_1 : decode prog_10_method_8_code 1 = .ok (.getfield 27, 3) := by decide +kernel
theorem d_10_8_4 : decode prog_10_method_8_code 4 = .ok (.istore 6, 2) := by decide +kernel
theorem d_10_8_6 : decode prog_10_method_8_code 6 = .ok (.aload_n 0, 1) := by decide +kernel
theorem d_10_8_7 : decode prog_10_method_8_code 7 = .ok (.iload_n 1, 1) := by decide +kernel
theorem d_10_8_8 : decode prog_10_method_8_code 8 = .ok (.invokevirtual 54, 3) := by decide +kernel
theorem d_10_8_11 : decode prog_10_method_8_code 11 = .ok (.lstore 7, 2) := by decide +kernel
theorem d_10_8_13 : decode prog_10_method_8_code 13 = .ok (.lload 7, 2) := by decide +kernel
theorem d_10_8_15 : decode prog_10_method_8_code 15 = .ok (.lload_n 2, 1) := by decide +kernel
theorem d_10_8_16 : decode prog_10_method_8_code 16 = .ok (.lcmp, 1) := by decide +kernel
theorem d_10_8_17 : decode prog_10_method_8_code 17 = .ok (.ifCond .lt 11, 3) := by decide +kernel
theorem d_10_8_28 : decode prog_10_method_8_code 28 = .ok (.aload_n 0, 1) := by decide +kernel
theorem d_10_8_29 : decode prog_10_method_8_code 29 = .ok (.iconst 3, 1) := by decide +kernel
theorem d_10_8_30 : decode prog_10_method_8_code 30 = .ok (.iload 6, 2) := by decide +kernel
theorem d_10_8_32 : decode prog_10_method_8_code 32 = .ok (.invokevirtual 83, 3) := by decide +kernel
theorem d_10_8_35 : decode prog_10_method_8_code 35 = .ok (.iconst 0, 1) := by decide +kernel
theorem d_10_8_36 : decode prog_10_method_8_code 36 = .ok (.ireturn, 1) := by decide +kernel
theorem d_10_12_84 : decode prog_10_method_12_code 84 = .ok (.iastore, 1) := by decide +kernel
theorem d_10_12_85 : decode prog_10_method_12_code 85 = .ok (.aload_n 0, 1) := by decide +kernel
theorem d_10_12_86 : decode prog_10_method_12_code 86 = .ok (.getfield 9, 3) := by decide +kernel
theorem d_10_12_89 : decode prog_10_method_12_code 89 = .ok (.iconst 1, 1) := by decide +kernel
theorem d_10_12_90 : decode prog_10_method_12_code 90 = .ok (.aload_n 0, 1) := by decide +kernel
theorem d_10_12_91 : decode prog_10_method_12_code 91 = .ok (.iconst 2, 1) := by decide +kernel
theorem d_10_12_92 : decode prog_10_method_12_code 92 = .ok (.lconst 1, 1) := by decide +kernel
theorem d_10_12_93 : decode prog_10_method_12_code 93 = .ok (.ldc2_w 118, 3) := by decide +kernel
theorem d_10_12_96 : decode prog_10_method_12_code 96 = .ok (.invokevirtual 114, 3) := by decide +kernel
theorem d_10_12_99 : decode prog_10_method_12_code 99 = .ok (.iastore, 1) := by decide +kernel
theorem d_10_12_100 : decode prog_10_method_12_code 100 = .ok (.aload_n 0, 1) := by decide +kernel
theorem d_10_12_101 : decode prog_10_method_12_code 101 = .ok (.lload_n 3, 1) := by decide +kernel
theorem d_10_12_102 : decode prog_10_method_12_code 102 = .ok (.ldc2_w 110, 3) := by decide +kernel
theorem d_10_12_105 : decode prog_10_method_12_code 105 = .ok (.lsub, 1) := by decide +kernel
theorem d_10_12_106 : decode prog_10_method_12_code 106 = .ok (.invokevirtual 70, 3) := by decide +kernel
theorem d_10_11_0 : decode prog_10_method_11_code 0 = .ok (.aload_n 0, 1) := by decide +kernel
theorem d_10_11_1 : decode prog_10_method_11_code 1 = .ok (.getfield 27, 3) := by decide +kernel
theorem d_10_11_4 : decode prog_10_method_11_code 4 = .ok (.i2l, 1) := by decide +kernel
theorem d_10_11_5 : decode prog_10_method_11_code 5 = .ok (.lload_n 1, 1) := by decide +kernel
theorem d_10_11_6 : decode prog_10_method_11_code 6 = .ok (.ladd, 1) := by decide +kernel
theorem d_10_11_7 : decode prog_10_method_11_code 7 = .ok (.aload_n 0, 1) := by decide +kernel
theorem d_10_11_8 : decode prog_10_method_11_code 8 = .ok (.getfield 36, 3) := by decide +kernel
theorem d_10_11_11 : decode prog_10_method_11_code 11 = .ok (.i2l, 1) := by decide +kernel
theorem d_10_11_12 : decode prog_10_method_11_code 12 = .ok (.lcmp, 1) := by decide +kernel
theorem d_10_11_13 : decode prog_10_method_11_code 13 = .ok (.ifCond .le 15, 3) := by decide +kernel
theorem d_10_11_28 : decode prog_10_method_11_code 28 = .ok (.aload_n 0, 1) := by decide +kernel
theorem d_10_11_29 : decode prog_10_method_11_code 29 = .ok (.getfield 39, 3) := by decide +kernel
theorem d_10_11_32 : decode prog_10_method_11_code 32 = .ok (.ifCond .ne 14, 3) := by decide +kernel
theorem d_10_11_46 : decode prog_10_method_11_code 46 = .ok (.return_, 1) := by decide +kernel
theorem d_10_12_109 : decode prog_10_method_12_code 109 = .ok (.return_, 1) := by decide +kernel
theorem d_10_2_36 : decode prog_10_method_2_code 36 = .ok (.aload_n 0, 1) := by decide +kernel
theorem d_10_2_37 : decode prog_10_method_2_code 37 = .ok (.iconst 0, 1) := by decide +kernel
theorem d_10_2_38 : decode prog_10_method_2_code 38 = .ok (.putfield 51, 3) := by decide +kernel
theorem d_10_2_41 : decode prog_10_method_2_code 41 = .ok (.iconst 0, 1) := by decide +kernel
theorem d_10_2_42 : decode prog_10_method_2_code 42 = .ok (.istore_n 2, 1) := by decide +kernel
theorem d_10_2_43 : decode prog_10_method_2_code 43 = .ok (.iload_n 2, 1) := by decide +kernel
theorem d_10_2_44 : decode prog_10_method_2_code 44 = .ok (.sipush 3000, 3) := by decide +kernel
theorem d_10_2_47 : decode prog_10_method_2_code 47 = .ok (.if_icmp .ge 122, 3) := by decide +kernel
theorem d_10_2_50 : decode prog_10_method_2_code 50 = .ok (.aload_n 0, 1) := by decide +kernel
theorem d_10_2_51 : decode prog_10_method_2_code 51 = .ok (.getfield 39, 3) := by decide +kernel
theorem d_10_2_54 : decode prog_10_method_2_code 54 = .ok (.ifCond .ne 115, 3) := by decide +kernel
theorem d_10_2_169 : decode prog_10_method_2_code 169 = .ok (.aload_n 0, 1) := by decide +kernel
theorem d_10_2_170 : decode prog_10_method_2_code 170 = .ok (.getfield 39, 3) := by decide +kernel
theorem d_10_2_173 : decode prog_10_method_2_code 173 = .ok (.ireturn, 1) := by decide +kernel
theorem d_1_24_29 : decode prog_1_method_24_code 29 = .ok (.istore_n 1, 1) := by decide +kernel
theorem d_1_24_30 : decode prog_1_method_24_code 30 = .ok (.aload_n 0, 1) := by decide +kernel
theorem d_1_24_31 : decode prog_1_method_24_code 31 = .ok (.getfield 14, 3) := by decide +kernel
theorem d_1_24_34 : decode prog_1_method_24_code 34 = .ok (.invokevirtual 92, 3) := by decide +kernel
theorem d_1_24_37 : decode prog_1_method_24_code 37 = .ok (.iload_n 1, 1) := by decide +kernel
theorem d_1_24_38 : decode prog_1_method_24_code 38 = .ok (.ifCond .eq 5, 3) := by decide +kernel
theorem d_1_24_41 : decode prog_1_method_24_code 41 = .ok (.iload_n 1, 1) := by decide +kernel
theorem d_1_24_42 : decode prog_1_method_24_code 42 = .ok (.ireturn, 1) := by decide +kernel
set_option maxRecDepth 20000 in
theorem inW_8 : ∀ w ∈ u_ws RX8 TX8 15, w ∈ wAll := by
  show ∀ w ∈ [(Jvm.Cond.laysFinal "StaveHouse$SoundFile" "StaveHouse$SoundFile" "head" "[I"), (Jvm.Cond.laysFinal "StaveHouse$SoundFile" "StaveHouse$SoundFile" "sounds" "[[J"), (Jvm.Cond.lays "StaveHouse$SoundFile" "StaveHouse$SoundFile" "count" "I"), (Jvm.Cond.laysFinal "StaveHouse$SoundFile" "StaveHouse$SoundFile" "numbers" "[I"), (Jvm.Cond.lays "StaveHouse$SoundFile" "StaveHouse$SoundFile" "row" "LStaveHouse$ByteRow;"), (Jvm.Cond.lays "StaveHouse$SoundFile" "StaveHouse$SoundFile" "at" "I"), (Jvm.Cond.lays "StaveHouse$SoundFile" "StaveHouse$SoundFile" "limit" "I"), (Jvm.Cond.lays "StaveHouse$SoundFile" "StaveHouse$SoundFile" "wrong" "I"), (Jvm.Cond.lays "StaveHouse$SoundFile" "StaveHouse$SoundFile" "track" "I"), (Jvm.Cond.lays "StaveHouse$SoundFile" "StaveHouse$SoundFile" "status" "I"), (Jvm.Cond.lays "StaveHouse$SoundFile" "StaveHouse$SoundFile" "tick" "J"), (Jvm.Cond.lays "StaveHouse$SoundFile" "StaveHouse$SoundFile" "trackDone" "Z"), (Jvm.Cond.lays "StaveHouse$SoundFile" "StaveHouse$SoundFile" "keyTold" "Z"), (Jvm.Cond.lays "StaveHouse$SoundFile" "StaveHouse$SoundFile" "timeTold" "Z"), (Jvm.Cond.lays "StaveHouse$SoundFile" "StaveHouse$SoundFile" "tempoTold" "Z")], w ∈ wAll
  exact List.forall_mem_cons.mpr ⟨k_7_239, List.forall_mem_cons.mpr ⟨k_8_1, List.forall_mem_cons.mpr ⟨k_8_3, List.forall_mem_cons.mpr ⟨k_8_5, List.forall_mem_cons.mpr ⟨k_8_7, List.forall_mem_cons.mpr ⟨k_8_9, List.forall_mem_cons.mpr ⟨k_8_11, List.forall_mem_cons.mpr ⟨k_8_13, List.forall_mem_cons.mpr ⟨k_8_15, List.forall_mem_cons.mpr ⟨k_8_17, List.forall_mem_cons.mpr ⟨k_8_19, List.forall_mem_cons.mpr ⟨k_8_21, List.forall_mem_cons.mpr ⟨k_8_23, List.forall_mem_cons.mpr ⟨k_8_25, List.forall_mem_cons.mpr ⟨k_8_27, fun _ h => absurd h List.not_mem_nil⟩⟩⟩⟩⟩⟩⟩⟩⟩⟩⟩⟩⟩⟩⟩
abbrev Q_SoundFile_init_0 (D : va_G) (ca : Nat → ClassId) (a0 : Nat) (g0 : Nat → Value) (A : Nat → Prop) : Array Value → State → Outcome → State → Prop := va_Qv (S := (Nat → Value) × (Nat) × (Nat → Int32) × (Nat) × (Nat → Int32)) (fun (u : (Nat → Value) × (Nat) × (Nat → Int32) × (Nat) × (Nat → Int32)) => gM g0 u.1 [3, 1, 0] ∧ gF u.1 [(3, .ref u.2.1), (0, .ref u.2.2.2.1)] ∧ gF u.2.2.1 [] ∧ gF u.2.2.2.2 []) (fun u => gB D ca A [(a0, .inr (8, rg 15 u.1)), (u.2.1, .inl (ca 0, 8, .inl u.2.2.1)), (u.2.2.2.1, .inl (ca 0, 7, .inl u.2.2.2.2))]) A
set_option maxHeartbeats 8000000 in
set_option maxRecDepth 100000 in
theorem c_SoundFile_init_0 (l : Launch) (D : va_G) (ca : Nat → ClassId) (ad av : Nat → Nat) (sz : Nat) (a0 : Nat) (g0 : Nat → Value) (hp0 : gF g0 []) : Met l ({ cls := "StaveHouse$SoundFile", name := "<init>", desc := "()V" } : Jvm.MethodName) (Cond.code ({ cls := "StaveHouse$SoundFile", name := "<init>", desc := "()V" } : Jvm.MethodName) prog_10_method_1_code 1 (Option.none : Option Jvm.ClassFile.FieldType) :: wAll) ({ frames := 1, cells := 9, slots := 2421, locals := 12 } : Room) (va_Pc [.ref a0] (gPre D ca ad av [(a0, .inr (8, rg 15 g0))] sz)) (Q_SoundFile_init_0 D ca a0 g0 (va_A [(a0, .inr (8, rg 15 g0))] sz)) 9 2421 (va_A [(a0, .inr (8, rg 15 g0))] sz) := by
  refine gMet (Qc := Q_SoundFile_init_0 D ca a0 g0) (lv := [(0, .ref a0)]) (by decide) (Nat.le_of_ble_eq_true rfl) rfl (fun A p e s m below meth c ls hx hb hr hml hown hts hlk hnm hl hP hK hD hS hA hX => ?_)
  have hown : s.vm.findClass "StaveHouse$SoundFile" = some m.cls := hown
  have hnm : meth.name = "<init>" := hnm
  refine lv_aload_n hx hb d_10_1_0 rfl (lv_at hl 0 rfl) ?_
  refine W.objInit hx hb hown (hts _ k_7_214) (hts _ k_1_30) (hts _ k_1_31) rfl (by rw [hml]; exact hl.1) rfl d_10_1_1 (Nat.le_of_ble_eq_true rfl) (Nat.le_of_ble_eq_true rfl) ?_
  refine W.eq (g2 := F0 m 4 ls []) rfl ?_
  refine lv_aload_n hx hb d_10_1_4 rfl (lv_at hl 0 rfl) ?_
  refine lv_bipush (v := 7) hx hb d_10_1_5 (by decide) ?_
  refine gnewa (atype := .int) hx hb hts (ty := .int) rfl k_1_57 hK 0 rfl (fun _ _ => gu_int) hP hD hS hA (a0 := (7, .inl (fun _ => 0))) (fun _ => rfl) (by decide) (N' := 7) (by decide) (Nat.le_of_ble_eq_true rfl) (Nat.le_of_ble_eq_true rfl) (Nat.le_of_ble_eq_true rfl) d_10_1_7 (fun q1 H1 hP1 hD1 hS1 => ?_)
  obtain ⟨f1, hF1, hP1, hD1⟩ : ∃ f : Nat → Int32, gF f [] ∧ va_P D cls ([(a0, .inr (8, rg 15 g0))] ++ [(q1, .inl (ca 0, 7, .inl f))]) H1 ∧ va_D A ([(a0, .inr (8, rg 15 g0))] ++ [(q1, .inl (ca 0, 7, .inl f))]) := ⟨_, gF_nil, hP1, hD1⟩
  have hP1 : va_P D cls [(a0, .inr (8, rg 15 g0)), (q1, .inl (ca 0, 7, .inl f1))] H1 := hP1
  have hD1 : va_D A [(a0, .inr (8, rg 15 g0)), (q1, .inl (ca 0, 7, .inl f1))] := hD1
  refine W.widen (k := 1) (n := 7) (Nat.le_of_ble_eq_true rfl) (Nat.le_of_ble_eq_true rfl) ?_
  refine gputF hx hb hts inW_8 tyX8 tyX8_ok nmX8 hown hK hP1 hD1 hS1 0 rfl rfl hp0 0 (by decide) k_7_217 rfl hnm rfl rfl rfl d_10_1_9 (L' := [(0, .ref q1)]) rfl (fun f2 H2 locs2 hF2 hm2 hP2 hD2 hS2 => ?_)
  have hM2 := gM.tr (gM.rf (f := g0)) hm2
  have hP2 : va_P D cls [(a0, .inr (8, rg 15 f2)), (q1, .inl (ca 0, 7, .inl f1))] H2 := hP2
  have hD2 : va_D A [(a0, .inr (8, rg 15 f2)), (q1, .inl (ca 0, 7, .inl f1))] := hD2
  clear hP1 hD1 hS1 hm2
  refine lv_aload_n hx hb d_10_1_12 rfl (lv_at hl 0 rfl) ?_
  refine lv_bipush (v := 6) hx hb d_10_1_13 (by decide) ?_
  refine lv_sipush (v := 400) hx hb d_10_1_15 (by decide) ?_
  refine gmnaX (ty := .long) hx hb hts hown (nm := "[[J") (by decide +kernel) k_7_215 hX.2.2.1 k_1_105 hP2 hS2 (by decide) (by decide) (N' := 6) (K' := 400) (by decide) (by decide) (Nat.le_of_ble_eq_true rfl) (Nat.le_of_ble_eq_true rfl) (Nat.le_of_ble_eq_true rfl) rfl rfl (Nat.le_of_ble_eq_true rfl) (Nat.le_of_ble_eq_true rfl) d_10_1_18 (fun q3 H3 hP3 hS3 => ?_)
  refine W.widen (k := 8) (n := 2413) (Nat.le_of_ble_eq_true rfl) (Nat.le_of_ble_eq_true rfl) ?_
  refine gputFX hx hb hts inW_8 tyX8 tyX8_ok nmX8 hown hK hP3 hD2 hS3 0 rfl rfl hF2 1 (by decide) k_7_220 rfl hnm rfl rfl rfl d_10_1_22 (L' := [(0, .ref q1)]) rfl (fun f4 H4 locs4 hF4 hm4 hP4 hD4 hS4 => ?_)
  have hM4 := gM.tr hM2 hm4
  have hP4 : va_P D cls [(a0, .inr (8, rg 15 f4)), (q1, .inl (ca 0, 7, .inl f1))] H4 := hP4
  have hD4 : va_D A [(a0, .inr (8, rg 15 f4)), (q1, .inl (ca 0, 7, .inl f1))] := hD4
  clear hP3 hD2 hS3 hF2 hM2 hm4
  refine lv_aload_n hx hb d_10_1_25 rfl (lv_at hl 0 rfl) ?_
  refine lv_bipush (v := 8) hx hb d_10_1_26 (by decide) ?_
  refine gnewa (atype := .int) hx hb hts (ty := .int) rfl k_1_57 hK 0 rfl (fun _ _ => gu_int) hP4 hD4 hS4 hA (a0 := (8, .inl (fun _ => 0))) (fun _ => rfl) (by decide) (N' := 8) (by decide) (Nat.le_of_ble_eq_true rfl) (Nat.le_of_ble_eq_true rfl) (Nat.le_of_ble_eq_true rfl) d_10_1_28 (fun q5 H5 hP5 hD5 hS5 => ?_)
  obtain ⟨f5, hF5, hP5, hD5⟩ : ∃ f : Nat → Int32, gF f [] ∧ va_P D cls ([(a0, .inr (8, rg 15 f4)), (q1, .inl (ca 0, 7, .inl f1))] ++ [(q5, .inl (ca 0, 8, .inl f))]) H5 ∧ va_D A ([(a0, .inr (8, rg 15 f4)), (q1, .inl (ca 0, 7, .inl f1))] ++ [(q5, .inl (ca 0, 8, .inl f))]) := ⟨_, gF_nil, hP5, hD5⟩
  have hP5 : va_P D cls [(a0, .inr (8, rg 15 f4)), (q1, .inl (ca 0, 7, .inl f1)), (q5, .inl (ca 0, 8, .inl f5))] H5 := hP5
  have hD5 : va_D A [(a0, .inr (8, rg 15 f4)), (q1, .inl (ca 0, 7, .inl f1)), (q5, .inl (ca 0, 8, .inl f5))] := hD5
  refine W.widen (k := 9) (n := 2421) (Nat.le_of_ble_eq_true rfl) (Nat.le_of_ble_eq_true rfl) ?_
  refine gputF hx hb hts inW_8 tyX8 tyX8_ok nmX8 hown hK hP5 hD5 hS5 0 rfl rfl hF4 3 (by decide) k_7_226 rfl hnm rfl rfl rfl d_10_1_30 (L' := [(3, .ref q5), (0, .ref q1)]) rfl (fun f6 H6 locs6 hF6 hm6 hP6 hD6 hS6 => ?_)
  have hM6 := gM.tr hM4 hm6
  have hP6 : va_P D cls [(a0, .inr (8, rg 15 f6)), (q1, .inl (ca 0, 7, .inl f1)), (q5, .inl (ca 0, 8, .inl f5))] H6 := hP6
  have hD6 : va_D A [(a0, .inr (8, rg 15 f6)), (q1, .inl (ca 0, 7, .inl f1)), (q5, .inl (ca 0, 8, .inl f5))] := hD6
  clear hP5 hD5 hS5 hF4 hM4 hm6
  have hP9 := hP6.sub (ws' := [(a0, .inr (8, rg 15 f6)), (q5, .inl (ca 0, 8, .inl f5)), (q1, .inl (ca 0, 7, .inl f1))]) [0, 2, 1] rfl
  have hD9 := hD6.sub (ws' := [(a0, .inr (8, rg 15 f6)), (q5, .inl (ca 0, 8, .inl f5)), (q1, .inl (ca 0, 7, .inl f1))]) [0, 2, 1] (by decide) rfl
  refine W.widen (k := 9) (n := 2421) (Nat.le_of_ble_eq_true rfl) (Nat.le_of_ble_eq_true rfl) ?_
  exact W.vret hx hb hr (fun t ht hW => ⟨⟨(f6, q5, f5, q1, f1), rfl, ⟨hM6.mono (by decide), hF6.sub [0, 1] rfl, hF5.sub [] rfl, hF1.sub [] rfl⟩, by rw [ht]; exact hP9, va_K.moved hW.alike hK, hD9⟩, hS6.F ht⟩) hS6.2.2 d_10_1_33
abbrev Q_SoundFile_setDefaults_0 (D : va_G) (ca : Nat → ClassId) (a0 : Nat) (a2 : Nat) (a3 : Nat) (g0 : Nat → Value) (g2 : Nat → Int32) (g3 : Nat → Int32) (A : Nat → Prop) : Array Value → State → Outcome → State → Prop := va_Qv (S := (Nat → Value) × (Nat → Int32) × (Nat → Int32)) (fun (u : (Nat → Value) × (Nat → Int32) × (Nat → Int32)) => gM g0 u.1 [14, 13, 12] ∧ gF u.1 [] ∧ gF u.2.1 [] ∧ gF u.2.2 []) (fun u => gB D ca A [(a0, .inr (8, rg 15 u.1)), (a2, .inl (ca 0, 8, .inl u.2.1)), (a3, .inl (ca 0, 7, .inl u.2.2))]) A
set_option maxHeartbeats 8000000 in
set_option maxRecDepth 100000 in
theorem c_SoundFile_setDefaults_0 (l : Launch) (D : va_G) (ca : Nat → ClassId) (ad av : Nat → Nat) (sz : Nat) (a0 : Nat) (a2 : Nat) (a3 : Nat) (g0 : Nat → Value) (g2 : Nat → Int32) (g3 : Nat → Int32) (hp0 : gF g0 [(3, .ref a2), (0, .ref a3)]) (hp2 : gF g2 []) (hp3 : gF g3 []) : Met l ({ cls := "StaveHouse$SoundFile", name := "setDefaults", desc := "()V" } : Jvm.MethodName) (Cond.code ({ cls := "StaveHouse$SoundFile", name := "setDefaults", desc := "()V" } : Jvm.MethodName) prog_10_method_3_code 2 (Option.none : Option Jvm.ClassFile.FieldType) :: wAll) ({ frames := 0, cells := 0, slots := 0, locals := 0 } : Room) (va_Pc [.ref a0] (gPre D ca ad av [(a0, .inr (8, rg 15 g0)), (a2, .inl (ca 0, 8, .inl g2)), (a3, .inl (ca 0, 7, .inl g3))] sz)) (Q_SoundFile_setDefaults_0 D ca a0 a2 a3 g0 g2 g3 (va_A [(a0, .inr (8, rg 15 g0)), (a2, .inl (ca 0, 8, .inl g2)), (a3, .inl (ca 0, 7, .inl g3))] sz)) 0 0 (va_A [(a0, .inr (8, rg 15 g0)), (a2, .inl (ca 0, 8, .inl g2)), (a3, .inl (ca 0, 7, .inl g3))] sz) := by
  refine gMet (Qc := Q_SoundFile_setDefaults_0 D ca a0 a2 a3 g0 g2 g3) (lv := [(0, .ref a0)]) (by decide) (Nat.le_of_ble_eq_true rfl) rfl (fun A p e s m below meth c ls hx hb hr hml hown hts hlk hnm hl hP hK hD hS hA hX => ?_)
  have hown : s.vm.findClass "StaveHouse$SoundFile" = some m.cls := hown
  have hnm : meth.name = "setDefaults" := hnm
  refine lv_aload_n hx hb d_10_3_0 rfl (lv_at hl 0 rfl) ?_
  refine gget hx hb hts inW_8 hown hK hP 0 rfl rfl hp0 1 rfl (by decide) k_7_217 d_10_3_1 ?_
  refine lv_iconst (v := 0) hx hb d_10_3_4 (by decide) ?_
  refine lv_iconst (v := 0) hx hb d_10_3_5 (by decide) ?_
  refine gastX hx hb hK hP hD hS 2 0 rfl rfl (vinC (by decide)) d_10_3_6 (fun f1 H1 locs1 hP1 hD1 hS1 => ?_)
  have hF1 : gF f1 [] := gF_nil
  have hP1 : va_P D cls [(a0, .inr (8, rg 15 g0)), (a2, .inl (ca 0, 8, .inl g2)), (a3, .inl (ca 0, 7, .inl f1))] H1 := hP1
  have hD1 : va_D A [(a0, .inr (8, rg 15 g0)), (a2, .inl (ca 0, 8, .inl g2)), (a3, .inl (ca 0, 7, .inl f1))] := hD1
  refine lv_aload_n hx hb d_10_3_7 rfl (lv_at hl 0 rfl) ?_
  refine gget hx hb hts inW_8 hown hK hP1 0 rfl rfl hp0 1 rfl (by decide) k_7_217 d_10_3_8 ?_
  refine lv_iconst (v := 1) hx hb d_10_3_11 (by decide) ?_
  refine lv_iconst (v := 0) hx hb d_10_3_12 (by decide) ?_
  refine gastX hx hb hK hP1 hD1 hS1 2 0 rfl rfl (vinC (by decide)) d_10_3_13 (fun f2 H2 locs2 hP2 hD2 hS2 => ?_)
  have hF2 : gF f2 [] := gF_nil
  have hP2 : va_P D cls [(a0, .inr (8, rg 15 g0)), (a2, .inl (ca 0, 8, .inl g2)), (a3, .inl (ca 0, 7, .inl f2))] H2 := hP2
  have hD2 : va_D A [(a0, .inr (8, rg 15 g0)), (a2, .inl (ca 0, 8, .inl g2)), (a3, .inl (ca 0, 7, .inl f2))] := hD2
  clear hP1 hD1 hS1 hF1
  refine lv_aload_n hx hb d_10_3_14 rfl (lv_at hl 0 rfl) ?_
  refine gget hx hb hts inW_8 hown hK hP2 0 rfl rfl hp0 1 rfl (by decide) k_7_217 d_10_3_15 ?_
  refine lv_iconst (v := 2) hx hb d_10_3_18 (by decide) ?_
  refine lv_iconst (v := 0) hx hb d_10_3_19 (by decide) ?_
  refine gastX hx hb hK hP2 hD2 hS2 2 0 rfl rfl (vinC (by decide)) d_10_3_20 (fun f3 H3 locs3 hP3 hD3 hS3 => ?_)
  have hF3 : gF f3 [] := gF_nil
  have hP3 : va_P D cls [(a0, .inr (8, rg 15 g0)), (a2, .inl (ca 0, 8, .inl g2)), (a3, .inl (ca 0, 7, .inl f3))] H3 := hP3
  have hD3 : va_D A [(a0, .inr (8, rg 15 g0)), (a2, .inl (ca 0, 8, .inl g2)), (a3, .inl (ca 0, 7, .inl f3))] := hD3
  clear hP2 hD2 hS2 hF2
  refine lv_aload_n hx hb d_10_3_21 rfl (lv_at hl 0 rfl) ?_
  refine gget hx hb hts inW_8 hown hK hP3 0 rfl rfl hp0 1 rfl (by decide) k_7_217 d_10_3_22 ?_
  refine lv_iconst (v := 3) hx hb d_10_3_25 (by decide) ?_
  refine lv_iconst (v := 0) hx hb d_10_3_26 (by decide) ?_
  refine gastX hx hb hK hP3 hD3 hS3 2 0 rfl rfl (vinC (by decide)) d_10_3_27 (fun f4 H4 locs4 hP4 hD4 hS4 => ?_)
  have hF4 : gF f4 [] := gF_nil
  have hP4 : va_P D cls [(a0, .inr (8, rg 15 g0)), (a2, .inl (ca 0, 8, .inl g2)), (a3, .inl (ca 0, 7, .inl f4))] H4 := hP4
  have hD4 : va_D A [(a0, .inr (8, rg 15 g0)), (a2, .inl (ca 0, 8, .inl g2)), (a3, .inl (ca 0, 7, .inl f4))] := hD4
  clear hP3 hD3 hS3 hF3
  refine lv_aload_n hx hb d_10_3_28 rfl (lv_at hl 0 rfl) ?_
  refine gget hx hb hts inW_8 hown hK hP4 0 rfl rfl hp0 1 rfl (by decide) k_7_217 d_10_3_29 ?_
  refine lv_iconst (v := 4) hx hb d_10_3_32 (by decide) ?_
  refine lv_iconst (v := 4) hx hb d_10_3_33 (by decide) ?_
  refine gastX hx hb hK hP4 hD4 hS4 2 0 rfl rfl (vinC (by decide)) d_10_3_34 (fun f5 H5 locs5 hP5 hD5 hS5 => ?_)
  have hF5 : gF f5 [] := gF_nil
  have hP5 : va_P D cls [(a0, .inr (8, rg 15 g0)), (a2, .inl (ca 0, 8, .inl g2)), (a3, .inl (ca 0, 7, .inl f5))] H5 := hP5
  have hD5 : va_D A [(a0, .inr (8, rg 15 g0)), (a2, .inl (ca 0, 8, .inl g2)), (a3, .inl (ca 0, 7, .inl f5))] := hD5
  clear hP4 hD4 hS4 hF4
  refine lv_aload_n hx hb d_10_3_35 rfl (lv_at hl 0 rfl) ?_
  refine gget hx hb hts inW_8 hown hK hP5 0 rfl rfl hp0 1 rfl (by decide) k_7_217 d_10_3_36 ?_
  refine lv_iconst (v := 5) hx hb d_10_3_39 (by decide) ?_
  refine lv_iconst (v := 4) hx hb d_10_3_40 (by decide) ?_
  refine gastX hx hb hK hP5 hD5 hS5 2 0 rfl rfl (vinC (by decide)) d_10_3_41 (fun f6 H6 locs6 hP6 hD6 hS6 => ?_)
  have hF6 : gF f6 [] := gF_nil
  have hP6 : va_P D cls [(a0, .inr (8, rg 15 g0)), (a2, .inl (ca 0, 8, .inl g2)), (a3, .inl (ca 0, 7, .inl f6))] H6 := hP6
  have hD6 : va_D A [(a0, .inr (8, rg 15 g0)), (a2, .inl (ca 0, 8, .inl g2)), (a3, .inl (ca 0, 7, .inl f6))] := hD6
  clear hP5 hD5 hS5 hF5
  refine lv_aload_n hx hb d_10_3_42 rfl (lv_at hl 0 rfl) ?_
  refine gget hx hb hts inW_8 hown hK hP6 0 rfl rfl hp0 1 rfl (by decide) k_7_217 d_10_3_43 ?_
  refine lv_bipush (v := 6) hx hb d_10_3_46 (by decide) ?_
  refine lv_bipush (v := 120) hx hb d_10_3_48 (by decide) ?_
  refine gastX hx hb hK hP6 hD6 hS6 2 0 rfl rfl (vinC (by decide)) d_10_3_50 (fun f7 H7 locs7 hP7 hD7 hS7 => ?_)
  have hF7 : gF f7 [] := gF_nil
  have hP7 : va_P D cls [(a0, .inr (8, rg 15 g0)), (a2, .inl (ca 0, 8, .inl g2)), (a3, .inl (ca 0, 7, .inl f7))] H7 := hP7
  have hD7 : va_D A [(a0, .inr (8, rg 15 g0)), (a2, .inl (ca 0, 8, .inl g2)), (a3, .inl (ca 0, 7, .inl f7))] := hD7
  clear hP6 hD6 hS6 hF6
  refine lv_aload_n hx hb d_10_3_51 rfl (lv_at hl 0 rfl) ?_
  refine lv_iconst (v := 0) hx hb d_10_3_52 (by decide) ?_
  refine gputX hx hb hts inW_8 tyX8 tyX8_ok nmX8 hown hK hP7 hD7 hS7 0 rfl rfl hp0 12 (by decide) k_7_236 rfl rfl rfl d_10_3_53 (L' := [(3, .ref a2), (0, .ref a3)]) rfl (fun f8 H8 locs8 hF8 hm8 hP8 hD8 hS8 => ?_)
  have hM8 := gM.tr (gM.rf (f := g0)) hm8
  have hP8 : va_P D cls [(a0, .inr (8, rg 15 f8)), (a2, .inl (ca 0, 8, .inl g2)), (a3, .inl (ca 0, 7, .inl f7))] H8 := hP8
  have hD8 : va_D A [(a0, .inr (8, rg 15 f8)), (a2, .inl (ca 0, 8, .inl g2)), (a3, .inl (ca 0, 7, .inl f7))] := hD8
  clear hP7 hD7 hS7 hm8
  refine lv_aload_n hx hb d_10_3_56 rfl (lv_at hl 0 rfl) ?_
  refine lv_iconst (v := 0) hx hb d_10_3_57 (by decide) ?_
  refine gputX hx hb hts inW_8 tyX8 tyX8_ok nmX8 hown hK hP8 hD8 hS8 0 rfl rfl hF8 13 (by decide) k_7_237 rfl rfl rfl d_10_3_58 (L' := [(3, .ref a2), (0, .ref a3)]) rfl (fun f9 H9 locs9 hF9 hm9 hP9 hD9 hS9 => ?_)
  have hM9 := gM.tr hM8 hm9
  have hP9 : va_P D cls [(a0, .inr (8, rg 15 f9)), (a2, .inl (ca 0, 8, .inl g2)), (a3, .inl (ca 0, 7, .inl f7))] H9 := hP9
  have hD9 : va_D A [(a0, .inr (8, rg 15 f9)), (a2, .inl (ca 0, 8, .inl g2)), (a3, .inl (ca 0, 7, .inl f7))] := hD9
  clear hP8 hD8 hS8 hF8 hM8 hm9
  refine lv_aload_n hx hb d_10_3_61 rfl (lv_at hl 0 rfl) ?_
  refine lv_iconst (v := 0) hx hb d_10_3_62 (by decide) ?_
  refine gputX hx hb hts inW_8 tyX8 tyX8_ok nmX8 hown hK hP9 hD9 hS9 0 rfl rfl hF9 14 (by decide) k_7_238 rfl rfl rfl d_10_3_63 (L' := [(3, .ref a2), (0, .ref a3)]) rfl (fun f10 H10 locs10 hF10 hm10 hP10 hD10 hS10 => ?_)
  have hM10 := gM.tr hM9 hm10
  have hP10 : va_P D cls [(a0, .inr (8, rg 15 f10)), (a2, .inl (ca 0, 8, .inl g2)), (a3, .inl (ca 0, 7, .inl f7))] H10 := hP10
  have hD10 : va_D A [(a0, .inr (8, rg 15 f10)), (a2, .inl (ca 0, 8, .inl g2)), (a3, .inl (ca 0, 7, .inl f7))] := hD10
  clear hP9 hD9 hS9 hF9 hM9 hm10
  refine lv_iconst (v := 0) hx hb d_10_3_66 (by decide) ?_
  refine lv_istore_n (lv' := [(1, .int 0), (0, .ref a0)]) hx hb d_10_3_67 rfl hl (by decide) rfl (fun ls hl => ?_)
  refine lv_iload_n hx hb d_10_3_68 rfl (lv_at hl 0 rfl) ?_
  refine lv_bipush (v := 8) hx hb d_10_3_69 (by decide) ?_
  refine lv_icmp_ge (tgt := 87) hx hb d_10_3_71 (by decide) (fun c => absurd c (by decide)) (fun _ => ?_)
  refine lv_aload_n hx hb d_10_3_74 rfl (lv_at hl 1 rfl) ?_
  refine gget hx hb hts inW_8 hown hK hP10 0 rfl rfl hF10 0 rfl (by decide) k_7_226 d_10_3_75 ?_
  refine lv_iload_n hx hb d_10_3_78 rfl (lv_at hl 0 rfl) ?_
  refine lv_iconst (v := (-1)) hx hb d_10_3_79 (by decide) ?_
  refine gastX hx hb hK hP10 hD10 hS10 1 0 rfl rfl (vinC (by decide)) d_10_3_80 (fun f11 H11 locs11 hP11 hD11 hS11 => ?_)
  have hF11 : gF f11 [] := gF_nil
  have hP11 : va_P D cls [(a0, .inr (8, rg 15 f10)), (a2, .inl (ca 0, 8, .inl f11)), (a3, .inl (ca 0, 7, .inl f7))] H11 := hP11
  have hD11 : va_D A [(a0, .inr (8, rg 15 f10)), (a2, .inl (ca 0, 8, .inl f11)), (a3, .inl (ca 0, 7, .inl f7))] := hD11
  clear hP10 hD10 hS10
  refine lv_iinc (v := 1) (lv' := [(1, .int 1), (0, .ref a0)]) hx hb d_10_3_81 hl (k := 0) rfl (by decide) (by decide) rfl (fun ls hl => ?_)
  refine lv_goto (tgt := 68) hx hb d_10_3_84 (by decide) ?_
  refine lv_iload_n hx hb d_10_3_68 rfl (lv_at hl 0 rfl) ?_
  refine lv_bipush (v := 8) hx hb d_10_3_69 (by decide) ?_
  refine lv_icmp_ge (tgt := 87) hx hb d_10_3_71 (by decide) (fun c => absurd c (by decide)) (fun _ => ?_)
  refine lv_aload_n hx hb d_10_3_74 rfl (lv_at hl 1 rfl) ?_
  refine gget hx hb hts inW_8 hown hK hP11 0 rfl rfl hF10 0 rfl (by decide) k_7_226 d_10_3_75 ?_
  refine lv_iload_n hx hb d_10_3_78 rfl (lv_at hl 0 rfl) ?_
  refine lv_iconst (v := (-1)) hx hb d_10_3_79 (by decide) ?_
  refine gastX hx hb hK hP11 hD11 hS11 1 0 rfl rfl (vinC (by decide)) d_10_3_80 (fun f12 H12 locs12 hP12 hD12 hS12 => ?_)
  have hF12 : gF f12 [] := gF_nil
  have hP12 : va_P D cls [(a0, .inr (8, rg 15 f10)), (a2, .inl (ca 0, 8, .inl f12)), (a3, .inl (ca 0, 7, .inl f7))] H12 := hP12
  have hD12 : va_D A [(a0, .inr (8, rg 15 f10)), (a2, .inl (ca 0, 8, .inl f12)), (a3, .inl (ca 0, 7, .inl f7))] := hD12
  clear hP11 hD11 hS11 hF11
  refine lv_iinc (v := 2) (lv' := [(1, .int 2), (0, .ref a0)]) hx hb d_10_3_81 hl (k := 0) rfl (by decide) (by decide) rfl (fun ls hl => ?_)
  refine lv_goto (tgt := 68) hx hb d_10_3_84 (by decide) ?_
  refine lv_iload_n hx hb d_10_3_68 rfl (lv_at hl 0 rfl) ?_
  refine lv_bipush (v := 8) hx hb d_10_3_69 (by decide) ?_
  refine lv_icmp_ge (tgt := 87) hx hb d_10_3_71 (by decide) (fun c => absurd c (by decide)) (fun _ => ?_)
  refine lv_aload_n hx hb d_10_3_74 rfl (lv_at hl 1 rfl) ?_
  refine gget hx hb hts inW_8 hown hK hP12 0 rfl rfl hF10 0 rfl (by decide) k_7_226 d_10_3_75 ?_
  refine lv_iload_n hx hb d_10_3_78 rfl (lv_at hl 0 rfl) ?_
  refine lv_iconst (v := (-1)) hx hb d_10_3_79 (by decide) ?_
  refine gastX hx hb hK hP12 hD12 hS12 1 0 rfl rfl (vinC (by decide)) d_10_3_80 (fun f13 H13 locs13 hP13 hD13 hS13 => ?_)
  have hF13 : gF f13 [] := gF_nil
  have hP13 : va_P D cls [(a0, .inr (8, rg 15 f10)), (a2, .inl (ca 0, 8, .inl f13)), (a3, .inl (ca 0, 7, .inl f7))] H13 := hP13
  have hD13 : va_D A [(a0, .inr (8, rg 15 f10)), (a2, .inl (ca 0, 8, .inl f13)), (a3, .inl (ca 0, 7, .inl f7))] := hD13
  clear hP12 hD12 hS12 hF12
  refine lv_iinc (v := 3) (lv' := [(1, .int 3), (0, .ref a0)]) hx hb d_10_3_81 hl (k := 0) rfl (by decide) (by decide) rfl (fun ls hl => ?_)
  refine lv_goto (tgt := 68) hx hb d_10_3_84 (by decide) ?_
  refine lv_iload_n hx hb d_10_3_68 rfl (lv_at hl 0 rfl) ?_
  refine lv_bipush (v := 8) hx hb d_10_3_69 (by decide) ?_
  refine lv_icmp_ge (tgt := 87) hx hb d_10_3_71 (by decide) (fun c => absurd c (by decide)) (fun _ => ?_)
  refine lv_aload_n hx hb d_10_3_74 rfl (lv_at hl 1 rfl) ?_
  refine gget hx hb hts inW_8 hown hK hP13 0 rfl rfl hF10 0 rfl (by decide) k_7_226 d_10_3_75 ?_
  refine lv_iload_n hx hb d_10_3_78 rfl (lv_at hl 0 rfl) ?_
  refine lv_iconst (v := (-1)) hx hb d_10_3_79 (by decide) ?_
  refine gastX hx hb hK hP13 hD13 hS13 1 0 rfl rfl (vinC (by decide)) d_10_3_80 (fun f14 H14 locs14 hP14 hD14 hS14 => ?_)
  have hF14 : gF f14 [] := gF_nil
  have hP14 : va_P D cls [(a0, .inr (8, rg 15 f10)), (a2, .inl (ca 0, 8, .inl f14)), (a3, .inl (ca 0, 7, .inl f7))] H14 := hP14
  have hD14 : va_D A [(a0, .inr (8, rg 15 f10)), (a2, .inl (ca 0, 8, .inl f14)), (a3, .inl (ca 0, 7, .inl f7))] := hD14
  clear hP13 hD13 hS13 hF13
  refine lv_iinc (v := 4) (lv' := [(1, .int 4), (0, .ref a0)]) hx hb d_10_3_81 hl (k := 0) rfl (by decide) (by decide) rfl (fun ls hl => ?_)
  refine lv_goto (tgt := 68) hx hb d_10_3_84 (by decide) ?_
  refine lv_iload_n hx hb d_10_3_68 rfl (lv_at hl 0 rfl) ?_
  refine lv_bipush (v := 8) hx hb d_10_3_69 (by decide) ?_
  refine lv_icmp_ge (tgt := 87) hx hb d_10_3_71 (by decide) (fun c => absurd c (by decide)) (fun _ => ?_)
  refine lv_aload_n hx hb d_10_3_74 rfl (lv_at hl 1 rfl) ?_
  refine gget hx hb hts inW_8 hown hK hP14 0 rfl rfl hF10 0 rfl (by decide) k_7_226 d_10_3_75 ?_
  refine lv_iload_n hx hb d_10_3_78 rfl (lv_at hl 0 rfl) ?_
  refine lv_iconst (v := (-1)) hx hb d_10_3_79 (by decide) ?_
  refine gastX hx hb hK hP14 hD14 hS14 1 0 rfl rfl (vinC (by decide)) d_10_3_80 (fun f15 H15 locs15 hP15 hD15 hS15 => ?_)
  have hF15 : gF f15 [] := gF_nil
  have hP15 : va_P D cls [(a0, .inr (8, rg 15 f10)), (a2, .inl (ca 0, 8, .inl f15)), (a3, .inl (ca 0, 7, .inl f7))] H15 := hP15
  have hD15 : va_D A [(a0, .inr (8, rg 15 f10)), (a2, .inl (ca 0, 8, .inl f15)), (a3, .inl (ca 0, 7, .inl f7))] := hD15
  clear hP14 hD14 hS14 hF14
  refine lv_iinc (v := 5) (lv' := [(1, .int 5), (0, .ref a0)]) hx hb d_10_3_81 hl (k := 0) rfl (by decide) (by decide) rfl (fun ls hl => ?_)
  refine lv_goto (tgt := 68) hx hb d_10_3_84 (by decide) ?_
  refine lv_iload_n hx hb d_10_3_68 rfl (lv_at hl 0 rfl) ?_
  refine lv_bipush (v := 8) hx hb d_10_3_69 (by decide) ?_
  refine lv_icmp_ge (tgt := 87) hx hb d_10_3_71 (by decide) (fun c => absurd c (by decide)) (fun _ => ?_)
  refine lv_aload_n hx hb d_10_3_74 rfl (lv_at hl 1 rfl) ?_
  refine gget hx hb hts inW_8 hown hK hP15 0 rfl rfl hF10 0 rfl (by decide) k_7_226 d_10_3_75 ?_
  refine lv_iload_n hx hb d_10_3_78 rfl (lv_at hl 0 rfl) ?_
  refine lv_iconst (v := (-1)) hx hb d_10_3_79 (by decide) ?_
  refine gastX hx hb hK hP15 hD15 hS15 1 0 rfl rfl (vinC (by decide)) d_10_3_80 (fun f16 H16 locs16 hP16 hD16 hS16 => ?_)
  have hF16 : gF f16 [] := gF_nil
  have hP16 : va_P D cls [(a0, .inr (8, rg 15 f10)), (a2, .inl (ca 0, 8, .inl f16)), (a3, .inl (ca 0, 7, .inl f7))] H16 := hP16
  have hD16 : va_D A [(a0, .inr (8, rg 15 f10)), (a2, .inl (ca 0, 8, .inl f16)), (a3, .inl (ca 0, 7, .inl f7))] := hD16
  clear hP15 hD15 hS15 hF15
  refine lv_iinc (v := 6) (lv' := [(1, .int 6), (0, .ref a0)]) hx hb d_10_3_81 hl (k := 0) rfl (by decide) (by decide) rfl (fun ls hl => ?_)
  refine lv_goto (tgt := 68) hx hb d_10_3_84 (by decide) ?_
  refine lv_iload_n hx hb d_10_3_68 rfl (lv_at hl 0 rfl) ?_
  refine lv_bipush (v := 8) hx hb d_10_3_69 (by decide) ?_
  refine lv_icmp_ge (tgt := 87) hx hb d_10_3_71 (by decide) (fun c => absurd c (by decide)) (fun _ => ?_)
  refine lv_aload_n hx hb d_10_3_74 rfl (lv_at hl 1 rfl) ?_
  refine gget hx hb hts inW_8 hown hK hP16 0 rfl rfl hF10 0 rfl (by decide) k_7_226 d_10_3_75 ?_
  refine lv_iload_n hx hb d_10_3_78 rfl (lv_at hl 0 rfl) ?_
  refine lv_iconst (v := (-1)) hx hb d_10_3_79 (by decide) ?_
  refine gastX hx hb hK hP16 hD16 hS16 1 0 rfl rfl (vinC (by decide)) d_10_3_80 (fun f17 H17 locs17 hP17 hD17 hS17 => ?_)
  have hF17 : gF f17 [] := gF_nil
  have hP17 : va_P D cls [(a0, .inr (8, rg 15 f10)), (a2, .inl (ca 0, 8, .inl f17)), (a3, .inl (ca 0, 7, .inl f7))] H17 := hP17
  have hD17 : va_D A [(a0, .inr (8, rg 15 f10)), (a2, .inl (ca 0, 8, .inl f17)), (a3, .inl (ca 0, 7, .inl f7))] := hD17
  clear hP16 hD16 hS16 hF16
  refine lv_iinc (v := 7) (lv' := [(1, .int 7), (0, .ref a0)]) hx hb d_10_3_81 hl (k := 0) rfl (by decide) (by decide) rfl (fun ls hl => ?_)
  refine lv_goto (tgt := 68) hx hb d_10_3_84 (by decide) ?_
  refine lv_iload_n hx hb d_10_3_68 rfl (lv_at hl 0 rfl) ?_
  refine lv_bipush (v := 8) hx hb d_10_3_69 (by decide) ?_
  refine lv_icmp_ge (tgt := 87) hx hb d_10_3_71 (by decide) (fun c => absurd c (by decide)) (fun _ => ?_)
  refine lv_aload_n hx hb d_10_3_74 rfl (lv_at hl 1 rfl) ?_
  refine gget hx hb hts inW_8 hown hK hP17 0 rfl rfl hF10 0 rfl (by decide) k_7_226 d_10_3_75 ?_
  refine lv_iload_n hx hb d_10_3_78 rfl (lv_at hl 0 rfl) ?_
  refine lv_iconst (v := (-1)) hx hb d_10_3_79 (by decide) ?_
  refine gastX hx hb hK hP17 hD17 hS17 1 0 rfl rfl (vinC (by decide)) d_10_3_80 (fun f18 H18 locs18 hP18 hD18 hS18 => ?_)
  have hF18 : gF f18 [] := gF_nil
  have hP18 : va_P D cls [(a0, .inr (8, rg 15 f10)), (a2, .inl (ca 0, 8, .inl f18)), (a3, .inl (ca 0, 7, .inl f7))] H18 := hP18
  have hD18 : va_D A [(a0, .inr (8, rg 15 f10)), (a2, .inl (ca 0, 8, .inl f18)), (a3, .inl (ca 0, 7, .inl f7))] := hD18
  clear hP17 hD17 hS17 hF17
  refine lv_iinc (v := 8) (lv' := [(1, .int 8), (0, .ref a0)]) hx hb d_10_3_81 hl (k := 0) rfl (by decide) (by decide) rfl (fun ls hl => ?_)
  refine lv_goto (tgt := 68) hx hb d_10_3_84 (by decide) ?_
  refine lv_iload_n hx hb d_10_3_68 rfl (lv_at hl 0 rfl) ?_
  refine lv_bipush (v := 8) hx hb d_10_3_69 (by decide) ?_
  refine lv_icmp_ge (tgt := 87) hx hb d_10_3_71 (by decide) (fun _ => ?_) (fun c => absurd (by decide) c)
  have hP9 := hP18.sub (ws' := [(a0, .inr (8, rg 15 f10)), (a2, .inl (ca 0, 8, .inl f18)), (a3, .inl (ca 0, 7, .inl f7))]) [0, 1, 2] rfl
  have hD9 := hD18.sub (ws' := [(a0, .inr (8, rg 15 f10)), (a2, .inl (ca 0, 8, .inl f18)), (a3, .inl (ca 0, 7, .inl f7))]) [0, 1, 2] (by decide) rfl
  refine W.widen (k := 0) (n := 0) (Nat.le_of_ble_eq_true rfl) (Nat.le_of_ble_eq_true rfl) ?_
  exact W.vret hx hb hr (fun t ht hW => ⟨⟨(f10, f18, f7), rfl, ⟨hM10.mono (by decide), hF10.sub [] rfl, hF18.sub [] rfl, hF7.sub [] rfl⟩, by rw [ht]; exact hP9, va_K.moved hW.alike hK, hD9⟩, hS18.F ht⟩) hS18.2.2 d_10_3_87
abbrev Q_String_coder_12 (D : va_G) (ca : Nat → ClassId)  (A : Nat → Prop) : Array Value → State → Outcome → State → Prop := va_Qi (S := Unit) (fun (r : Int32) (u : Unit) => r = 0) (fun u => gB D ca A []) A
set_option maxHeartbeats 8000000 in
set_option maxRecDepth 100000 in
theorem c_String_coder_12 (l : Launch) (D : va_G) (ca : Nat → ClassId) (ad av : Nat → Nat) (sz : Nat)   : Met l ({ cls := "java/lang/String", name := "coder", desc := "()B" } : Jvm.MethodName) (Cond.code ({ cls := "java/lang/String", name := "coder", desc := "()B" } : Jvm.MethodName) prog_21_method_152_code 1 (Option.some Jvm.ClassFile.FieldType.byte) :: wAll) ({ frames := 0, cells := 0, slots := 0, locals := 0 } : Room) (va_Pc [.ref (ad 0)] (gPre D ca ad av [] sz)) (Q_String_coder_12 D ca  (va_A [] sz)) 0 0 (va_A [] sz) := by
  refine gMet (Qc := Q_String_coder_12 D ca ) (lv := [(0, .ref (ad 0))]) (by decide) (Nat.le_of_ble_eq_true rfl) rfl (fun A p e s m below meth c ls hx hb hr hml hown hts hlk hnm hl hP hK hD hS hA hX => ?_)
  have hown : s.vm.findClass "java/lang/String" = some m.cls := hown
  have hnm : meth.name = "coder" := hnm
  refine va_gets hx hb (hX.2.2.2.1 _ (List.mem_of_getElem? (i := 0) rfl)) hS hown (hts _ k_3_79) (fun _ h => h) d_21_152_0 ?_
  refine lv_if_eq (tgt := 13) hx hb d_21_152_3 (by decide) (fun c => absurd c (by decide)) (fun _ => ?_)
  refine lv_aload_n hx hb d_21_152_6 rfl (lv_at hl 0 rfl) ?_
  refine vk_getf hx hb ((hX.2.2.2.2.1 0 _ rfl).2.1 0 (by decide)).2.1 hS hown (hts _ k_15_171) (fun _ h => h) d_21_152_7 ?_
  refine W.eq (g2 := F0 m 10 ls [.int 0]) rfl ?_
  refine lv_goto (tgt := 14) hx hb d_21_152_10 (by decide) ?_
  have hP9 := hP.sub (ws' := []) [] rfl
  have hD9 := hD.sub (ws' := []) [] (by decide) rfl
  refine W.widen (k := 0) (n := 0) (Nat.le_of_ble_eq_true rfl) (Nat.le_of_ble_eq_true rfl) ?_
  exact W.zret (v := 0) hx hb hr rfl (fun t ht hW => ⟨⟨0, (), rfl, rfl, by rw [ht]; exact hP9, va_K.moved hW.alike hK, hD9⟩, hS.F ht⟩) hS.2.2 d_21_152_14
abbrev Q_String_length_12 (D : va_G) (ca : Nat → ClassId)  (A : Nat → Prop) : Array Value → State → Outcome → State → Prop := va_Qi (S := Unit) (fun (r : Int32) (u : Unit) => r = 4) (fun u => gB D ca A []) A
set_option maxHeartbeats 8000000 in
set_option maxRecDepth 100000 in
theorem c_String_length_12 (l : Launch) (D : va_G) (ca : Nat → ClassId) (ad av : Nat → Nat) (sz : Nat)   : Met l ({ cls := "java/lang/String", name := "length", desc := "()I" } : Jvm.MethodName) (Cond.code ({ cls := "java/lang/String", name := "length", desc := "()I" } : Jvm.MethodName) prog_21_method_54_code 1 (Option.some Jvm.ClassFile.FieldType.int) :: wAll) ({ frames := 1, cells := 0, slots := 0, locals := 20 } : Room) (va_Pc [.ref (ad 0)] (gPre D ca ad av [] sz)) (Q_String_length_12 D ca  (va_A [] sz)) 0 0 (va_A [] sz) := by
  refine gMet (Qc := Q_String_length_12 D ca ) (lv := [(0, .ref (ad 0))]) (by decide) (Nat.le_of_ble_eq_true rfl) rfl (fun A p e s m below meth c ls hx hb hr hml hown hts hlk hnm hl hP hK hD hS hA hX => ?_)
  have hown : s.vm.findClass "java/lang/String" = some m.cls := hown
  have hnm : meth.name = "length" := hnm
  refine lv_aload_n hx hb d_21_54_0 rfl (lv_at hl 0 rfl) ?_
  refine vk_getf hx hb ((hX.2.2.2.2.1 0 _ rfl).2.1 0 (by decide)).2.2.1 hS hown (hts _ k_15_170) (fun _ h => h) d_21_54_1 ?_
  refine W.eq (g2 := F0 m 4 ls [.ref (av 0)]) rfl ?_
  refine va_tlen (v := 4) hx hb ((hX.2.2.2.2.1 0 _ rfl).2.1 0 (by decide)).2.2.2 hS (by decide) d_21_54_4 ?_
  refine lv_aload_n hx hb d_21_54_5 rfl (lv_at hl 0 rfl) ?_
  have hFc1 := va_free (wc := []) hD hS hA [] rfl
  refine va_calli (va_runV (As := []) (rest := [.int 4]) ⟨hx, hb, hml, hown, hts⟩ (c_String_coder_12 l D ca ad av s.heap.size  ) (cwV 0 hts (gdV k_3_85 k_3_86 k_3_87 k_1_11 k_3_88) rfl rfl rfl (by decide +kernel) ⟨Nat.le_of_ble_eq_true rfl, Nat.le_of_ble_eq_true rfl⟩) ⟨gBlind, vk_recv (i := 0) (hX.2.2.2.2.1 0 _ rfl).2 (by decide) hS, gAt hP hD hK hS hA hX [] (by decide) rfl [.ref (ad 0)]⟩ rfl rfl hl.1 rfl (lv_room (Nat.le_of_ble_eq_true rfl)) d_21_54_6 ⟨Nat.le_of_ble_eq_true rfl, Nat.le_of_ble_eq_true rfl⟩) hS (fun q _ h => hFc1 q h) hFc1 (fun r1 u1 t1 H1 locs1 ht1 hvm1 hw1 hB1 hz1 hk1 hS1 => ?_)
  have hr1 := hw1
  obtain ⟨hP1, hD1⟩ := gJoin (wr := []) (w1 := []) hP hD [] [] rfl rfl (by decide) (by decide) hk1 hFc1 ht1 hB1
  have hP1 : va_P D cls [] H1 := hP1
  have hD1 : va_D A [] := hD1
  refine W.widen (k := 0) (n := 0) (Nat.le_of_ble_eq_true rfl) (Nat.le_of_ble_eq_true rfl) ?_
  subst hr1
  refine lv_ishr hx hb d_21_54_9 ?_
  refine lv_topi (fun y2 ey2 => ?_)
  obtain rfl : y2 = 4 := ey2.trans (by decide)
  have hP9 := hP1.sub (ws' := []) [] rfl
  have hD9 := hD1.sub (ws' := []) [] (by decide) rfl
  refine W.widen (k := 0) (n := 0) (Nat.le_of_ble_eq_true rfl) (Nat.le_of_ble_eq_true rfl) ?_
  exact W.iret (v := 4) hx hb hr (fun t ht hW => ⟨⟨4, (), rfl, rfl, by rw [ht]; exact hP9, va_K.moved hW.alike hK, hD9⟩, hS1.F ht⟩) hS1.2.2 d_21_54_10
abbrev Q_String_isLatin1_12 (D : va_G) (ca : Nat → ClassId)  (A : Nat → Prop) : Array Value → State → Outcome → State → Prop := va_Qi (S := Unit) (fun (r : Int32) (u : Unit) => r = 1) (fun u => gB D ca A []) A
set_option maxHeartbeats 8000000 in
set_option maxRecDepth 100000 in
theorem c_String_isLatin1_12 (l : Launch) (D : va_G) (ca : Nat → ClassId) (ad av : Nat → Nat) (sz : Nat)   : Met l ({ cls := "java/lang/String", name := "isLatin1", desc := "()Z" } : Jvm.MethodName) (Cond.code ({ cls := "java/lang/String", name := "isLatin1", desc := "()Z" } : Jvm.MethodName) prog_21_method_154_code 1 (Option.some Jvm.ClassFile.FieldType.boolean) :: wAll) ({ frames := 0, cells := 0, slots := 0, locals := 0 } : Room) (va_Pc [.ref (ad 0)] (gPre D ca ad av [] sz)) (Q_String_isLatin1_12 D ca  (va_A [] sz)) 0 0 (va_A [] sz) := by
  refine gMet (Qc := Q_String_isLatin1_12 D ca ) (lv := [(0, .ref (ad 0))]) (by decide) (Nat.le_of_ble_eq_true rfl) rfl (fun A p e s m below meth c ls hx hb hr hml hown hts hlk hnm hl hP hK hD hS hA hX => ?_)
  have hown : s.vm.findClass "java/lang/String" = some m.cls := hown
  have hnm : meth.name = "isLatin1" := hnm
  refine va_gets hx hb (hX.2.2.2.1 _ (List.mem_of_getElem? (i := 0) rfl)) hS hown (hts _ k_3_79) (fun _ h => h) d_21_154_0 ?_
  refine lv_if_eq (tgt := 17) hx hb d_21_154_3 (by decide) (fun c => absurd c (by decide)) (fun _ => ?_)
  refine lv_aload_n hx hb d_21_154_6 rfl (lv_at hl 0 rfl) ?_
  refine vk_getf hx hb ((hX.2.2.2.2.1 0 _ rfl).2.1 0 (by decide)).2.1 hS hown (hts _ k_15_171) (fun _ h => h) d_21_154_7 ?_
  refine W.eq (g2 := F0 m 10 ls [.int 0]) rfl ?_
  refine lv_if_ne (tgt := 17) hx hb d_21_154_10 (by decide) (fun c => absurd c (by decide)) (fun _ => ?_)
  refine lv_iconst (v := 1) hx hb d_21_154_13 (by decide) ?_
  refine lv_goto (tgt := 18) hx hb d_21_154_14 (by decide) ?_
  have hP9 := hP.sub (ws' := []) [] rfl
  have hD9 := hD.sub (ws' := []) [] (by decide) rfl
  refine W.widen (k := 0) (n := 0) (Nat.le_of_ble_eq_true rfl) (Nat.le_of_ble_eq_true rfl) ?_
  exact W.zret (v := 1) hx hb hr rfl (fun t ht hW => ⟨⟨1, (), rfl, rfl, by rw [ht]; exact hP9, va_K.moved hW.alike hK, hD9⟩, hS.F ht⟩) hS.2.2 d_21_154_18
abbrev Q_StringLatin1_charAt_35 (D : va_G) (ca : Nat → ClassId)  (A : Nat → Prop) : Array Value → State → Outcome → State → Prop := va_Qi (S := Unit) (fun (r : Int32) (u : Unit) => r = 77) (fun u => gB D ca A []) A
set_option maxHeartbeats 8000000 in
set_option maxRecDepth 100000 in
theorem c_StringLatin1_charAt_35 (l : Launch) (D : va_G) (ca : Nat → ClassId) (ad av : Nat → Nat) (sz : Nat)   : Met l ({ cls := "java/lang/StringLatin1", name := "charAt", desc := "([BI)C" } : Jvm.MethodName) (Cond.code ({ cls := "java/lang/StringLatin1", name := "charAt", desc := "([BI)C" } : Jvm.MethodName) prog_22_method_2_code 2 (Option.some Jvm.ClassFile.FieldType.char) :: wAll) ({ frames := 2, cells := 0, slots := 0, locals := 43 } : Room) (va_Pc [.ref (av 0), .int 0] (gPre D ca ad av [] sz)) (Q_StringLatin1_charAt_35 D ca  (va_A [] sz)) 0 0 (va_A [] sz) := by
  refine gMet (Qc := Q_StringLatin1_charAt_35 D ca ) (lv := [(0, .ref (av 0)), (1, .int 0)]) (by decide) (Nat.le_of_ble_eq_true rfl) rfl (fun A p e s m below meth c ls hx hb hr hml hown hts hlk hnm hl hP hK hD hS hA hX => ?_)
  have hown : s.vm.findClass "java/lang/StringLatin1" = some m.cls := hown
  have hnm : meth.name = "charAt" := hnm
  refine lv_iload_n hx hb d_22_2_0 rfl (lv_at hl 1 rfl) ?_
  refine lv_aload_n hx hb d_22_2_1 rfl (lv_at hl 0 rfl) ?_
  refine va_tlen (v := 4) hx hb ((hX.2.2.2.2.1 0 _ rfl).2.1 0 (by decide)).2.2.2 hS (by decide) d_22_2_2 ?_
  have hFc1 := va_free (wc := []) hD hS hA [] rfl
  refine va_callv (va_runS (As := [.int 0, .int 4]) (rest := []) ⟨hx, hb, hml, hown, hts⟩ (c_String_checkIndex_6 l D ca ad av s.heap.size  ) (va_cwS 2 hts (gdS k_7_140 k_7_141 k_1_11 k_7_142) rfl rfl rfl (by decide +kernel) ⟨Nat.le_of_ble_eq_true rfl, Nat.le_of_ble_eq_true rfl⟩) (gPS hP hD hK hS hA hX [] (by decide) rfl [.int 0, .int 4]) rfl rfl hl.1 rfl (lv_room (Nat.le_of_ble_eq_true rfl)) d_22_2_3 ⟨Nat.le_of_ble_eq_true rfl, Nat.le_of_ble_eq_true rfl⟩) hS (fun q _ h => hFc1 q h) hFc1 (fun u1 t1 H1 locs1 ht1 hvm1 hw1 hB1 hz1 hk1 hS1 => ?_)
  obtain ⟨hP1, hD1⟩ := gJoin (wr := []) (w1 := []) hP hD [] [] rfl rfl (by decide) (by decide) hk1 hFc1 ht1 hB1
  have hP1 : va_P D cls [] H1 := hP1
  have hD1 : va_D A [] := hD1
  refine W.widen (k := 0) (n := 0) (Nat.le_of_ble_eq_true rfl) (Nat.le_of_ble_eq_true rfl) ?_
  refine lv_aload_n hx hb d_22_2_6 rfl (lv_at hl 0 rfl) ?_
  refine lv_iload_n hx hb d_22_2_7 rfl (lv_at hl 1 rfl) ?_
  refine va_tb (v := .int 77) hx hb ((hX.2.2.2.2.1 0 _ rfl).2.1 0 (by decide)).2.2.2 hS1 (vinC (by decide)) rfl d_22_2_8 ?_
  refine lv_sipush (v := 255) hx hb d_22_2_9 (by decide) ?_
  refine lv_iand hx hb d_22_2_12 ?_
  refine lv_topi (fun y2 ey2 => ?_)
  obtain rfl : y2 = 77 := ey2.trans (by decide)
  refine lv_i2c hx hb d_22_2_13 rfl ?_
  refine lv_topi (fun y3 ey3 => ?_)
  obtain rfl : y3 = 77 := ey3.trans (by decide)
  have hP9 := hP1.sub (ws' := []) [] rfl
  have hD9 := hD1.sub (ws' := []) [] (by decide) rfl
  refine W.widen (k := 0) (n := 0) (Nat.le_of_ble_eq_true rfl) (Nat.le_of_ble_eq_true rfl) ?_
  exact W.zret (v := 77) hx hb hr rfl (fun t ht hW => ⟨⟨77, (), rfl, rfl, by rw [ht]; exact hP9, va_K.moved hW.alike hK, hD9⟩, hS1.F ht⟩) hS1.2.2 d_22_2_14
abbrev Q_String_charAt_35 (D : va_G) (ca : Nat → ClassId)  (A : Nat → Prop) : Array Value → State → Outcome → State → Prop := va_Qi (S := Unit) (fun (r : Int32) (u : Unit) => r = 77) (fun u => gB D ca A []) A
set_option maxHeartbeats 8000000 in
set_option maxRecDepth 100000 in
theorem c_String_charAt_35 (l : Launch) (D : va_G) (ca : Nat → ClassId) (ad av : Nat → Nat) (sz : Nat)   : Met l ({ cls := "java/lang/String", name := "charAt", desc := "(I)C" } : Jvm.MethodName) (Cond.code ({ cls := "java/lang/String", name := "charAt", desc := "(I)C" } : Jvm.MethodName) prog_21_method_56_code 2 (Option.some Jvm.ClassFile.FieldType.char) :: wAll) ({ frames := 3, cells := 0, slots := 0, locals := 64 } : Room) (va_Pc [.ref (ad 0), .int 0] (gPre D ca ad av [] sz)) (Q_String_charAt_35 D ca  (va_A [] sz)) 0 0 (va_A [] sz) := by
  refine gMet (Qc := Q_String_charAt_35 D ca ) (lv := [(0, .ref (ad 0)), (1, .int 0)]) (by decide) (Nat.le_of_ble_eq_true rfl) rfl (fun A p e s m below meth c ls hx hb hr hml hown hts hlk hnm hl hP hK hD hS hA hX => ?_)
  have hown : s.vm.findClass "java/lang/String" = some m.cls := hown
  have hnm : meth.name = "charAt" := hnm
  refine lv_aload_n hx hb d_21_56_0 rfl (lv_at hl 0 rfl) ?_
  have hFc1 := va_free (wc := []) hD hS hA [] rfl
  refine va_calli (va_runV (As := []) (rest := []) ⟨hx, hb, hml, hown, hts⟩ (c_String_isLatin1_12 l D ca ad av s.heap.size  ) (cwV 0 hts (gdV k_3_75 k_3_76 k_3_77 k_1_11 k_3_78) rfl rfl rfl (by decide +kernel) ⟨Nat.le_of_ble_eq_true rfl, Nat.le_of_ble_eq_true rfl⟩) ⟨gBlind, vk_recv (i := 0) (hX.2.2.2.2.1 0 _ rfl).2 (by decide) hS, gAt hP hD hK hS hA hX [] (by decide) rfl [.ref (ad 0)]⟩ rfl rfl hl.1 rfl (lv_room (Nat.le_of_ble_eq_true rfl)) d_21_56_1 ⟨Nat.le_of_ble_eq_true rfl, Nat.le_of_ble_eq_true rfl⟩) hS (fun q _ h => hFc1 q h) hFc1 (fun r1 u1 t1 H1 locs1 ht1 hvm1 hw1 hB1 hz1 hk1 hS1 => ?_)
  have hr1 := hw1
  obtain ⟨hP1, hD1⟩ := gJoin (wr := []) (w1 := []) hP hD [] [] rfl rfl (by decide) (by decide) hk1 hFc1 ht1 hB1
  have hP1 : va_P D cls [] H1 := hP1
  have hD1 : va_D A [] := hD1
  refine W.widen (k := 0) (n := 0) (Nat.le_of_ble_eq_true rfl) (Nat.le_of_ble_eq_true rfl) ?_
  subst hr1
  refine lv_if_eq (tgt := 16) hx hb d_21_56_4 (by decide) (fun c => absurd c (by decide)) (fun _ => ?_)
  refine lv_aload_n hx hb d_21_56_7 rfl (lv_at hl 0 rfl) ?_
  refine vk_getf hx hb ((hX.2.2.2.2.1 0 _ rfl).2.1 0 (by decide)).2.2.1 hS1 hown (hts _ k_15_170) (fun _ h => h) d_21_56_8 ?_
  refine W.eq (g2 := F0 m 11 ls [.ref (av 0)]) rfl ?_
  refine lv_iload_n hx hb d_21_56_11 rfl (lv_at hl 1 rfl) ?_
  have hFc2 := va_free (wc := []) hD1 hS1 hA [] rfl
  refine va_calli (va_runS (As := [.ref (av 0), .int 0]) (rest := []) ⟨hx, hb, hml, hown, hts⟩ (c_StringLatin1_charAt_35 l D ca ad av H1.size  ) (va_cwS 2 hts (gdS k_7_137 k_7_138 k_1_12 k_7_139) rfl rfl rfl (by decide +kernel) ⟨Nat.le_of_ble_eq_true rfl, Nat.le_of_ble_eq_true rfl⟩) (gPS hP1 hD1 hK hS1 hA hX [] (by decide) rfl [.ref (av 0), .int 0]) rfl rfl hl.1 rfl (lv_room (Nat.le_of_ble_eq_true rfl)) d_21_56_12 ⟨Nat.le_of_ble_eq_true rfl, Nat.le_of_ble_eq_true rfl⟩) hS1 (fun q _ h => hFc2 q h) hFc2 (fun r2 u2 t2 H2 locs2 ht2 hvm2 hw2 hB2 hz2 hk2 hS2 => ?_)
  have hr2 := hw2
  obtain ⟨hP2, hD2⟩ := gJoin (wr := []) (w1 := []) hP1 hD1 [] [] rfl rfl (by decide) (by decide) hk2 hFc2 ht2 hB2
  have hP2 : va_P D cls [] H2 := hP2
  have hD2 : va_D A [] := hD2
  refine W.widen (k := 0) (n := 0) (Nat.le_of_ble_eq_true rfl) (Nat.le_of_ble_eq_true rfl) ?_
  subst hr2
  have hP9 := hP2.sub (ws' := []) [] rfl
  have hD9 := hD2.sub (ws' := []) [] (by decide) rfl
  refine W.widen (k := 0) (n := 0) (Nat.le_of_ble_eq_true rfl) (Nat.le_of_ble_eq_true rfl) ?_
  exact W.zret (v := 77) hx hb hr rfl (fun t ht hW => ⟨⟨77, (), rfl, rfl, by rw [ht]; exact hP9, va_K.moved hW.alike hK, hD9⟩, hS2.F ht⟩) hS2.2.2 d_21_56_15
abbrev Q_SoundFile_refuse_0 (D : va_G) (ca : Nat → ClassId) (a0 : Nat) (g0 : Nat → Value) (A : Nat → Prop) : Array Value → State → Outcome → State → Prop := va_Qv (S := (Nat → Value)) (fun (u : (Nat → Value)) => gM g0 u [7] ∧ gF u [(7, .int 2)]) (fun u => gB D ca A [(a0, .inr (8, rg 15 u))]) A
set_option maxHeartbeats 8000000 in
set_option maxRecDepth 100000 in
theorem c_SoundFile_refuse_0 (l : Launch) (D : va_G) (ca : Nat → ClassId) (ad av : Nat → Nat) (sz : Nat) (a0 : Nat) (g0 : Nat → Value) (hp0 : gF g0 [(7, .int 0)]) : Met l ({ cls := "StaveHouse$SoundFile", name := "refuse", desc := "(II)V" } : Jvm.MethodName) (Cond.code ({ cls := "StaveHouse$SoundFile", name := "refuse", desc := "(II)V" } : Jvm.MethodName) prog_10_method_4_code 3 (Option.none : Option Jvm.ClassFile.FieldType) :: wAll) ({ frames := 0, cells := 0, slots := 0, locals := 0 } : Room) (va_Pc [.ref a0, .int 2, .int 0] (gPre D ca ad av [(a0, .inr (8, rg 15 g0))] sz)) (Q_SoundFile_refuse_0 D ca a0 g0 (va_A [(a0, .inr (8, rg 15 g0))] sz)) 0 0 (va_A [(a0, .inr (8, rg 15 g0))] sz) := by
  refine gMet (Qc := Q_SoundFile_refuse_0 D ca a0 g0) (lv := [(0, .ref a0), (1, .int 2), (2, .int 0)]) (by decide) (Nat.le_of_ble_eq_true rfl) rfl (fun A p e s m below meth c ls hx hb hr hml hown hts hlk hnm hl hP hK hD hS hA hX => ?_)
  have hown : s.vm.findClass "StaveHouse$SoundFile" = some m.cls := hown
  have hnm : meth.name = "refuse" := hnm
  refine lv_aload_n hx hb d_10_4_0 rfl (lv_at hl 0 rfl) ?_
  refine gget hx hb hts inW_8 hown hK hP 0 rfl rfl hp0 0 rfl (by decide) k_7_231 d_10_4_1 ?_
  refine lv_if_ne (tgt := 17) hx hb d_10_4_4 (by decide) (fun c => absurd c (by decide)) (fun _ => ?_)
  refine lv_aload_n hx hb d_10_4_7 rfl (lv_at hl 0 rfl) ?_
  refine lv_iload_n hx hb d_10_4_8 rfl (lv_at hl 1 rfl) ?_
  refine lv_bipush (v := 16) hx hb d_10_4_9 (by decide) ?_
  refine lv_iload_n hx hb d_10_4_11 rfl (lv_at hl 2 rfl) ?_
  refine lv_imul hx hb d_10_4_12 ?_
  refine lv_topi (fun y1 ey1 => ?_)
  obtain rfl : y1 = 0 := ey1.trans (by decide)
  refine lv_iadd hx hb d_10_4_13 ?_
  refine lv_topi (fun y2 ey2 => ?_)
  obtain rfl : y2 = 2 := ey2.trans (by decide)
  refine gput hx hb hts inW_8 tyX8 tyX8_ok nmX8 hown hK hP hD hS 0 rfl rfl hp0 7 (by decide) k_7_231 rfl rfl rfl d_10_4_14 (L' := [(7, .int 2)]) rfl (fun f3 H3 locs3 hF3 hm3 hP3 hD3 hS3 => ?_)
  have hM3 := gM.tr (gM.rf (f := g0)) hm3
  have hP3 : va_P D cls [(a0, .inr (8, rg 15 f3))] H3 := hP3
  have hD3 : va_D A [(a0, .inr (8, rg 15 f3))] := hD3
  clear hm3
  have hP9 := hP3.sub (ws' := [(a0, .inr (8, rg 15 f3))]) [0] rfl
  have hD9 := hD3.sub (ws' := [(a0, .inr (8, rg 15 f3))]) [0] (by decide) rfl
  refine W.widen (k := 0) (n := 0) (Nat.le_of_ble_eq_true rfl) (Nat.le_of_ble_eq_true rfl) ?_
  exact W.vret hx hb hr (fun t ht hW => ⟨⟨(f3), rfl, ⟨hM3.mono (by decide), hF3.sub [0] rfl⟩, by rw [ht]; exact hP9, va_K.moved hW.alike hK, hD9⟩, hS3.F ht⟩) hS3.2.2 d_10_4_17
abbrev Q_SoundFile_take_0 (D : va_G) (ca : Nat → ClassId) (a0 : Nat) (g0 : Nat → Value) (A : Nat → Prop) : Array Value → State → Outcome → State → Prop := va_Qi (S := (Nat → Value)) (fun (r : Int32) (u : (Nat → Value)) => r = 0 ∧ gM g0 u [7] ∧ gF u [(7, .int 2)]) (fun u => gB D ca A [(a0, .inr (8, rg 15 u))]) A
set_option maxHeartbeats 8000000 in
set_option maxRecDepth 100000 in
theorem c_SoundFile_take_0 (l : Launch) (D : va_G) (ca : Nat → ClassId) (ad av : Nat → Nat) (sz : Nat) (a0 : Nat) (g0 : Nat → Value) (hp0 : gF g0 [(7, .int 0), (6, .int 0), (5, .int 0)]) : Met l ({ cls := "StaveHouse$SoundFile", name := "take", desc := "()I" } : Jvm.MethodName) (Cond.code ({ cls := "StaveHouse$SoundFile", name := "take", desc := "()I" } : Jvm.MethodName) prog_10_method_5_code 1 (Option.some Jvm.ClassFile.FieldType.int) :: wAll) ({ frames := 1, cells := 0, slots := 0, locals := 22 } : Room) (va_Pc [.ref a0] (gPre D ca ad av [(a0, .inr (8, rg 15 g0))] sz)) (Q_SoundFile_take_0 D ca a0 g0 (va_A [(a0, .inr (8, rg 15 g0))] sz)) 0 0 (va_A [(a0, .inr (8, rg 15 g0))] sz) := by
  refine gMet (Qc := Q_SoundFile_take_0 D ca a0 g0) (lv := [(0, .ref a0)]) (by decide) (Nat.le_of_ble_eq_true rfl) rfl (fun A p e s m below meth c ls hx hb hr hml hown hts hlk hnm hl hP hK hD hS hA hX => ?_)
  have hown : s.vm.findClass "StaveHouse$SoundFile" = some m.cls := hown
  have hnm : meth.name = "take" := hnm
  refine lv_aload_n hx hb d_10_5_0 rfl (lv_at hl 0 rfl) ?_
  refine gget hx hb hts inW_8 hown hK hP 0 rfl rfl hp0 2 rfl (by decide) k_7_229 d_10_5_1 ?_
  refine lv_aload_n hx hb d_10_5_4 rfl (lv_at hl 0 rfl) ?_
  refine gget hx hb hts inW_8 hown hK hP 0 rfl rfl hp0 1 rfl (by decide) k_7_230 d_10_5_5 ?_
  refine lv_icmp_ge (tgt := 18) hx hb d_10_5_8 (by decide) (fun _ => ?_) (fun c => absurd (by decide) c)
  refine lv_aload_n hx hb d_10_5_18 rfl (lv_at hl 0 rfl) ?_
  refine lv_iconst (v := 2) hx hb d_10_5_19 (by decide) ?_
  refine lv_aload_n hx hb d_10_5_20 rfl (lv_at hl 0 rfl) ?_
  refine gget hx hb hts inW_8 hown hK hP 0 rfl rfl hp0 1 rfl (by decide) k_7_230 d_10_5_21 ?_
  have hFc1 := va_free (wc := [(a0, .inr (8, rg 15 g0))]) hD hS hA [0] rfl
  refine va_callv (va_runV (As := [.int 2, .int 0]) (rest := []) ⟨hx, hb, hml, hown, hts⟩ (c_SoundFile_refuse_0 l D ca ad av s.heap.size a0 g0 (hp0.sub [0] rfl)) (cwV 2 hts (gdV k_8_53 k_8_55 ks_96 k_1_23 k_8_56) rfl rfl rfl (by decide +kernel) ⟨Nat.le_of_ble_eq_true rfl, Nat.le_of_ble_eq_true rfl⟩) (gPV hP hD hK hS hA hX [0] (by decide) rfl a0 [.int 2, .int 0] 0 (ci := 8) (r := (RX8, TX8, 15)) rfl rfl) rfl rfl hl.1 rfl (lv_room (Nat.le_of_ble_eq_true rfl)) d_10_5_24 ⟨Nat.le_of_ble_eq_true rfl, Nat.le_of_ble_eq_true rfl⟩) hS (fun q _ h => hFc1 q h) hFc1 (fun x1_0 t1 H1 locs1 ht1 hvm1 hw1 hB1 hz1 hk1 hS1 => ?_)
  obtain ⟨hw1_0, hw1_1⟩ := hw1
  obtain ⟨hP1, hD1⟩ := gJoin (wr := []) (w1 := [(a0, .inr (8, rg 15 x1_0))]) hP hD [0] [] rfl rfl (by decide) (by decide) hk1 hFc1 ht1 hB1
  have hF1_0 : gF x1_0 [(7, .int 2), (6, .int 0), (5, .int 0)] := gF.upd hp0 hw1_0 hw1_1 rfl
  have hM1_0 := gM.tr (gM.rf (f := g0)) hw1_0
  have hP1 : va_P D cls [(a0, .inr (8, rg 15 x1_0))] H1 := hP1
  have hD1 : va_D A [(a0, .inr (8, rg 15 x1_0))] := hD1
  refine W.widen (k := 0) (n := 0) (Nat.le_of_ble_eq_true rfl) (Nat.le_of_ble_eq_true rfl) ?_
  refine lv_iconst (v := 0) hx hb d_10_5_27 (by decide) ?_
  have hP9 := hP1.sub (ws' := [(a0, .inr (8, rg 15 x1_0))]) [0] rfl
  have hD9 := hD1.sub (ws' := [(a0, .inr (8, rg 15 x1_0))]) [0] (by decide) rfl
  refine W.widen (k := 0) (n := 0) (Nat.le_of_ble_eq_true rfl) (Nat.le_of_ble_eq_true rfl) ?_
  exact W.iret (v := 0) hx hb hr (fun t ht hW => ⟨⟨0, (x1_0), rfl, ⟨rfl, hM1_0.mono (by decide), hF1_0.sub [0] rfl⟩, by rw [ht]; exact hP9, va_K.moved hW.alike hK, hD9⟩, hS1.F ht⟩) hS1.2.2 d_10_5_28
abbrev Q_SoundFile_refuse_1 (D : va_G) (ca : Nat → ClassId) (a0 : Nat) (g0 : Nat → Value) (A : Nat → Prop) : Array Value → State → Outcome → State → Prop := va_Qv (S := Unit) (fun (u : Unit) => True) (fun u => gB D ca A [(a0, .inr (8, rg 15 g0))]) A
set_option maxHeartbeats 8000000 in
set_option maxRecDepth 100000 in
theorem c_SoundFile_refuse_1 (l : Launch) (D : va_G) (ca : Nat → ClassId) (ad av : Nat → Nat) (sz : Nat) (a0 : Nat) (g0 : Nat → Value) (hp0 : gF g0 [(7, .int 2)]) : Met l ({ cls := "StaveHouse$SoundFile", name := "refuse", desc := "(II)V" } : Jvm.MethodName) (Cond.code ({ cls := "StaveHouse$SoundFile", name := "refuse", desc := "(II)V" } : Jvm.MethodName) prog_10_method_4_code 3 (Option.none : Option Jvm.ClassFile.FieldType) :: wAll) ({ frames := 0, cells := 0, slots := 0, locals := 0 } : Room) (va_Pc [.ref a0, .int 1, .int (-1)] (gPre D ca ad av [(a0, .inr (8, rg 15 g0))] sz)) (Q_SoundFile_refuse_1 D ca a0 g0 (va_A [(a0, .inr (8, rg 15 g0))] sz)) 0 0 (va_A [(a0, .inr (8, rg 15 g0))] sz) := by
  refine gMet (Qc := Q_SoundFile_refuse_1 D ca a0 g0) (lv := [(0, .ref a0), (1, .int 1), (2, .int (-1))]) (by decide) (Nat.le_of_ble_eq_true rfl) rfl (fun A p e s m below meth c ls hx hb hr hml hown hts hlk hnm hl hP hK hD hS hA hX => ?_)
  have hown : s.vm.findClass "StaveHouse$SoundFile" = some m.cls := hown
  have hnm : meth.name = "refuse" := hnm
  refine lv_aload_n hx hb d_10_4_0 rfl (lv_at hl 0 rfl) ?_
  refine gget hx hb hts inW_8 hown hK hP 0 rfl rfl hp0 0 rfl (by decide) k_7_231 d_10_4_1 ?_
  refine lv_if_ne (tgt := 17) hx hb d_10_4_4 (by decide) (fun _ => ?_) (fun c => absurd c (by decide))
  have hP9 := hP.sub (ws' := [(a0, .inr (8, rg 15 g0))]) [0] rfl
  have hD9 := hD.sub (ws' := [(a0, .inr (8, rg 15 g0))]) [0] (by decide) rfl
  refine W.widen (k := 0) (n := 0) (Nat.le_of_ble_eq_true rfl) (Nat.le_of_ble_eq_true rfl) ?_
  exact W.vret hx hb hr (fun t ht hW => ⟨⟨(), rfl, trivial, by rw [ht]; exact hP9, va_K.moved hW.alike hK, hD9⟩, hS.F ht⟩) hS.2.2 d_10_4_17
abbrev Q_SoundFile_takeOnly_0 (D : va_G) (ca : Nat → ClassId) (a0 : Nat) (g0 : Nat → Value) (A : Nat → Prop) : Array Value → State → Outcome → State → Prop := va_Qv (S := (Nat → Value)) (fun (u : (Nat → Value)) => gM g0 u [7] ∧ gF u [(7, .int 2)]) (fun u => gB D ca A [(a0, .inr (8, rg 15 u))]) A
set_option maxHeartbeats 8000000 in
set_option maxRecDepth 100000 in
theorem c_SoundFile_takeOnly_0 (l : Launch) (D : va_G) (ca : Nat → ClassId) (ad av : Nat → Nat) (sz : Nat) (a0 : Nat) (g0 : Nat → Value) (hp0 : gF g0 [(7, .int 0), (6, .int 0), (5, .int 0)]) : Met l ({ cls := "StaveHouse$SoundFile", name := "takeOnly", desc := "(II)V" } : Jvm.MethodName) (Cond.code ({ cls := "StaveHouse$SoundFile", name := "takeOnly", desc := "(II)V" } : Jvm.MethodName) prog_10_method_6_code 4 (Option.none : Option Jvm.ClassFile.FieldType) :: wAll) ({ frames := 2, cells := 0, slots := 0, locals := 42 } : Room) (va_Pc [.ref a0, .int 77, .int 77] (gPre D ca ad av [(a0, .inr (8, rg 15 g0))] sz)) (Q_SoundFile_takeOnly_0 D ca a0 g0 (va_A [(a0, .inr (8, rg 15 g0))] sz)) 0 0 (va_A [(a0, .inr (8, rg 15 g0))] sz) := by
  refine gMet (Qc := Q_SoundFile_takeOnly_0 D ca a0 g0) (lv := [(0, .ref a0), (1, .int 77), (2, .int 77)]) (by decide) (Nat.le_of_ble_eq_true rfl) rfl (fun A p e s m below meth c ls hx hb hr hml hown hts hlk hnm hl hP hK hD hS hA hX => ?_)
  have hown : s.vm.findClass "StaveHouse$SoundFile" = some m.cls := hown
  have hnm : meth.name = "takeOnly" := hnm
  refine lv_aload_n hx hb d_10_6_0 rfl (lv_at hl 0 rfl) ?_
  have hFc1 := va_free (wc := [(a0, .inr (8, rg 15 g0))]) hD hS hA [0] rfl
  refine va_calli (va_runV (As := []) (rest := []) ⟨hx, hb, hml, hown, hts⟩ (c_SoundFile_take_0 l D ca ad av s.heap.size a0 g0 (hp0.sub [0, 1, 2] rfl)) (cwV 0 hts (gdV k_8_49 k_8_51 ks_95 k_1_23 k_8_52) rfl rfl rfl (by decide +kernel) ⟨Nat.le_of_ble_eq_true rfl, Nat.le_of_ble_eq_true rfl⟩) (gPV hP hD hK hS hA hX [0] (by decide) rfl a0 [] 0 (ci := 8) (r := (RX8, TX8, 15)) rfl rfl) rfl rfl hl.1 rfl (lv_room (Nat.le_of_ble_eq_true rfl)) d_10_6_1 ⟨Nat.le_of_ble_eq_true rfl, Nat.le_of_ble_eq_true rfl⟩) hS (fun q _ h => hFc1 q h) hFc1 (fun r1 x1_0 t1 H1 locs1 ht1 hvm1 hw1 hB1 hz1 hk1 hS1 => ?_)
  obtain ⟨hr1, hw1_1, hw1_2⟩ := hw1
  obtain ⟨hP1, hD1⟩ := gJoin (wr := []) (w1 := [(a0, .inr (8, rg 15 x1_0))]) hP hD [0] [] rfl rfl (by decide) (by decide) hk1 hFc1 ht1 hB1
  have hF1_0 : gF x1_0 [(7, .int 2), (6, .int 0), (5, .int 0)] := gF.upd hp0 hw1_1 hw1_2 rfl
  have hM1_0 := gM.tr (gM.rf (f := g0)) hw1_1
  have hP1 : va_P D cls [(a0, .inr (8, rg 15 x1_0))] H1 := hP1
  have hD1 : va_D A [(a0, .inr (8, rg 15 x1_0))] := hD1
  refine W.widen (k := 0) (n := 0) (Nat.le_of_ble_eq_true rfl) (Nat.le_of_ble_eq_true rfl) ?_
  subst hr1
  refine lv_istore_n (lv' := [(3, .int 0), (0, .ref a0), (1, .int 77), (2, .int 77)]) hx hb d_10_6_4 rfl hl (by decide) rfl (fun ls hl => ?_)
  refine lv_iload_n hx hb d_10_6_5 rfl (lv_at hl 0 rfl) ?_
  refine lv_iload_n hx hb d_10_6_6 rfl (lv_at hl 2 rfl) ?_
  refine lv_icmp_lt (tgt := 15) hx hb d_10_6_7 (by decide) (fun _ => ?_) (fun c => absurd (by decide) c)
  refine lv_aload_n hx hb d_10_6_15 rfl (lv_at hl 1 rfl) ?_
  refine lv_iconst (v := 1) hx hb d_10_6_16 (by decide) ?_
  refine lv_aload_n hx hb d_10_6_17 rfl (lv_at hl 1 rfl) ?_
  refine gget hx hb hts inW_8 hown hK hP1 0 rfl rfl hF1_0 2 rfl (by decide) k_7_229 d_10_6_18 ?_
  refine lv_iconst (v := 1) hx hb d_10_6_21 (by decide) ?_
  refine lv_isub hx hb d_10_6_22 ?_
  refine lv_topi (fun y2 ey2 => ?_)
  obtain rfl : y2 = -1 := ey2.trans (by decide)
  have hFc3 := va_free (wc := [(a0, .inr (8, rg 15 x1_0))]) hD1 hS1 hA [0] rfl
  refine va_callv (va_runV (As := [.int 1, .int (-1)]) (rest := []) ⟨hx, hb, hml, hown, hts⟩ (c_SoundFile_refuse_1 l D ca ad av H1.size a0 x1_0 (hF1_0.sub [0] rfl)) (cwV 2 hts (gdV k_8_53 k_8_55 ks_96 k_1_23 k_8_56) rfl rfl rfl (by decide +kernel) ⟨Nat.le_of_ble_eq_true rfl, Nat.le_of_ble_eq_true rfl⟩) (gPV hP1 hD1 hK hS1 hA hX [0] (by decide) rfl a0 [.int 1, .int (-1)] 0 (ci := 8) (r := (RX8, TX8, 15)) rfl rfl) rfl rfl hl.1 rfl (lv_room (Nat.le_of_ble_eq_true rfl)) d_10_6_23 ⟨Nat.le_of_ble_eq_true rfl, Nat.le_of_ble_eq_true rfl⟩) hS1 (fun q _ h => hFc3 q h) hFc3 (fun u3 t3 H3 locs3 ht3 hvm3 hw3 hB3 hz3 hk3 hS3 => ?_)
  obtain ⟨hP3, hD3⟩ := gJoin (wr := []) (w1 := [(a0, .inr (8, rg 15 x1_0))]) hP1 hD1 [0] [] rfl rfl (by decide) (by decide) hk3 hFc3 ht3 hB3
  have hP3 : va_P D cls [(a0, .inr (8, rg 15 x1_0))] H3 := hP3
  have hD3 : va_D A [(a0, .inr (8, rg 15 x1_0))] := hD3
  refine W.widen (k := 0) (n := 0) (Nat.le_of_ble_eq_true rfl) (Nat.le_of_ble_eq_true rfl) ?_
  have hP9 := hP3.sub (ws' := [(a0, .inr (8, rg 15 x1_0))]) [0] rfl
  have hD9 := hD3.sub (ws' := [(a0, .inr (8, rg 15 x1_0))]) [0] (by decide) rfl
  refine W.widen (k := 0) (n := 0) (Nat.le_of_ble_eq_true rfl) (Nat.le_of_ble_eq_true rfl) ?_
  exact W.vret hx hb hr (fun t ht hW => ⟨⟨(x1_0), rfl, ⟨hM1_0.mono (by decide), hF1_0.sub [0] rfl⟩, by rw [ht]; exact hP9, va_K.moved hW.alike hK, hD9⟩, hS3.F ht⟩) hS3.2.2 d_10_6_26
abbrev Q_StringLatin1_charAt_36 (D : va_G) (ca : Nat → ClassId)  (A : Nat → Prop) : Array Value → State → Outcome → State → Prop := va_Qi (S := Unit) (fun (r : Int32) (u : Unit) => r = 84) (fun u => gB D ca A []) A
set_option maxHeartbeats 8000000 in
set_option maxRecDepth 100000 in
theorem c_StringLatin1_charAt_36 (l : Launch) (D : va_G) (ca : Nat → ClassId) (ad av : Nat → Nat) (sz : Nat)   : Met l ({ cls := "java/lang/StringLatin1", name := "charAt", desc := "([BI)C" } : Jvm.MethodName) (Cond.code ({ cls := "java/lang/StringLatin1", name := "charAt", desc := "([BI)C" } : Jvm.MethodName) prog_22_method_2_code 2 (Option.some Jvm.ClassFile.FieldType.char) :: wAll) ({ frames := 2, cells := 0, slots := 0, locals := 43 } : Room) (va_Pc [.ref (av 0), .int 1] (gPre D ca ad av [] sz)) (Q_StringLatin1_charAt_36 D ca  (va_A [] sz)) 0 0 (va_A [] sz) := by
  refine gMet (Qc := Q_StringLatin1_charAt_36 D ca ) (lv := [(0, .ref (av 0)), (1, .int 1)]) (by decide) (Nat.le_of_ble_eq_true rfl) rfl (fun A p e s m below meth c ls hx hb hr hml hown hts hlk hnm hl hP hK hD hS hA hX => ?_)
  have hown : s.vm.findClass "java/lang/StringLatin1" = some m.cls := hown
  have hnm : meth.name = "charAt" := hnm
  refine lv_iload_n hx hb d_22_2_0 rfl (lv_at hl 1 rfl) ?_
  refine lv_aload_n hx hb d_22_2_1 rfl (lv_at hl 0 rfl) ?_
  refine va_tlen (v := 4) hx hb ((hX.2.2.2.2.1 0 _ rfl).2.1 0 (by decide)).2.2.2 hS (by decide) d_22_2_2 ?_
  have hFc1 := va_free (wc := []) hD hS hA [] rfl
  refine va_callv (va_runS (As := [.int 1, .int 4]) (rest := []) ⟨hx, hb, hml, hown, hts⟩ (c_String_checkIndex_7 l D ca ad av s.heap.size  ) (va_cwS 2 hts (gdS k_7_140 k_7_141 k_1_11 k_7_142) rfl rfl rfl (by decide +kernel) ⟨Nat.le_of_ble_eq_true rfl, Nat.le_of_ble_eq_true rfl⟩) (gPS hP hD hK hS hA hX [] (by decide) rfl [.int 1, .int 4]) rfl rfl hl.1 rfl (lv_room (Nat.le_of_ble_eq_true rfl)) d_22_2_3 ⟨Nat.le_of_ble_eq_true rfl, Nat.le_of_ble_eq_true rfl⟩) hS (fun q _ h => hFc1 q h) hFc1 (fun u1 t1 H1 locs1 ht1 hvm1 hw1 hB1 hz1 hk1 hS1 => ?_)
  obtain ⟨hP1, hD1⟩ := gJoin (wr := []) (w1 := []) hP hD [] [] rfl rfl (by decide) (by decide) hk1 hFc1 ht1 hB1
  have hP1 : va_P D cls [] H1 := hP1
  have hD1 : va_D A [] := hD1
  refine W.widen (k := 0) (n := 0) (Nat.le_of_ble_eq_true rfl) (Nat.le_of_ble_eq_true rfl) ?_
  refine lv_aload_n hx hb d_22_2_6 rfl (lv_at hl 0 rfl) ?_
  refine lv_iload_n hx hb d_22_2_7 rfl (lv_at hl 1 rfl) ?_
  refine va_tb (v := .int 84) hx hb ((hX.2.2.2.2.1 0 _ rfl).2.1 0 (by decide)).2.2.2 hS1 (vinC (by decide)) rfl d_22_2_8 ?_
  refine lv_sipush (v := 255) hx hb d_22_2_9 (by decide) ?_
  refine lv_iand hx hb d_22_2_12 ?_
  refine lv_topi (fun y2 ey2 => ?_)
  obtain rfl : y2 = 84 := ey2.trans (by decide)
  refine lv_i2c hx hb d_22_2_13 rfl ?_
  refine lv_topi (fun y3 ey3 => ?_)
  obtain rfl : y3 = 84 := ey3.trans (by decide)
  have hP9 := hP1.sub (ws' := []) [] rfl
  have hD9 := hD1.sub (ws' := []) [] (by decide) rfl
  refine W.widen (k := 0) (n := 0) (Nat.le_of_ble_eq_true rfl) (Nat.le_of_ble_eq_true rfl) ?_
  exact W.zret (v := 84) hx hb hr rfl (fun t ht hW => ⟨⟨84, (), rfl, rfl, by rw [ht]; exact hP9, va_K.moved hW.alike hK, hD9⟩, hS1.F ht⟩) hS1.2.2 d_22_2_14
abbrev Q_String_charAt_36 (D : va_G) (ca : Nat → ClassId)  (A : Nat → Prop) : Array Value → State → Outcome → State → Prop := va_Qi (S := Unit) (fun (r : Int32) (u : Unit) => r = 84) (fun u => gB D ca A []) A
set_option maxHeartbeats 8000000 in
set_option maxRecDepth 100000 in
theorem c_String_charAt_36 (l : Launch) (D : va_G) (ca : Nat → ClassId) (ad av : Nat → Nat) (sz : Nat)   : Met l ({ cls := "java/lang/String", name := "charAt", desc := "(I)C" } : Jvm.MethodName) (Cond.code ({ cls := "java/lang/String", name := "charAt", desc := "(I)C" } : Jvm.MethodName) prog_21_method_56_code 2 (Option.some Jvm.ClassFile.FieldType.char) :: wAll) ({ frames := 3, cells := 0, slots := 0, locals := 64 } : Room) (va_Pc [.ref (ad 0), .int 1] (gPre D ca ad av [] sz)) (Q_String_charAt_36 D ca  (va_A [] sz)) 0 0 (va_A [] sz) := by
  refine gMet (Qc := Q_String_charAt_36 D ca ) (lv := [(0, .ref (ad 0)), (1, .int 1)]) (by decide) (Nat.le_of_ble_eq_true rfl) rfl (fun A p e s m below meth c ls hx hb hr hml hown hts hlk hnm hl hP hK hD hS hA hX => ?_)
  have hown : s.vm.findClass "java/lang/String" = some m.cls := hown
  have hnm : meth.name = "charAt" := hnm
  refine lv_aload_n hx hb d_21_56_0 rfl (lv_at hl 0 rfl) ?_
  have hFc1 := va_free (wc := []) hD hS hA [] rfl
  refine va_calli (va_runV (As := []) (rest := []) ⟨hx, hb, hml, hown, hts⟩ (c_String_isLatin1_12 l D ca ad av s.heap.size  ) (cwV 0 hts (gdV k_3_75 k_3_76 k_3_77 k_1_11 k_3_78) rfl rfl rfl (by decide +kernel) ⟨Nat.le_of_ble_eq_true rfl, Nat.le_of_ble_eq_true rfl⟩) ⟨gBlind, vk_recv (i := 0) (hX.2.2.2.2.1 0 _ rfl).2 (by decide) hS, gAt hP hD hK hS hA hX [] (by decide) rfl [.ref (ad 0)]⟩ rfl rfl hl.1 rfl (lv_room (Nat.le_of_ble_eq_true rfl)) d_21_56_1 ⟨Nat.le_of_ble_eq_true rfl, Nat.le_of_ble_eq_true rfl⟩) hS (fun q _ h => hFc1 q h) hFc1 (fun r1 u1 t1 H1 locs1 ht1 hvm1 hw1 hB1 hz1 hk1 hS1 => ?_)
  have hr1 := hw1
  obtain ⟨hP1, hD1⟩ := gJoin (wr := []) (w1 := []) hP hD [] [] rfl rfl (by decide) (by decide) hk1 hFc1 ht1 hB1
  have hP1 : va_P D cls [] H1 := hP1
  have hD1 : va_D A [] := hD1
  refine W.widen (k := 0) (n := 0) (Nat.le_of_ble_eq_true rfl) (Nat.le_of_ble_eq_true rfl) ?_
  subst hr1
  refine lv_if_eq (tgt := 16) hx hb d_21_56_4 (by decide) (fun c => absurd c (by decide)) (fun _ => ?_)
  refine lv_aload_n hx hb d_21_56_7 rfl (lv_at hl 0 rfl) ?_
  refine vk_getf hx hb ((hX.2.2.2.2.1 0 _ rfl).2.1 0 (by decide)).2.2.1 hS1 hown (hts _ k_15_170) (fun _ h => h) d_21_56_8 ?_
  refine W.eq (g2 := F0 m 11 ls [.ref (av 0)]) rfl ?_
  refine lv_iload_n hx hb d_21_56_11 rfl (lv_at hl 1 rfl) ?_
  have hFc2 := va_free (wc := []) hD1 hS1 hA [] rfl
  refine va_calli (va_runS (As := [.ref (av 0), .int 1]) (rest := []) ⟨hx, hb, hml, hown, hts⟩ (c_StringLatin1_charAt_36 l D ca ad av H1.size  ) (va_cwS 2 hts (gdS k_7_137 k_7_138 k_1_12 k_7_139) rfl rfl rfl (by decide +kernel) ⟨Nat.le_of_ble_eq_true rfl, Nat.le_of_ble_eq_true rfl⟩) (gPS hP1 hD1 hK hS1 hA hX [] (by decide) rfl [.ref (av 0), .int 1]) rfl rfl hl.1 rfl (lv_room (Nat.le_of_ble_eq_true rfl)) d_21_56_12 ⟨Nat.le_of_ble_eq_true rfl, Nat.le_of_ble_eq_true rfl⟩) hS1 (fun q _ h => hFc2 q h) hFc2 (fun r2 u2 t2 H2 locs2 ht2 hvm2 hw2 hB2 hz2 hk2 hS2 => ?_)
  have hr2 := hw2
  obtain ⟨hP2, hD2⟩ := gJoin (wr := []) (w1 := []) hP1 hD1 [] [] rfl rfl (by decide) (by decide) hk2 hFc2 ht2 hB2
  have hP2 : va_P D cls [] H2 := hP2
  have hD2 : va_D A [] := hD2
  refine W.widen (k := 0) (n := 0) (Nat.le_of_ble_eq_true rfl) (Nat.le_of_ble_eq_true rfl) ?_
  subst hr2
  have hP9 := hP2.sub (ws' := []) [] rfl
  have hD9 := hD2.sub (ws' := []) [] (by decide) rfl
  refine W.widen (k := 0) (n := 0) (Nat.le_of_ble_eq_true rfl) (Nat.le_of_ble_eq_true rfl) ?_
  exact W.zret (v := 84) hx hb hr rfl (fun t ht hW => ⟨⟨84, (), rfl, rfl, by rw [ht]; exact hP9, va_K.moved hW.alike hK, hD9⟩, hS2.F ht⟩) hS2.2.2 d_21_56_15
abbrev Q_SoundFile_refuse_2 (D : va_G) (ca : Nat → ClassId) (a0 : Nat) (g0 : Nat → Value) (A : Nat → Prop) : Array Value → State → Outcome → State → Prop := va_Qv (S := Unit) (fun (u : Unit) => True) (fun u => gB D ca A [(a0, .inr (8, rg 15 g0))]) A
set_option maxHeartbeats 8000000 in
set_option maxRecDepth 100000 in
theorem c_SoundFile_refuse_2 (l : Launch) (D : va_G) (ca : Nat → ClassId) (ad av : Nat → Nat) (sz : Nat) (a0 : Nat) (g0 : Nat → Value) (hp0 : gF g0 [(7, .int 2)]) : Met l ({ cls := "StaveHouse$SoundFile", name := "refuse", desc := "(II)V" } : Jvm.MethodName) (Cond.code ({ cls := "StaveHouse$SoundFile", name := "refuse", desc := "(II)V" } : Jvm.MethodName) prog_10_method_4_code 3 (Option.none : Option Jvm.ClassFile.FieldType) :: wAll) ({ frames := 0, cells := 0, slots := 0, locals := 0 } : Room) (va_Pc [.ref a0, .int 2, .int 0] (gPre D ca ad av [(a0, .inr (8, rg 15 g0))] sz)) (Q_SoundFile_refuse_2 D ca a0 g0 (va_A [(a0, .inr (8, rg 15 g0))] sz)) 0 0 (va_A [(a0, .inr (8, rg 15 g0))] sz) := by
  refine gMet (Qc := Q_SoundFile_refuse_2 D ca a0 g0) (lv := [(0, .ref a0), (1, .int 2), (2, .int 0)]) (by decide) (Nat.le_of_ble_eq_true rfl) rfl (fun A p e s m below meth c ls hx hb hr hml hown hts hlk hnm hl hP hK hD hS hA hX => ?_)
  have hown : s.vm.findClass "StaveHouse$SoundFile" = some m.cls := hown
  have hnm : meth.name = "refuse" := hnm
  refine lv_aload_n hx hb d_10_4_0 rfl (lv_at hl 0 rfl) ?_
  refine gget hx hb hts inW_8 hown hK hP 0 rfl rfl hp0 0 rfl (by decide) k_7_231 d_10_4_1 ?_
  refine lv_if_ne (tgt := 17) hx hb d_10_4_4 (by decide) (fun _ => ?_) (fun c => absurd c (by decide))
  have hP9 := hP.sub (ws' := [(a0, .inr (8, rg 15 g0))]) [0] rfl
  have hD9 := hD.sub (ws' := [(a0, .inr (8, rg 15 g0))]) [0] (by decide) rfl
  refine W.widen (k := 0) (n := 0) (Nat.le_of_ble_eq_true rfl) (Nat.le_of_ble_eq_true rfl) ?_
  exact W.vret hx hb hr (fun t ht hW => ⟨⟨(), rfl, trivial, by rw [ht]; exact hP9, va_K.moved hW.alike hK, hD9⟩, hS.F ht⟩) hS.2.2 d_10_4_17
abbrev Q_SoundFile_take_1 (D : va_G) (ca : Nat → ClassId) (a0 : Nat) (g0 : Nat → Value) (A : Nat → Prop) : Array Value → State → Outcome → State → Prop := va_Qi (S := Unit) (fun (r : Int32) (u : Unit) => r = 0) (fun u => gB D ca A [(a0, .inr (8, rg 15 g0))]) A
set_option maxHeartbeats 8000000 in
set_option maxRecDepth 100000 in
theorem c_SoundFile_take_1 (l : Launch) (D : va_G) (ca : Nat → ClassId) (ad av : Nat → Nat) (sz : Nat) (a0 : Nat) (g0 : Nat → Value) (hp0 : gF g0 [(7, .int 2), (6, .int 0), (5, .int 0)]) : Met l ({ cls := "StaveHouse$SoundFile", name := "take", desc := "()I" } : Jvm.MethodName) (Cond.code ({ cls := "StaveHouse$SoundFile", name := "take", desc := "()I" } : Jvm.MethodName) prog_10_method_5_code 1 (Option.some Jvm.ClassFile.FieldType.int) :: wAll) ({ frames := 1, cells := 0, slots := 0, locals := 22 } : Room) (va_Pc [.ref a0] (gPre D ca ad av [(a0, .inr (8, rg 15 g0))] sz)) (Q_SoundFile_take_1 D ca a0 g0 (va_A [(a0, .inr (8, rg 15 g0))] sz)) 0 0 (va_A [(a0, .inr (8, rg 15 g0))] sz) := by
  refine gMet (Qc := Q_SoundFile_take_1 D ca a0 g0) (lv := [(0, .ref a0)]) (by decide) (Nat.le_of_ble_eq_true rfl) rfl (fun A p e s m below meth c ls hx hb hr hml hown hts hlk hnm hl hP hK hD hS hA hX => ?_)
  have hown : s.vm.findClass "StaveHouse$SoundFile" = some m.cls := hown
  have hnm : meth.name = "take" := hnm
  refine lv_aload_n hx hb d_10_5_0 rfl (lv_at hl 0 rfl) ?_
  refine gget hx hb hts inW_8 hown hK hP 0 rfl rfl hp0 2 rfl (by decide) k_7_229 d_10_5_1 ?_
  refine lv_aload_n hx hb d_10_5_4 rfl (lv_at hl 0 rfl) ?_
  refine gget hx hb hts inW_8 hown hK hP 0 rfl rfl hp0 1 rfl (by decide) k_7_230 d_10_5_5 ?_
  refine lv_icmp_ge (tgt := 18) hx hb d_10_5_8 (by decide) (fun _ => ?_) (fun c => absurd (by decide) c)
  refine lv_aload_n hx hb d_10_5_18 rfl (lv_at hl 0 rfl) ?_
  refine lv_iconst (v := 2) hx hb d_10_5_19 (by decide) ?_
  refine lv_aload_n hx hb d_10_5_20 rfl (lv_at hl 0 rfl) ?_
  refine gget hx hb hts inW_8 hown hK hP 0 rfl rfl hp0 1 rfl (by decide) k_7_230 d_10_5_21 ?_
  have hFc1 := va_free (wc := [(a0, .inr (8, rg 15 g0))]) hD hS hA [0] rfl
  refine va_callv (va_runV (As := [.int 2, .int 0]) (rest := []) ⟨hx, hb, hml, hown, hts⟩ (c_SoundFile_refuse_2 l D ca ad av s.heap.size a0 g0 (hp0.sub [0] rfl)) (cwV 2 hts (gdV k_8_53 k_8_55 ks_96 k_1_23 k_8_56) rfl rfl rfl (by decide +kernel) ⟨Nat.le_of_ble_eq_true rfl, Nat.le_of_ble_eq_true rfl⟩) (gPV hP hD hK hS hA hX [0] (by decide) rfl a0 [.int 2, .int 0] 0 (ci := 8) (r := (RX8, TX8, 15)) rfl rfl) rfl rfl hl.1 rfl (lv_room (Nat.le_of_ble_eq_true rfl)) d_10_5_24 ⟨Nat.le_of_ble_eq_true rfl, Nat.le_of_ble_eq_true rfl⟩) hS (fun q _ h => hFc1 q h) hFc1 (fun u1 t1 H1 locs1 ht1 hvm1 hw1 hB1 hz1 hk1 hS1 => ?_)
  obtain ⟨hP1, hD1⟩ := gJoin (wr := []) (w1 := [(a0, .inr (8, rg 15 g0))]) hP hD [0] [] rfl rfl (by decide) (by decide) hk1 hFc1 ht1 hB1
  have hP1 : va_P D cls [(a0, .inr (8, rg 15 g0))] H1 := hP1
  have hD1 : va_D A [(a0, .inr (8, rg 15 g0))] := hD1
  refine W.widen (k := 0) (n := 0) (Nat.le_of_ble_eq_true rfl) (Nat.le_of_ble_eq_true rfl) ?_
  refine lv_iconst (v := 0) hx hb d_10_5_27 (by decide) ?_
  have hP9 := hP1.sub (ws' := [(a0, .inr (8, rg 15 g0))]) [0] rfl
  have hD9 := hD1.sub (ws' := [(a0, .inr (8, rg 15 g0))]) [0] (by decide) rfl
  refine W.widen (k := 0) (n := 0) (Nat.le_of_ble_eq_true rfl) (Nat.le_of_ble_eq_true rfl) ?_
  exact W.iret (v := 0) hx hb hr (fun t ht hW => ⟨⟨0, (), rfl, rfl, by rw [ht]; exact hP9, va_K.moved hW.alike hK, hD9⟩, hS1.F ht⟩) hS1.2.2 d_10_5_28
abbrev Q_SoundFile_takeOnly_1 (D : va_G) (ca : Nat → ClassId) (a0 : Nat) (g0 : Nat → Value) (A : Nat → Prop) : Array Value → State → Outcome → State → Prop := va_Qv (S := Unit) (fun (u : Unit) => True) (fun u => gB D ca A [(a0, .inr (8, rg 15 g0))]) A
set_option maxHeartbeats 8000000 in
set_option maxRecDepth 100000 in
theorem c_SoundFile_takeOnly_1 (l : Launch) (D : va_G) (ca : Nat → ClassId) (ad av : Nat → Nat) (sz : Nat) (a0 : Nat) (g0 : Nat → Value) (hp0 : gF g0 [(7, .int 2), (6, .int 0), (5, .int 0)]) : Met l ({ cls := "StaveHouse$SoundFile", name := "takeOnly", desc := "(II)V" } : Jvm.MethodName) (Cond.code ({ cls := "StaveHouse$SoundFile", name := "takeOnly", desc := "(II)V" } : Jvm.MethodName) prog_10_method_6_code 4 (Option.none : Option Jvm.ClassFile.FieldType) :: wAll) ({ frames := 2, cells := 0, slots := 0, locals := 42 } : Room) (va_Pc [.ref a0, .int 84, .int 84] (gPre D ca ad av [(a0, .inr (8, rg 15 g0))] sz)) (Q_SoundFile_takeOnly_1 D ca a0 g0 (va_A [(a0, .inr (8, rg 15 g0))] sz)) 0 0 (va_A [(a0, .inr (8, rg 15 g0))] sz) := by
  refine gMet (Qc := Q_SoundFile_takeOnly_1 D ca a0 g0) (lv := [(0, .ref a0), (1, .int 84), (2, .int 84)]) (by decide) (Nat.le_of_ble_eq_true rfl) rfl (fun A p e s m below meth c ls hx hb hr hml hown hts hlk hnm hl hP hK hD hS hA hX => ?_)
  have hown : s.vm.findClass "StaveHouse$SoundFile" = some m.cls := hown
  have hnm : meth.name = "takeOnly" := hnm
  refine lv_aload_n hx hb d_10_6_0 rfl (lv_at hl 0 rfl) ?_
  have hFc1 := va_free (wc := [(a0, .inr (8, rg 15 g0))]) hD hS hA [0] rfl
  refine va_calli (va_runV (As := []) (rest := []) ⟨hx, hb, hml, hown, hts⟩ (c_SoundFile_take_1 l D ca ad av s.heap.size a0 g0 (hp0.sub [0, 1, 2] rfl)) (cwV 0 hts (gdV k_8_49 k_8_51 ks_95 k_1_23 k_8_52) rfl rfl rfl (by decide +kernel) ⟨Nat.le_of_ble_eq_true rfl, Nat.le_of_ble_eq_true rfl⟩) (gPV hP hD hK hS hA hX [0] (by decide) rfl a0 [] 0 (ci := 8) (r := (RX8, TX8, 15)) rfl rfl) rfl rfl hl.1 rfl (lv_room (Nat.le_of_ble_eq_true rfl)) d_10_6_1 ⟨Nat.le_of_ble_eq_true rfl, Nat.le_of_ble_eq_true rfl⟩) hS (fun q _ h => hFc1 q h) hFc1 (fun r1 u1 t1 H1 locs1 ht1 hvm1 hw1 hB1 hz1 hk1 hS1 => ?_)
  have hr1 := hw1
  obtain ⟨hP1, hD1⟩ := gJoin (wr := []) (w1 := [(a0, .inr (8, rg 15 g0))]) hP hD [0] [] rfl rfl (by decide) (by decide) hk1 hFc1 ht1 hB1
  have hP1 : va_P D cls [(a0, .inr (8, rg 15 g0))] H1 := hP1
  have hD1 : va_D A [(a0, .inr (8, rg 15 g0))] := hD1
  refine W.widen (k := 0) (n := 0) (Nat.le_of_ble_eq_true rfl) (Nat.le_of_ble_eq_true rfl) ?_
  subst hr1
  refine lv_istore_n (lv' := [(3, .int 0), (0, .ref a0), (1, .int 84), (2, .int 84)]) hx hb d_10_6_4 rfl hl (by decide) rfl (fun ls hl => ?_)
  refine lv_iload_n hx hb d_10_6_5 rfl (lv_at hl 0 rfl) ?_
  refine lv_iload_n hx hb d_10_6_6 rfl (lv_at hl 2 rfl) ?_
  refine lv_icmp_lt (tgt := 15) hx hb d_10_6_7 (by decide) (fun _ => ?_) (fun c => absurd (by decide) c)
  refine lv_aload_n hx hb d_10_6_15 rfl (lv_at hl 1 rfl) ?_
  refine lv_iconst (v := 1) hx hb d_10_6_16 (by decide) ?_
  refine lv_aload_n hx hb d_10_6_17 rfl (lv_at hl 1 rfl) ?_
  refine gget hx hb hts inW_8 hown hK hP1 0 rfl rfl hp0 2 rfl (by decide) k_7_229 d_10_6_18 ?_
  refine lv_iconst (v := 1) hx hb d_10_6_21 (by decide) ?_
  refine lv_isub hx hb d_10_6_22 ?_
  refine lv_topi (fun y2 ey2 => ?_)
  obtain rfl : y2 = -1 := ey2.trans (by decide)
  have hFc3 := va_free (wc := [(a0, .inr (8, rg 15 g0))]) hD1 hS1 hA [0] rfl
  refine va_callv (va_runV (As := [.int 1, .int (-1)]) (rest := []) ⟨hx, hb, hml, hown, hts⟩ (c_SoundFile_refuse_1 l D ca ad av H1.size a0 g0 (hp0.sub [0] rfl)) (cwV 2 hts (gdV k_8_53 k_8_55 ks_96 k_1_23 k_8_56) rfl rfl rfl (by decide +kernel) ⟨Nat.le_of_ble_eq_true rfl, Nat.le_of_ble_eq_true rfl⟩) (gPV hP1 hD1 hK hS1 hA hX [0] (by decide) rfl a0 [.int 1, .int (-1)] 0 (ci := 8) (r := (RX8, TX8, 15)) rfl rfl) rfl rfl hl.1 rfl (lv_room (Nat.le_of_ble_eq_true rfl)) d_10_6_23 ⟨Nat.le_of_ble_eq_true rfl, Nat.le_of_ble_eq_true rfl⟩) hS1 (fun q _ h => hFc3 q h) hFc3 (fun u3 t3 H3 locs3 ht3 hvm3 hw3 hB3 hz3 hk3 hS3 => ?_)
  obtain ⟨hP3, hD3⟩ := gJoin (wr := []) (w1 := [(a0, .inr (8, rg 15 g0))]) hP1 hD1 [0] [] rfl rfl (by decide) (by decide) hk3 hFc3 ht3 hB3
  have hP3 : va_P D cls [(a0, .inr (8, rg 15 g0))] H3 := hP3
  have hD3 : va_D A [(a0, .inr (8, rg 15 g0))] := hD3
  refine W.widen (k := 0) (n := 0) (Nat.le_of_ble_eq_true rfl) (Nat.le_of_ble_eq_true rfl) ?_
  have hP9 := hP3.sub (ws' := [(a0, .inr (8, rg 15 g0))]) [0] rfl
  have hD9 := hD3.sub (ws' := [(a0, .inr (8, rg 15 g0))]) [0] (by decide) rfl
  refine W.widen (k := 0) (n := 0) (Nat.le_of_ble_eq_true rfl) (Nat.le_of_ble_eq_true rfl) ?_
  exact W.vret hx hb hr (fun t ht hW => ⟨⟨(), rfl, trivial, by rw [ht]; exact hP9, va_K.moved hW.alike hK, hD9⟩, hS3.F ht⟩) hS3.2.2 d_10_6_26
abbrev Q_StringLatin1_charAt_37 (D : va_G) (ca : Nat → ClassId)  (A : Nat → Prop) : Array Value → State → Outcome → State → Prop := va_Qi (S := Unit) (fun (r : Int32) (u : Unit) => r = 104) (fun u => gB D ca A []) A
set_option maxHeartbeats 8000000 in
set_option maxRecDepth 100000 in
theorem c_StringLatin1_charAt_37 (l : Launch) (D : va_G) (ca : Nat → ClassId) (ad av : Nat → Nat) (sz : Nat)   : Met l ({ cls := "java/lang/StringLatin1", name := "charAt", desc := "([BI)C" } : Jvm.MethodName) (Cond.code ({ cls := "java/lang/StringLatin1", name := "charAt", desc := "([BI)C" } : Jvm.MethodName) prog_22_method_2_code 2 (Option.some Jvm.ClassFile.FieldType.char) :: wAll) ({ frames := 2, cells := 0, slots := 0, locals := 43 } : Room) (va_Pc [.ref (av 0), .int 2] (gPre D ca ad av [] sz)) (Q_StringLatin1_charAt_37 D ca  (va_A [] sz)) 0 0 (va_A [] sz) := by
  refine gMet (Qc := Q_StringLatin1_charAt_37 D ca ) (lv := [(0, .ref (av 0)), (1, .int 2)]) (by decide) (Nat.le_of_ble_eq_true rfl) rfl (fun A p e s m below meth c ls hx hb hr hml hown hts hlk hnm hl hP hK hD hS hA hX => ?_)
  have hown : s.vm.findClass "java/lang/StringLatin1" = some m.cls := hown
  have hnm : meth.name = "charAt" := hnm
  refine lv_iload_n hx hb d_22_2_0 rfl (lv_at hl 1 rfl) ?_
  refine lv_aload_n hx hb d_22_2_1 rfl (lv_at hl 0 rfl) ?_
  refine va_tlen (v := 4) hx hb ((hX.2.2.2.2.1 0 _ rfl).2.1 0 (by decide)).2.2.2 hS (by decide) d_22_2_2 ?_
  have hFc1 := va_free (wc := []) hD hS hA [] rfl
  refine va_callv (va_runS (As := [.int 2, .int 4]) (rest := []) ⟨hx, hb, hml, hown, hts⟩ (c_String_checkIndex_8 l D ca ad av s.heap.size  ) (va_cwS 2 hts (gdS k_7_140 k_7_141 k_1_11 k_7_142) rfl rfl rfl (by decide +kernel) ⟨Nat.le_of_ble_eq_true rfl, Nat.le_of_ble_eq_true rfl⟩) (gPS hP hD hK hS hA hX [] (by decide) rfl [.int 2, .int 4]) rfl rfl hl.1 rfl (lv_room (Nat.le_of_ble_eq_true rfl)) d_22_2_3 ⟨Nat.le_of_ble_eq_true rfl, Nat.le_of_ble_eq_true rfl⟩) hS (fun q _ h => hFc1 q h) hFc1 (fun u1 t1 H1 locs1 ht1 hvm1 hw1 hB1 hz1 hk1 hS1 => ?_)
  obtain ⟨hP1, hD1⟩ := gJoin (wr := []) (w1 := []) hP hD [] [] rfl rfl (by decide) (by decide) hk1 hFc1 ht1 hB1
  have hP1 : va_P D cls [] H1 := hP1
  have hD1 : va_D A [] := hD1
  refine W.widen (k := 0) (n := 0) (Nat.le_of_ble_eq_true rfl) (Nat.le_of_ble_eq_true rfl) ?_
  refine lv_aload_n hx hb d_22_2_6 rfl (lv_at hl 0 rfl) ?_
  refine lv_iload_n hx hb d_22_2_7 rfl (lv_at hl 1 rfl) ?_
  refine va_tb (v := .int 104) hx hb ((hX.2.2.2.2.1 0 _ rfl).2.1 0 (by decide)).2.2.2 hS1 (vinC (by decide)) rfl d_22_2_8 ?_
  refine lv_sipush (v := 255) hx hb d_22_2_9 (by decide) ?_
  refine lv_iand hx hb d_22_2_12 ?_
  refine lv_topi (fun y2 ey2 => ?_)
  obtain rfl : y2 = 104 := ey2.trans (by decide)
  refine lv_i2c hx hb d_22_2_13 rfl ?_
  refine lv_topi (fun y3 ey3 => ?_)
  obtain rfl : y3 = 104 := ey3.trans (by decide)
  have hP9 := hP1.sub (ws' := []) [] rfl
  have hD9 := hD1.sub (ws' := []) [] (by decide) rfl
  refine W.widen (k := 0) (n := 0) (Nat.le_of_ble_eq_true rfl) (Nat.le_of_ble_eq_true rfl) ?_
  exact W.zret (v := 104) hx hb hr rfl (fun t ht hW => ⟨⟨104, (), rfl, rfl, by rw [ht]; exact hP9, va_K.moved hW.alike hK, hD9⟩, hS1.F ht⟩) hS1.2.2 d_22_2_14
abbrev Q_String_charAt_37 (D : va_G) (ca : Nat → ClassId)  (A : Nat → Prop) : Array Value → State → Outcome → State → Prop := va_Qi (S := Unit) (fun (r : Int32) (u : Unit) => r = 104) (fun u => gB D ca A []) A
set_option maxHeartbeats 8000000 in
set_option maxRecDepth 100000 in
theorem c_String_charAt_37 (l : Launch) (D : va_G) (ca : Nat → ClassId) (ad av : Nat → Nat) (sz : Nat)   : Met l ({ cls := "java/lang/String", name := "charAt", desc := "(I)C" } : Jvm.MethodName) (Cond.code ({ cls := "java/lang/String", name := "charAt", desc := "(I)C" } : Jvm.MethodName) prog_21_method_56_code 2 (Option.some Jvm.ClassFile.FieldType.char) :: wAll) ({ frames := 3, cells := 0, slots := 0, locals := 64 } : Room) (va_Pc [.ref (ad 0), .int 2] (gPre D ca ad av [] sz)) (Q_String_charAt_37 D ca  (va_A [] sz)) 0 0 (va_A [] sz) := by
  refine gMet (Qc := Q_String_charAt_37 D ca ) (lv := [(0, .ref (ad 0)), (1, .int 2)]) (by decide) (Nat.le_of_ble_eq_true rfl) rfl (fun A p e s m below meth c ls hx hb hr hml hown hts hlk hnm hl hP hK hD hS hA hX => ?_)
  have hown : s.vm.findClass "java/lang/String" = some m.cls := hown
  have hnm : meth.name = "charAt" := hnm
  refine lv_aload_n hx hb d_21_56_0 rfl (lv_at hl 0 rfl) ?_
  have hFc1 := va_free (wc := []) hD hS hA [] rfl
  refine va_calli (va_runV (As := []) (rest := []) ⟨hx, hb, hml, hown, hts⟩ (c_String_isLatin1_12 l D ca ad av s.heap.size  ) (cwV 0 hts (gdV k_3_75 k_3_76 k_3_77 k_1_11 k_3_78) rfl rfl rfl (by decide +kernel) ⟨Nat.le_of_ble_eq_true rfl, Nat.le_of_ble_eq_true rfl⟩) ⟨gBlind, vk_recv (i := 0) (hX.2.2.2.2.1 0 _ rfl).2 (by decide) hS, gAt hP hD hK hS hA hX [] (by decide) rfl [.ref (ad 0)]⟩ rfl rfl hl.1 rfl (lv_room (Nat.le_of_ble_eq_true rfl)) d_21_56_1 ⟨Nat.le_of_ble_eq_true rfl, Nat.le_of_ble_eq_true rfl⟩) hS (fun q _ h => hFc1 q h) hFc1 (fun r1 u1 t1 H1 locs1 ht1 hvm1 hw1 hB1 hz1 hk1 hS1 => ?_)
  have hr1 := hw1
  obtain ⟨hP1, hD1⟩ := gJoin (wr := []) (w1 := []) hP hD [] [] rfl rfl (by decide) (by decide) hk1 hFc1 ht1 hB1
  have hP1 : va_P D cls [] H1 := hP1
  have hD1 : va_D A [] := hD1
  refine W.widen (k := 0) (n := 0) (Nat.le_of_ble_eq_true rfl) (Nat.le_of_ble_eq_true rfl) ?_
  subst hr1
  refine lv_if_eq (tgt := 16) hx hb d_21_56_4 (by decide) (fun c => absurd c (by decide)) (fun _ => ?_)
  refine lv_aload_n hx hb d_21_56_7 rfl (lv_at hl 0 rfl) ?_
  refine vk_getf hx hb ((hX.2.2.2.2.1 0 _ rfl).2.1 0 (by decide)).2.2.1 hS1 hown (hts _ k_15_170) (fun _ h => h) d_21_56_8 ?_
  refine W.eq (g2 := F0 m 11 ls [.ref (av 0)]) rfl ?_
  refine lv_iload_n hx hb d_21_56_11 rfl (lv_at hl 1 rfl) ?_
  have hFc2 := va_free (wc := []) hD1 hS1 hA [] rfl
  refine va_calli (va_runS (As := [.ref (av 0), .int 2]) (rest := []) ⟨hx, hb, hml, hown, hts⟩ (c_StringLatin1_charAt_37 l D ca ad av H1.size  ) (va_cwS 2 hts (gdS k_7_137 k_7_138 k_1_12 k_7_139) rfl rfl rfl (by decide +kernel) ⟨Nat.le_of_ble_eq_true rfl, Nat.le_of_ble_eq_true rfl⟩) (gPS hP1 hD1 hK hS1 hA hX [] (by decide) rfl [.ref (av 0), .int 2]) rfl rfl hl.1 rfl (lv_room (Nat.le_of_ble_eq_true rfl)) d_21_56_12 ⟨Nat.le_of_ble_eq_true rfl, Nat.le_of_ble_eq_true rfl⟩) hS1 (fun q _ h => hFc2 q h) hFc2 (fun r2 u2 t2 H2 locs2 ht2 hvm2 hw2 hB2 hz2 hk2 hS2 => ?_)
  have hr2 := hw2
  obtain ⟨hP2, hD2⟩ := gJoin (wr := []) (w1 := []) hP1 hD1 [] [] rfl rfl (by decide) (by decide) hk2 hFc2 ht2 hB2
  have hP2 : va_P D cls [] H2 := hP2
  have hD2 : va_D A [] := hD2
  refine W.widen (k := 0) (n := 0) (Nat.le_of_ble_eq_true rfl) (Nat.le_of_ble_eq_true rfl) ?_
  subst hr2
  have hP9 := hP2.sub (ws' := []) [] rfl
  have hD9 := hD2.sub (ws' := []) [] (by decide) rfl
  refine W.widen (k := 0) (n := 0) (Nat.le_of_ble_eq_true rfl) (Nat.le_of_ble_eq_true rfl) ?_
  exact W.zret (v := 104) hx hb hr rfl (fun t ht hW => ⟨⟨104, (), rfl, rfl, by rw [ht]; exact hP9, va_K.moved hW.alike hK, hD9⟩, hS2.F ht⟩) hS2.2.2 d_21_56_15
abbrev Q_SoundFile_takeOnly_2 (D : va_G) (ca : Nat → ClassId) (a0 : Nat) (g0 : Nat → Value) (A : Nat → Prop) : Array Value → State → Outcome → State → Prop := va_Qv (S := Unit) (fun (u : Unit) => True) (fun u => gB D ca A [(a0, .inr (8, rg 15 g0))]) A
set_option maxHeartbeats 8000000 in
set_option maxRecDepth 100000 in
theorem c_SoundFile_takeOnly_2 (l : Launch) (D : va_G) (ca : Nat → ClassId) (ad av : Nat → Nat) (sz : Nat) (a0 : Nat) (g0 : Nat → Value) (hp0 : gF g0 [(7, .int 2), (6, .int 0), (5, .int 0)]) : Met l ({ cls := "StaveHouse$SoundFile", name := "takeOnly", desc := "(II)V" } : Jvm.MethodName) (Cond.code ({ cls := "StaveHouse$SoundFile", name := "takeOnly", desc := "(II)V" } : Jvm.MethodName) prog_10_method_6_code 4 (Option.none : Option Jvm.ClassFile.FieldType) :: wAll) ({ frames := 2, cells := 0, slots := 0, locals := 42 } : Room) (va_Pc [.ref a0, .int 104, .int 104] (gPre D ca ad av [(a0, .inr (8, rg 15 g0))] sz)) (Q_SoundFile_takeOnly_2 D ca a0 g0 (va_A [(a0, .inr (8, rg 15 g0))] sz)) 0 0 (va_A [(a0, .inr (8, rg 15 g0))] sz) := by
  refine gMet (Qc := Q_SoundFile_takeOnly_2 D ca a0 g0) (lv := [(0, .ref a0), (1, .int 104), (2, .int 104)]) (by decide) (Nat.le_of_ble_eq_true rfl) rfl (fun A p e s m below meth c ls hx hb hr hml hown hts hlk hnm hl hP hK hD hS hA hX => ?_)
  have hown : s.vm.findClass "StaveHouse$SoundFile" = some m.cls := hown
  have hnm : meth.name = "takeOnly" := hnm
  refine lv_aload_n hx hb d_10_6_0 rfl (lv_at hl 0 rfl) ?_
  have hFc1 := va_free (wc := [(a0, .inr (8, rg 15 g0))]) hD hS hA [0] rfl
  refine va_calli (va_runV (As := []) (rest := []) ⟨hx, hb, hml, hown, hts⟩ (c_SoundFile_take_1 l D ca ad av s.heap.size a0 g0 (hp0.sub [0, 1, 2] rfl)) (cwV 0 hts (gdV k_8_49 k_8_51 ks_95 k_1_23 k_8_52) rfl rfl rfl (by decide +kernel) ⟨Nat.le_of_ble_eq_true rfl, Nat.le_of_ble_eq_true rfl⟩) (gPV hP hD hK hS hA hX [0] (by decide) rfl a0 [] 0 (ci := 8) (r := (RX8, TX8, 15)) rfl rfl) rfl rfl hl.1 rfl (lv_room (Nat.le_of_ble_eq_true rfl)) d_10_6_1 ⟨Nat.le_of_ble_eq_true rfl, Nat.le_of_ble_eq_true rfl⟩) hS (fun q _ h => hFc1 q h) hFc1 (fun r1 u1 t1 H1 locs1 ht1 hvm1 hw1 hB1 hz1 hk1 hS1 => ?_)
  have hr1 := hw1
  obtain ⟨hP1, hD1⟩ := gJoin (wr := []) (w1 := [(a0, .inr (8, rg 15 g0))]) hP hD [0] [] rfl rfl (by decide) (by decide) hk1 hFc1 ht1 hB1
  have hP1 : va_P D cls [(a0, .inr (8, rg 15 g0))] H1 := hP1
  have hD1 : va_D A [(a0, .inr (8, rg 15 g0))] := hD1
  refine W.widen (k := 0) (n := 0) (Nat.le_of_ble_eq_true rfl) (Nat.le_of_ble_eq_true rfl) ?_
  subst hr1
  refine lv_istore_n (lv' := [(3, .int 0), (0, .ref a0), (1, .int 104), (2, .int 104)]) hx hb d_10_6_4 rfl hl (by decide) rfl (fun ls hl => ?_)
  refine lv_iload_n hx hb d_10_6_5 rfl (lv_at hl 0 rfl) ?_
  refine lv_iload_n hx hb d_10_6_6 rfl (lv_at hl 2 rfl) ?_
  refine lv_icmp_lt (tgt := 15) hx hb d_10_6_7 (by decide) (fun _ => ?_) (fun c => absurd (by decide) c)
  refine lv_aload_n hx hb d_10_6_15 rfl (lv_at hl 1 rfl) ?_
  refine lv_iconst (v := 1) hx hb d_10_6_16 (by decide) ?_
  refine lv_aload_n hx hb d_10_6_17 rfl (lv_at hl 1 rfl) ?_
  refine gget hx hb hts inW_8 hown hK hP1 0 rfl rfl hp0 2 rfl (by decide) k_7_229 d_10_6_18 ?_
  refine lv_iconst (v := 1) hx hb d_10_6_21 (by decide) ?_
  refine lv_isub hx hb d_10_6_22 ?_
  refine lv_topi (fun y2 ey2 => ?_)
  obtain rfl : y2 = -1 := ey2.trans (by decide)
  have hFc3 := va_free (wc := [(a0, .inr (8, rg 15 g0))]) hD1 hS1 hA [0] rfl
  refine va_callv (va_runV (As := [.int 1, .int (-1)]) (rest := []) ⟨hx, hb, hml, hown, hts⟩ (c_SoundFile_refuse_1 l D ca ad av H1.size a0 g0 (hp0.sub [0] rfl)) (cwV 2 hts (gdV k_8_53 k_8_55 ks_96 k_1_23 k_8_56) rfl rfl rfl (by decide +kernel) ⟨Nat.le_of_ble_eq_true rfl, Nat.le_of_ble_eq_true rfl⟩) (gPV hP1 hD1 hK hS1 hA hX [0] (by decide) rfl a0 [.int 1, .int (-1)] 0 (ci := 8) (r := (RX8, TX8, 15)) rfl rfl) rfl rfl hl.1 rfl (lv_room (Nat.le_of_ble_eq_true rfl)) d_10_6_23 ⟨Nat.le_of_ble_eq_true rfl, Nat.le_of_ble_eq_true rfl⟩) hS1 (fun q _ h => hFc3 q h) hFc3 (fun u3 t3 H3 locs3 ht3 hvm3 hw3 hB3 hz3 hk3 hS3 => ?_)
  obtain ⟨hP3, hD3⟩ := gJoin (wr := []) (w1 := [(a0, .inr (8, rg 15 g0))]) hP1 hD1 [0] [] rfl rfl (by decide) (by decide) hk3 hFc3 ht3 hB3
  have hP3 : va_P D cls [(a0, .inr (8, rg 15 g0))] H3 := hP3
  have hD3 : va_D A [(a0, .inr (8, rg 15 g0))] := hD3
  refine W.widen (k := 0) (n := 0) (Nat.le_of_ble_eq_true rfl) (Nat.le_of_ble_eq_true rfl) ?_
  have hP9 := hP3.sub (ws' := [(a0, .inr (8, rg 15 g0))]) [0] rfl
  have hD9 := hD3.sub (ws' := [(a0, .inr (8, rg 15 g0))]) [0] (by decide) rfl
  refine W.widen (k := 0) (n := 0) (Nat.le_of_ble_eq_true rfl) (Nat.le_of_ble_eq_true rfl) ?_
  exact W.vret hx hb hr (fun t ht hW => ⟨⟨(), rfl, trivial, by rw [ht]; exact hP9, va_K.moved hW.alike hK, hD9⟩, hS3.F ht⟩) hS3.2.2 d_10_6_26
abbrev Q_StringLatin1_charAt_38 (D : va_G) (ca : Nat → ClassId)  (A : Nat → Prop) : Array Value → State → Outcome → State → Prop := va_Qi (S := Unit) (fun (r : Int32) (u : Unit) => r = 100) (fun u => gB D ca A []) A
set_option maxHeartbeats 8000000 in
set_option maxRecDepth 100000 in
theorem c_StringLatin1_charAt_38 (l : Launch) (D : va_G) (ca : Nat → ClassId) (ad av : Nat → Nat) (sz : Nat)   : Met l ({ cls := "java/lang/StringLatin1", name := "charAt", desc := "([BI)C" } : Jvm.MethodName) (Cond.code ({ cls := "java/lang/StringLatin1", name := "charAt", desc := "([BI)C" } : Jvm.MethodName) prog_22_method_2_code 2 (Option.some Jvm.ClassFile.FieldType.char) :: wAll) ({ frames := 2, cells := 0, slots := 0, locals := 43 } : Room) (va_Pc [.ref (av 0), .int 3] (gPre D ca ad av [] sz)) (Q_StringLatin1_charAt_38 D ca  (va_A [] sz)) 0 0 (va_A [] sz) := by
  refine gMet (Qc := Q_StringLatin1_charAt_38 D ca ) (lv := [(0, .ref (av 0)), (1, .int 3)]) (by decide) (Nat.le_of_ble_eq_true rfl) rfl (fun A p e s m below meth c ls hx hb hr hml hown hts hlk hnm hl hP hK hD hS hA hX => ?_)
  have hown : s.vm.findClass "java/lang/StringLatin1" = some m.cls := hown
  have hnm : meth.name = "charAt" := hnm
  refine lv_iload_n hx hb d_22_2_0 rfl (lv_at hl 1 rfl) ?_
  refine lv_aload_n hx hb d_22_2_1 rfl (lv_at hl 0 rfl) ?_
  refine va_tlen (v := 4) hx hb ((hX.2.2.2.2.1 0 _ rfl).2.1 0 (by decide)).2.2.2 hS (by decide) d_22_2_2 ?_
  have hFc1 := va_free (wc := []) hD hS hA [] rfl
  refine va_callv (va_runS (As := [.int 3, .int 4]) (rest := []) ⟨hx, hb, hml, hown, hts⟩ (c_String_checkIndex_9 l D ca ad av s.heap.size  ) (va_cwS 2 hts (gdS k_7_140 k_7_141 k_1_11 k_7_142) rfl rfl rfl (by decide +kernel) ⟨Nat.le_of_ble_eq_true rfl, Nat.le_of_ble_eq_true rfl⟩) (gPS hP hD hK hS hA hX [] (by decide) rfl [.int 3, .int 4]) rfl rfl hl.1 rfl (lv_room (Nat.le_of_ble_eq_true rfl)) d_22_2_3 ⟨Nat.le_of_ble_eq_true rfl, Nat.le_of_ble_eq_true rfl⟩) hS (fun q _ h => hFc1 q h) hFc1 (fun u1 t1 H1 locs1 ht1 hvm1 hw1 hB1 hz1 hk1 hS1 => ?_)
  obtain ⟨hP1, hD1⟩ := gJoin (wr := []) (w1 := []) hP hD [] [] rfl rfl (by decide) (by decide) hk1 hFc1 ht1 hB1
  have hP1 : va_P D cls [] H1 := hP1
  have hD1 : va_D A [] := hD1
  refine W.widen (k := 0) (n := 0) (Nat.le_of_ble_eq_true rfl) (Nat.le_of_ble_eq_true rfl) ?_
  refine lv_aload_n hx hb d_22_2_6 rfl (lv_at hl 0 rfl) ?_
  refine lv_iload_n hx hb d_22_2_7 rfl (lv_at hl 1 rfl) ?_
  refine va_tb (v := .int 100) hx hb ((hX.2.2.2.2.1 0 _ rfl).2.1 0 (by decide)).2.2.2 hS1 (vinC (by decide)) rfl d_22_2_8 ?_
  refine lv_sipush (v := 255) hx hb d_22_2_9 (by decide) ?_
  refine lv_iand hx hb d_22_2_12 ?_
  refine lv_topi (fun y2 ey2 => ?_)
  obtain rfl : y2 = 100 := ey2.trans (by decide)
  refine lv_i2c hx hb d_22_2_13 rfl ?_
  refine lv_topi (fun y3 ey3 => ?_)
  obtain rfl : y3 = 100 := ey3.trans (by decide)
  have hP9 := hP1.sub (ws' := []) [] rfl
  have hD9 := hD1.sub (ws' := []) [] (by decide) rfl
  refine W.widen (k := 0) (n := 0) (Nat.le_of_ble_eq_true rfl) (Nat.le_of_ble_eq_true rfl) ?_
  exact W.zret (v := 100) hx hb hr rfl (fun t ht hW => ⟨⟨100, (), rfl, rfl, by rw [ht]; exact hP9, va_K.moved hW.alike hK, hD9⟩, hS1.F ht⟩) hS1.2.2 d_22_2_14
abbrev Q_String_charAt_38 (D : va_G) (ca : Nat → ClassId)  (A : Nat → Prop) : Array Value → State → Outcome → State → Prop := va_Qi (S := Unit) (fun (r : Int32) (u : Unit) => r = 100) (fun u => gB D ca A []) A
set_option maxHeartbeats 8000000 in
set_option maxRecDepth 100000 in
theorem c_String_charAt_38 (l : Launch) (D : va_G) (ca : Nat → ClassId) (ad av : Nat → Nat) (sz : Nat)   : Met l ({ cls := "java/lang/String", name := "charAt", desc := "(I)C" } : Jvm.MethodName) (Cond.code ({ cls := "java/lang/String", name := "charAt", desc := "(I)C" } : Jvm.MethodName) prog_21_method_56_code 2 (Option.some Jvm.ClassFile.FieldType.char) :: wAll) ({ frames := 3, cells := 0, slots := 0, locals := 64 } : Room) (va_Pc [.ref (ad 0), .int 3] (gPre D ca ad av [] sz)) (Q_String_charAt_38 D ca  (va_A [] sz)) 0 0 (va_A [] sz) := by
  refine gMet (Qc := Q_String_charAt_38 D ca ) (lv := [(0, .ref (ad 0)), (1, .int 3)]) (by decide) (Nat.le_of_ble_eq_true rfl) rfl (fun A p e s m below meth c ls hx hb hr hml hown hts hlk hnm hl hP hK hD hS hA hX => ?_)
  have hown : s.vm.findClass "java/lang/String" = some m.cls := hown
  have hnm : meth.name = "charAt" := hnm
  refine lv_aload_n hx hb d_21_56_0 rfl (lv_at hl 0 rfl) ?_
  have hFc1 := va_free (wc := []) hD hS hA [] rfl
  refine va_calli (va_runV (As := []) (rest := []) ⟨hx, hb, hml, hown, hts⟩ (c_String_isLatin1_12 l D ca ad av s.heap.size  ) (cwV 0 hts (gdV k_3_75 k_3_76 k_3_77 k_1_11 k_3_78) rfl rfl rfl (by decide +kernel) ⟨Nat.le_of_ble_eq_true rfl, Nat.le_of_ble_eq_true rfl⟩) ⟨gBlind, vk_recv (i := 0) (hX.2.2.2.2.1 0 _ rfl).2 (by decide) hS, gAt hP hD hK hS hA hX [] (by decide) rfl [.ref (ad 0)]⟩ rfl rfl hl.1 rfl (lv_room (Nat.le_of_ble_eq_true rfl)) d_21_56_1 ⟨Nat.le_of_ble_eq_true rfl, Nat.le_of_ble_eq_true rfl⟩) hS (fun q _ h => hFc1 q h) hFc1 (fun r1 u1 t1 H1 locs1 ht1 hvm1 hw1 hB1 hz1 hk1 hS1 => ?_)
  have hr1 := hw1
  obtain ⟨hP1, hD1⟩ := gJoin (wr := []) (w1 := []) hP hD [] [] rfl rfl (by decide) (by decide) hk1 hFc1 ht1 hB1
  have hP1 : va_P D cls [] H1 := hP1
  have hD1 : va_D A [] := hD1
  refine W.widen (k := 0) (n := 0) (Nat.le_of_ble_eq_true rfl) (Nat.le_of_ble_eq_true rfl) ?_
  subst hr1
  refine lv_if_eq (tgt := 16) hx hb d_21_56_4 (by decide) (fun c => absurd c (by decide)) (fun _ => ?_)
  refine lv_aload_n hx hb d_21_56_7 rfl (lv_at hl 0 rfl) ?_
  refine vk_getf hx hb ((hX.2.2.2.2.1 0 _ rfl).2.1 0 (by decide)).2.2.1 hS1 hown (hts _ k_15_170) (fun _ h => h) d_21_56_8 ?_
  refine W.eq (g2 := F0 m 11 ls [.ref (av 0)]) rfl ?_
  refine lv_iload_n hx hb d_21_56_11 rfl (lv_at hl 1 rfl) ?_
  have hFc2 := va_free (wc := []) hD1 hS1 hA [] rfl
  refine va_calli (va_runS (As := [.ref (av 0), .int 3]) (rest := []) ⟨hx, hb, hml, hown, hts⟩ (c_StringLatin1_charAt_38 l D ca ad av H1.size  ) (va_cwS 2 hts (gdS k_7_137 k_7_138 k_1_12 k_7_139) rfl rfl rfl (by decide +kernel) ⟨Nat.le_of_ble_eq_true rfl, Nat.le_of_ble_eq_true rfl⟩) (gPS hP1 hD1 hK hS1 hA hX [] (by decide) rfl [.ref (av 0), .int 3]) rfl rfl hl.1 rfl (lv_room (Nat.le_of_ble_eq_true rfl)) d_21_56_12 ⟨Nat.le_of_ble_eq_true rfl, Nat.le_of_ble_eq_true rfl⟩) hS1 (fun q _ h => hFc2 q h) hFc2 (fun r2 u2 t2 H2 locs2 ht2 hvm2 hw2 hB2 hz2 hk2 hS2 => ?_)
  have hr2 := hw2
  obtain ⟨hP2, hD2⟩ := gJoin (wr := []) (w1 := []) hP1 hD1 [] [] rfl rfl (by decide) (by decide) hk2 hFc2 ht2 hB2
  have hP2 : va_P D cls [] H2 := hP2
  have hD2 : va_D A [] := hD2
  refine W.widen (k := 0) (n := 0) (Nat.le_of_ble_eq_true rfl) (Nat.le_of_ble_eq_true rfl) ?_
  subst hr2
  have hP9 := hP2.sub (ws' := []) [] rfl
  have hD9 := hD2.sub (ws' := []) [] (by decide) rfl
  refine W.widen (k := 0) (n := 0) (Nat.le_of_ble_eq_true rfl) (Nat.le_of_ble_eq_true rfl) ?_
  exact W.zret (v := 100) hx hb hr rfl (fun t ht hW => ⟨⟨100, (), rfl, rfl, by rw [ht]; exact hP9, va_K.moved hW.alike hK, hD9⟩, hS2.F ht⟩) hS2.2.2 d_21_56_15
abbrev Q_SoundFile_takeOnly_3 (D : va_G) (ca : Nat → ClassId) (a0 : Nat) (g0 : Nat → Value) (A : Nat → Prop) : Array Value → State → Outcome → State → Prop := va_Qv (S := Unit) (fun (u : Unit) => True) (fun u => gB D ca A [(a0, .inr (8, rg 15 g0))]) A
set_option maxHeartbeats 8000000 in
set_option maxRecDepth 100000 in
theorem c_SoundFile_takeOnly_3 (l : Launch) (D : va_G) (ca : Nat → ClassId) (ad av : Nat → Nat) (sz : Nat) (a0 : Nat) (g0 : Nat → Value) (hp0 : gF g0 [(7, .int 2), (6, .int 0), (5, .int 0)]) : Met l ({ cls := "StaveHouse$SoundFile", name := "takeOnly", desc := "(II)V" } : Jvm.MethodName) (Cond.code ({ cls := "StaveHouse$SoundFile", name := "takeOnly", desc := "(II)V" } : Jvm.MethodName) prog_10_method_6_code 4 (Option.none : Option Jvm.ClassFile.FieldType) :: wAll) ({ frames := 2, cells := 0, slots := 0, locals := 42 } : Room) (va_Pc [.ref a0, .int 100, .int 100] (gPre D ca ad av [(a0, .inr (8, rg 15 g0))] sz)) (Q_SoundFile_takeOnly_3 D ca a0 g0 (va_A [(a0, .inr (8, rg 15 g0))] sz)) 0 0 (va_A [(a0, .inr (8, rg 15 g0))] sz) := by
  refine gMet (Qc := Q_SoundFile_takeOnly_3 D ca a0 g0) (lv := [(0, .ref a0), (1, .int 100), (2, .int 100)]) (by decide) (Nat.le_of_ble_eq_true rfl) rfl (fun A p e s m below meth c ls hx hb hr hml hown hts hlk hnm hl hP hK hD hS hA hX => ?_)
  have hown : s.vm.findClass "StaveHouse$SoundFile" = some m.cls := hown
  have hnm : meth.name = "takeOnly" := hnm
  refine lv_aload_n hx hb d_10_6_0 rfl (lv_at hl 0 rfl) ?_
  have hFc1 := va_free (wc := [(a0, .inr (8, rg 15 g0))]) hD hS hA [0] rfl
  refine va_calli (va_runV (As := []) (rest := []) ⟨hx, hb, hml, hown, hts⟩ (c_SoundFile_take_1 l D ca ad av s.heap.size a0 g0 (hp0.sub [0, 1, 2] rfl)) (cwV 0 hts (gdV k_8_49 k_8_51 ks_95 k_1_23 k_8_52) rfl rfl rfl (by decide +kernel) ⟨Nat.le_of_ble_eq_true rfl, Nat.le_of_ble_eq_true rfl⟩) (gPV hP hD hK hS hA hX [0] (by decide) rfl a0 [] 0 (ci := 8) (r := (RX8, TX8, 15)) rfl rfl) rfl rfl hl.1 rfl (lv_room (Nat.le_of_ble_eq_true rfl)) d_10_6_1 ⟨Nat.le_of_ble_eq_true rfl, Nat.le_of_ble_eq_true rfl⟩) hS (fun q _ h => hFc1 q h) hFc1 (fun r1 u1 t1 H1 locs1 ht1 hvm1 hw1 hB1 hz1 hk1 hS1 => ?_)
  have hr1 := hw1
  obtain ⟨hP1, hD1⟩ := gJoin (wr := []) (w1 := [(a0, .inr (8, rg 15 g0))]) hP hD [0] [] rfl rfl (by decide) (by decide) hk1 hFc1 ht1 hB1
  have hP1 : va_P D cls [(a0, .inr (8, rg 15 g0))] H1 := hP1
  have hD1 : va_D A [(a0, .inr (8, rg 15 g0))] := hD1
  refine W.widen (k := 0) (n := 0) (Nat.le_of_ble_eq_true rfl) (Nat.le_of_ble_eq_true rfl) ?_
  subst hr1
  refine lv_istore_n (lv' := [(3, .int 0), (0, .ref a0), (1, .int 100), (2, .int 100)]) hx hb d_10_6_4 rfl hl (by decide) rfl (fun ls hl => ?_)
  refine lv_iload_n hx hb d_10_6_5 rfl (lv_at hl 0 rfl) ?_
  refine lv_iload_n hx hb d_10_6_6 rfl (lv_at hl 2 rfl) ?_
  refine lv_icmp_lt (tgt := 15) hx hb d_10_6_7 (by decide) (fun _ => ?_) (fun c => absurd (by decide) c)
  refine lv_aload_n hx hb d_10_6_15 rfl (lv_at hl 1 rfl) ?_
  refine lv_iconst (v := 1) hx hb d_10_6_16 (by decide) ?_
  refine lv_aload_n hx hb d_10_6_17 rfl (lv_at hl 1 rfl) ?_
  refine gget hx hb hts inW_8 hown hK hP1 0 rfl rfl hp0 2 rfl (by decide) k_7_229 d_10_6_18 ?_
  refine lv_iconst (v := 1) hx hb d_10_6_21 (by decide) ?_
  refine lv_isub hx hb d_10_6_22 ?_
  refine lv_topi (fun y2 ey2 => ?_)
  obtain rfl : y2 = -1 := ey2.trans (by decide)
  have hFc3 := va_free (wc := [(a0, .inr (8, rg 15 g0))]) hD1 hS1 hA [0] rfl
  refine va_callv (va_runV (As := [.int 1, .int (-1)]) (rest := []) ⟨hx, hb, hml, hown, hts⟩ (c_SoundFile_refuse_1 l D ca ad av H1.size a0 g0 (hp0.sub [0] rfl)) (cwV 2 hts (gdV k_8_53 k_8_55 ks_96 k_1_23 k_8_56) rfl rfl rfl (by decide +kernel) ⟨Nat.le_of_ble_eq_true rfl, Nat.le_of_ble_eq_true rfl⟩) (gPV hP1 hD1 hK hS1 hA hX [0] (by decide) rfl a0 [.int 1, .int (-1)] 0 (ci := 8) (r := (RX8, TX8, 15)) rfl rfl) rfl rfl hl.1 rfl (lv_room (Nat.le_of_ble_eq_true rfl)) d_10_6_23 ⟨Nat.le_of_ble_eq_true rfl, Nat.le_of_ble_eq_true rfl⟩) hS1 (fun q _ h => hFc3 q h) hFc3 (fun u3 t3 H3 locs3 ht3 hvm3 hw3 hB3 hz3 hk3 hS3 => ?_)
  obtain ⟨hP3, hD3⟩ := gJoin (wr := []) (w1 := [(a0, .inr (8, rg 15 g0))]) hP1 hD1 [0] [] rfl rfl (by decide) (by decide) hk3 hFc3 ht3 hB3
  have hP3 : va_P D cls [(a0, .inr (8, rg 15 g0))] H3 := hP3
  have hD3 : va_D A [(a0, .inr (8, rg 15 g0))] := hD3
  refine W.widen (k := 0) (n := 0) (Nat.le_of_ble_eq_true rfl) (Nat.le_of_ble_eq_true rfl) ?_
  have hP9 := hP3.sub (ws' := [(a0, .inr (8, rg 15 g0))]) [0] rfl
  have hD9 := hD3.sub (ws' := [(a0, .inr (8, rg 15 g0))]) [0] (by decide) rfl
  refine W.widen (k := 0) (n := 0) (Nat.le_of_ble_eq_true rfl) (Nat.le_of_ble_eq_true rfl) ?_
  exact W.vret hx hb hr (fun t ht hW => ⟨⟨(), rfl, trivial, by rw [ht]; exact hP9, va_K.moved hW.alike hK, hD9⟩, hS3.F ht⟩) hS3.2.2 d_10_6_26
abbrev Q_SoundFile_takeWide_0 (D : va_G) (ca : Nat → ClassId) (a0 : Nat) (g0 : Nat → Value) (A : Nat → Prop) : Array Value → State → Outcome → State → Prop := va_Ql (S := Unit) (fun (r : Int64) (u : Unit) => r = 0) (fun u => gB D ca A [(a0, .inr (8, rg 15 g0))]) A
set_option maxHeartbeats 8000000 in
set_option maxRecDepth 100000 in
theorem c_SoundFile_takeWide_0 (l : Launch) (D : va_G) (ca : Nat → ClassId) (ad av : Nat → Nat) (sz : Nat) (a0 : Nat) (g0 : Nat → Value) (hp0 : gF g0 [(7, .int 2), (6, .int 0), (5, .int 0)]) : Met l ({ cls := "StaveHouse$SoundFile", name := "takeWide", desc := "(I)J" } : Jvm.MethodName) (Cond.code ({ cls := "StaveHouse$SoundFile", name := "takeWide", desc := "(I)J" } : Jvm.MethodName) prog_10_method_7_code 5 (Option.some Jvm.ClassFile.FieldType.long) :: wAll) ({ frames := 2, cells := 0, slots := 0, locals := 42 } : Room) (va_Pc [.ref a0, .int 4] (gPre D ca ad av [(a0, .inr (8, rg 15 g0))] sz)) (Q_SoundFile_takeWide_0 D ca a0 g0 (va_A [(a0, .inr (8, rg 15 g0))] sz)) 0 0 (va_A [(a0, .inr (8, rg 15 g0))] sz) := by
  refine gMet (Qc := Q_SoundFile_takeWide_0 D ca a0 g0) (lv := [(0, .ref a0), (1, .int 4)]) (by decide) (Nat.le_of_ble_eq_true rfl) rfl (fun A p e s m below meth c ls hx hb hr hml hown hts hlk hnm hl hP hK hD hS hA hX => ?_)
  have hown : s.vm.findClass "StaveHouse$SoundFile" = some m.cls := hown
  have hnm : meth.name = "takeWide" := hnm
  refine lv_lconst (v := 0) hx hb d_10_7_0 (by decide) ?_
  refine lv_lstore_n (lv' := [(2, .long 0), (0, .ref a0), (1, .int 4)]) hx hb d_10_7_1 rfl hl (by decide) rfl (fun ls hl => ?_)
  refine lv_iconst (v := 0) hx hb d_10_7_2 (by decide) ?_
  refine lv_istore (lv' := [(4, .int 0), (2, .long 0), (0, .ref a0), (1, .int 4)]) hx hb d_10_7_3 hl (by decide) rfl (fun ls hl => ?_)
  refine lv_iload hx hb d_10_7_5 (lv_at hl 0 rfl) ?_
  refine lv_iload_n hx hb d_10_7_7 rfl (lv_at hl 3 rfl) ?_
  refine lv_icmp_ge (tgt := 29) hx hb d_10_7_8 (by decide) (fun c => absurd c (by decide)) (fun _ => ?_)
  refine lv_lload_n hx hb d_10_7_11 rfl (lv_at hl 1 rfl) ?_
  refine lv_ldc2 hx hb hown (hts _ k_8_62) d_10_7_12 ?_
  refine lv_lmul hx hb d_10_7_15 ?_
  refine lv_topl (fun y1 ey1 => ?_)
  obtain rfl : y1 = 0 := ey1.trans (by decide)
  refine lv_aload_n hx hb d_10_7_16 rfl (lv_at hl 2 rfl) ?_
  have hFc2 := va_free (wc := [(a0, .inr (8, rg 15 g0))]) hD hS hA [0] rfl
  refine va_calli (va_runV (As := []) (rest := [.long 0]) ⟨hx, hb, hml, hown, hts⟩ (c_SoundFile_take_1 l D ca ad av s.heap.size a0 g0 (hp0.sub [0, 1, 2] rfl)) (cwV 0 hts (gdV k_8_49 k_8_51 ks_95 k_1_23 k_8_52) rfl rfl rfl (by decide +kernel) ⟨Nat.le_of_ble_eq_true rfl, Nat.le_of_ble_eq_true rfl⟩) (gPV hP hD hK hS hA hX [0] (by decide) rfl a0 [] 0 (ci := 8) (r := (RX8, TX8, 15)) rfl rfl) rfl rfl hl.1 rfl (lv_room (Nat.le_of_ble_eq_true rfl)) d_10_7_17 ⟨Nat.le_of_ble_eq_true rfl, Nat.le_of_ble_eq_true rfl⟩) hS (fun q _ h => hFc2 q h) hFc2 (fun r2 u2 t2 H2 locs2 ht2 hvm2 hw2 hB2 hz2 hk2 hS2 => ?_)
  have hr2 := hw2
  obtain ⟨hP2, hD2⟩ := gJoin (wr := []) (w1 := [(a0, .inr (8, rg 15 g0))]) hP hD [0] [] rfl rfl (by decide) (by decide) hk2 hFc2 ht2 hB2
  have hP2 : va_P D cls [(a0, .inr (8, rg 15 g0))] H2 := hP2
  have hD2 : va_D A [(a0, .inr (8, rg 15 g0))] := hD2
  refine W.widen (k := 0) (n := 0) (Nat.le_of_ble_eq_true rfl) (Nat.le_of_ble_eq_true rfl) ?_
  subst hr2
  refine lv_i2l hx hb d_10_7_20 rfl ?_
  refine lv_topl (fun y3 ey3 => ?_)
  obtain rfl : y3 = 0 := ey3.trans (by decide)
  refine lv_ladd hx hb d_10_7_21 ?_
  refine lv_topl (fun y4 ey4 => ?_)
  obtain rfl : y4 = 0 := ey4.trans (by decide)
  refine lv_lstore_n (lv' := [(2, .long 0), (4, .int 0), (0, .ref a0), (1, .int 4)]) hx hb d_10_7_22 rfl hl (by decide) rfl (fun ls hl => ?_)
  refine lv_iinc (v := 1) (lv' := [(4, .int 1), (2, .long 0), (0, .ref a0), (1, .int 4)]) hx hb d_10_7_23 hl (k := 1) rfl (by decide) (by decide) rfl (fun ls hl => ?_)
  refine lv_goto (tgt := 5) hx hb d_10_7_26 (by decide) ?_
  refine lv_iload hx hb d_10_7_5 (lv_at hl 0 rfl) ?_
  refine lv_iload_n hx hb d_10_7_7 rfl (lv_at hl 3 rfl) ?_
  refine lv_icmp_ge (tgt := 29) hx hb d_10_7_8 (by decide) (fun c => absurd c (by decide)) (fun _ => ?_)
  refine lv_lload_n hx hb d_10_7_11 rfl (lv_at hl 1 rfl) ?_
  refine lv_ldc2 hx hb hown (hts _ k_8_62) d_10_7_12 ?_
  refine lv_lmul hx hb d_10_7_15 ?_
  refine lv_topl (fun y5 ey5 => ?_)
  obtain rfl : y5 = 0 := ey5.trans (by decide)
  refine lv_aload_n hx hb d_10_7_16 rfl (lv_at hl 2 rfl) ?_
  have hFc6 := va_free (wc := [(a0, .inr (8, rg 15 g0))]) hD2 hS2 hA [0] rfl
  refine va_calli (va_runV (As := []) (rest := [.long 0]) ⟨hx, hb, hml, hown, hts⟩ (c_SoundFile_take_1 l D ca ad av H2.size a0 g0 (hp0.sub [0, 1, 2] rfl)) (cwV 0 hts (gdV k_8_49 k_8_51 ks_95 k_1_23 k_8_52) rfl rfl rfl (by decide +kernel) ⟨Nat.le_of_ble_eq_true rfl, Nat.le_of_ble_eq_true rfl⟩) (gPV hP2 hD2 hK hS2 hA hX [0] (by decide) rfl a0 [] 0 (ci := 8) (r := (RX8, TX8, 15)) rfl rfl) rfl rfl hl.1 rfl (lv_room (Nat.le_of_ble_eq_true rfl)) d_10_7_17 ⟨Nat.le_of_ble_eq_true rfl, Nat.le_of_ble_eq_true rfl⟩) hS2 (fun q _ h => hFc6 q h) hFc6 (fun r6 u6 t6 H6 locs6 ht6 hvm6 hw6 hB6 hz6 hk6 hS6 => ?_)
  have hr6 := hw6
  obtain ⟨hP6, hD6⟩ := gJoin (wr := []) (w1 := [(a0, .inr (8, rg 15 g0))]) hP2 hD2 [0] [] rfl rfl (by decide) (by decide) hk6 hFc6 ht6 hB6
  have hP6 : va_P D cls [(a0, .inr (8, rg 15 g0))] H6 := hP6
  have hD6 : va_D A [(a0, .inr (8, rg 15 g0))] := hD6
  refine W.widen (k := 0) (n := 0) (Nat.le_of_ble_eq_true rfl) (Nat.le_of_ble_eq_true rfl) ?_
  subst hr6
  refine lv_i2l hx hb d_10_7_20 rfl ?_
  refine lv_topl (fun y7 ey7 => ?_)
  obtain rfl : y7 = 0 := ey7.trans (by decide)
  refine lv_ladd hx hb d_10_7_21 ?_
  refine lv_topl (fun y8 ey8 => ?_)
  obtain rfl : y8 = 0 := ey8.trans (by decide)
  refine lv_lstore_n (lv' := [(2, .long 0), (4, .int 1), (0, .ref a0), (1, .int 4)]) hx hb d_10_7_22 rfl hl (by decide) rfl (fun ls hl => ?_)
  refine lv_iinc (v := 2) (lv' := [(4, .int 2), (2, .long 0), (0, .ref a0), (1, .int 4)]) hx hb d_10_7_23 hl (k := 1) rfl (by decide) (by decide) rfl (fun ls hl => ?_)
  refine lv_goto (tgt := 5) hx hb d_10_7_26 (by decide) ?_
  refine lv_iload hx hb d_10_7_5 (lv_at hl 0 rfl) ?_
  refine lv_iload_n hx hb d_10_7_7 rfl (lv_at hl 3 rfl) ?_
  refine lv_icmp_ge (tgt := 29) hx hb d_10_7_8 (by decide) (fun c => absurd c (by decide)) (fun _ => ?_)
  refine lv_lload_n hx hb d_10_7_11 rfl (lv_at hl 1 rfl) ?_
  refine lv_ldc2 hx hb hown (hts _ k_8_62) d_10_7_12 ?_
  refine lv_lmul hx hb d_10_7_15 ?_
  refine lv_topl (fun y9 ey9 => ?_)
  obtain rfl : y9 = 0 := ey9.trans (by decide)
  refine lv_aload_n hx hb d_10_7_16 rfl (lv_at hl 2 rfl) ?_
  have hFc10 := va_free (wc := [(a0, .inr (8, rg 15 g0))]) hD6 hS6 hA [0] rfl
  refine va_calli (va_runV (As := []) (rest := [.long 0]) ⟨hx, hb, hml, hown, hts⟩ (c_SoundFile_take_1 l D ca ad av H6.size a0 g0 (hp0.sub [0, 1, 2] rfl)) (cwV 0 hts (gdV k_8_49 k_8_51 ks_95 k_1_23 k_8_52) rfl rfl rfl (by decide +kernel) ⟨Nat.le_of_ble_eq_true rfl, Nat.le_of_ble_eq_true rfl⟩) (gPV hP6 hD6 hK hS6 hA hX [0] (by decide) rfl a0 [] 0 (ci := 8) (r := (RX8, TX8, 15)) rfl rfl) rfl rfl hl.1 rfl (lv_room (Nat.le_of_ble_eq_true rfl)) d_10_7_17 ⟨Nat.le_of_ble_eq_true rfl, Nat.le_of_ble_eq_true rfl⟩) hS6 (fun q _ h => hFc10 q h) hFc10 (fun r10 u10 t10 H10 locs10 ht10 hvm10 hw10 hB10 hz10 hk10 hS10 => ?_)
  have hr10 := hw10
  obtain ⟨hP10, hD10⟩ := gJoin (wr := []) (w1 := [(a0, .inr (8, rg 15 g0))]) hP6 hD6 [0] [] rfl rfl (by decide) (by decide) hk10 hFc10 ht10 hB10
  have hP10 : va_P D cls [(a0, .inr (8, rg 15 g0))] H10 := hP10
  have hD10 : va_D A [(a0, .inr (8, rg 15 g0))] := hD10
  refine W.widen (k := 0) (n := 0) (Nat.le_of_ble_eq_true rfl) (Nat.le_of_ble_eq_true rfl) ?_
  subst hr10
  refine lv_i2l hx hb d_10_7_20 rfl ?_
  refine lv_topl (fun y11 ey11 => ?_)
  obtain rfl : y11 = 0 := ey11.trans (by decide)
  refine lv_ladd hx hb d_10_7_21 ?_
  refine lv_topl (fun y12 ey12 => ?_)
  obtain rfl : y12 = 0 := ey12.trans (by decide)
  refine lv_lstore_n (lv' := [(2, .long 0), (4, .int 2), (0, .ref a0), (1, .int 4)]) hx hb d_10_7_22 rfl hl (by decide) rfl (fun ls hl => ?_)
  refine lv_iinc (v := 3) (lv' := [(4, .int 3), (2, .long 0), (0, .ref a0), (1, .int 4)]) hx hb d_10_7_23 hl (k := 1) rfl (by decide) (by decide) rfl (fun ls hl => ?_)
  refine lv_goto (tgt := 5) hx hb d_10_7_26 (by decide) ?_
  refine lv_iload hx hb d_10_7_5 (lv_at hl 0 rfl) ?_
  refine lv_iload_n hx hb d_10_7_7 rfl (lv_at hl 3 rfl) ?_
  refine lv_icmp_ge (tgt := 29) hx hb d_10_7_8 (by decide) (fun c => absurd c (by decide)) (fun _ => ?_)
  refine lv_lload_n hx hb d_10_7_11 rfl (lv_at hl 1 rfl) ?_
  refine lv_ldc2 hx hb hown (hts _ k_8_62) d_10_7_12 ?_
  refine lv_lmul hx hb d_10_7_15 ?_
  refine lv_topl (fun y13 ey13 => ?_)
  obtain rfl : y13 = 0 := ey13.trans (by decide)
  refine lv_aload_n hx hb d_10_7_16 rfl (lv_at hl 2 rfl) ?_
  have hFc14 := va_free (wc := [(a0, .inr (8, rg 15 g0))]) hD10 hS10 hA [0] rfl
  refine va_calli (va_runV (As := []) (rest := [.long 0]) ⟨hx, hb, hml, hown, hts⟩ (c_SoundFile_take_1 l D ca ad av H10.size a0 g0 (hp0.sub [0, 1, 2] rfl)) (cwV 0 hts (gdV k_8_49 k_8_51 ks_95 k_1_23 k_8_52) rfl rfl rfl (by decide +kernel) ⟨Nat.le_of_ble_eq_true rfl, Nat.le_of_ble_eq_true rfl⟩) (gPV hP10 hD10 hK hS10 hA hX [0] (by decide) rfl a0 [] 0 (ci := 8) (r := (RX8, TX8, 15)) rfl rfl) rfl rfl hl.1 rfl (lv_room (Nat.le_of_ble_eq_true rfl)) d_10_7_17 ⟨Nat.le_of_ble_eq_true rfl, Nat.le_of_ble_eq_true rfl⟩) hS10 (fun q _ h => hFc14 q h) hFc14 (fun r14 u14 t14 H14 locs14 ht14 hvm14 hw14 hB14 hz14 hk14 hS14 => ?_)
  have hr14 := hw14
  obtain ⟨hP14, hD14⟩ := gJoin (wr := []) (w1 := [(a0, .inr (8, rg 15 g0))]) hP10 hD10 [0] [] rfl rfl (by decide) (by decide) hk14 hFc14 ht14 hB14
  have hP14 : va_P D cls [(a0, .inr (8, rg 15 g0))] H14 := hP14
  have hD14 : va_D A [(a0, .inr (8, rg 15 g0))] := hD14
  refine W.widen (k := 0) (n := 0) (Nat.le_of_ble_eq_true rfl) (Nat.le_of_ble_eq_true rfl) ?_
  subst hr14
  refine lv_i2l hx hb d_10_7_20 rfl ?_
  refine lv_topl (fun y15 ey15 => ?_)
  obtain rfl : y15 = 0 := ey15.trans (by decide)
  refine lv_ladd hx hb d_10_7_21 ?_
  refine lv_topl (fun y16 ey16 => ?_)
  obtain rfl : y16 = 0 := ey16.trans (by decide)
  refine lv_lstore_n (lv' := [(2, .long 0), (4, .int 3), (0, .ref a0), (1, .int 4)]) hx hb d_10_7_22 rfl hl (by decide) rfl (fun ls hl => ?_)
  refine lv_iinc (v := 4) (lv' := [(4, .int 4), (2, .long 0), (0, .ref a0), (1, .int 4)]) hx hb d_10_7_23 hl (k := 1) rfl (by decide) (by decide) rfl (fun ls hl => ?_)
  refine lv_goto (tgt := 5) hx hb d_10_7_26 (by decide) ?_
  refine lv_iload hx hb d_10_7_5 (lv_at hl 0 rfl) ?_
  refine lv_iload_n hx hb d_10_7_7 rfl (lv_at hl 3 rfl) ?_
  refine lv_icmp_ge (tgt := 29) hx hb d_10_7_8 (by decide) (fun _ => ?_) (fun c => absurd (by decide) c)
  refine lv_lload_n hx hb d_10_7_29 rfl (lv_at hl 1 rfl) ?_
  have hP9 := hP14.sub (ws' := [(a0, .inr (8, rg 15 g0))]) [0] rfl
  have hD9 := hD14.sub (ws' := [(a0, .inr (8, rg 15 g0))]) [0] (by decide) rfl
  refine W.widen (k := 0) (n := 0) (Nat.le_of_ble_eq_true rfl) (Nat.le_of_ble_eq_true rfl) ?_
  exact W.lret (v := 0) hx hb hr (fun t ht hW => ⟨⟨0, (), rfl, rfl, by rw [ht]; exact hP9, va_K.moved hW.alike hK, hD9⟩, hS14.F ht⟩) hS14.2.2 d_10_7_30
abbrev Q_SoundFile_refuse_3 (D : va_G) (ca : Nat → ClassId) (a0 : Nat) (g0 : Nat → Value) (A : Nat → Prop) : Array Value → State → Outcome → State → Prop := va_Qv (S := Unit) (fun (u : Unit) => True) (fun u => gB D ca A [(a0, .inr (8, rg 15 g0))]) A
set_option maxHeartbeats 8000000 in
set_option maxRecDepth 100000 in
theorem c_SoundFile_refuse_3 (l : Launch) (D : va_G) (ca : Nat → ClassId) (ad av : Nat → Nat) (sz : Nat) (a0 : Nat) (g0 : Nat → Value) (hp0 : gF g0 [(7, .int 2)]) : Met l ({ cls := "StaveHouse$SoundFile", name := "refuse", desc := "(II)V" } : Jvm.MethodName) (Cond.code ({ cls := "StaveHouse$SoundFile", name := "refuse", desc := "(II)V" } : Jvm.MethodName) prog_10_method_4_code 3 (Option.none : Option Jvm.ClassFile.FieldType) :: wAll) ({ frames := 0, cells := 0, slots := 0, locals := 0 } : Room) (va_Pc [.ref a0, .int 3, .int 0] (gPre D ca ad av [(a0, .inr (8, rg 15 g0))] sz)) (Q_SoundFile_refuse_3 D ca a0 g0 (va_A [(a0, .inr (8, rg 15 g0))] sz)) 0 0 (va_A [(a0, .inr (8, rg 15 g0))] sz) := by
  refine gMet (Qc := Q_SoundFile_refuse_3 D ca a0 g0) (lv := [(0, .ref a0), (1, .int 3), (2, .int 0)]) (by decide) (Nat.le_of_ble_eq_true rfl) rfl (fun A p e s m below meth c ls hx hb hr hml hown hts hlk hnm hl hP hK hD hS hA hX => ?_)
  have hown : s.vm.findClass "StaveHouse$SoundFile" = some m.cls := hown
  have hnm : meth.name = "refuse" := hnm
  refine lv_aload_n hx hb d_10_4_0 rfl (lv_at hl 0 rfl) ?_
  refine gget hx hb hts inW_8 hown hK hP 0 rfl rfl hp0 0 rfl (by decide) k_7_231 d_10_4_1 ?_
  refine lv_if_ne (tgt := 17) hx hb d_10_4_4 (by decide) (fun _ => ?_) (fun c => absurd c (by decide))
  have hP9 := hP.sub (ws' := [(a0, .inr (8, rg 15 g0))]) [0] rfl
  have hD9 := hD.sub (ws' := [(a0, .inr (8, rg 15 g0))]) [0] (by decide) rfl
  refine W.widen (k := 0) (n := 0) (Nat.le_of_ble_eq_true rfl) (Nat.le_of_ble_eq_true rfl) ?_
  exact W.vret hx hb hr (fun t ht hW => ⟨⟨(), rfl, trivial, by rw [ht]; exact hP9, va_K.moved hW.alike hK, hD9⟩, hS.F ht⟩) hS.2.2 d_10_4_17
abbrev Q_SoundFile_takeOnly_4 (D : va_G) (ca : Nat → ClassId) (a0 : Nat) (g0 : Nat → Value) (A : Nat → Prop) : Array Value → State → Outcome → State → Prop := va_Qv (S := Unit) (fun (u : Unit) => True) (fun u => gB D ca A [(a0, .inr (8, rg 15 g0))]) A
set_option maxHeartbeats 8000000 in
set_option maxRecDepth 100000 in
theorem c_SoundFile_takeOnly_4 (l : Launch) (D : va_G) (ca : Nat → ClassId) (ad av : Nat → Nat) (sz : Nat) (a0 : Nat) (g0 : Nat → Value) (hp0 : gF g0 [(7, .int 2), (6, .int 0), (5, .int 0)]) : Met l ({ cls := "StaveHouse$SoundFile", name := "takeOnly", desc := "(II)V" } : Jvm.MethodName) (Cond.code ({ cls := "StaveHouse$SoundFile", name := "takeOnly", desc := "(II)V" } : Jvm.MethodName) prog_10_method_6_code 4 (Option.none : Option Jvm.ClassFile.FieldType) :: wAll) ({ frames := 2, cells := 0, slots := 0, locals := 42 } : Room) (va_Pc [.ref a0, .int 0, .int 0] (gPre D ca ad av [(a0, .inr (8, rg 15 g0))] sz)) (Q_SoundFile_takeOnly_4 D ca a0 g0 (va_A [(a0, .inr (8, rg 15 g0))] sz)) 0 0 (va_A [(a0, .inr (8, rg 15 g0))] sz) := by
  refine gMet (Qc := Q_SoundFile_takeOnly_4 D ca a0 g0) (lv := [(0, .ref a0), (1, .int 0), (2, .int 0)]) (by decide) (Nat.le_of_ble_eq_true rfl) rfl (fun A p e s m below meth c ls hx hb hr hml hown hts hlk hnm hl hP hK hD hS hA hX => ?_)
  have hown : s.vm.findClass "StaveHouse$SoundFile" = some m.cls := hown
  have hnm : meth.name = "takeOnly" := hnm
  refine lv_aload_n hx hb d_10_6_0 rfl (lv_at hl 0 rfl) ?_
  have hFc1 := va_free (wc := [(a0, .inr (8, rg 15 g0))]) hD hS hA [0] rfl
  refine va_calli (va_runV (As := []) (rest := []) ⟨hx, hb, hml, hown, hts⟩ (c_SoundFile_take_1 l D ca ad av s.heap.size a0 g0 (hp0.sub [0, 1, 2] rfl)) (cwV 0 hts (gdV k_8_49 k_8_51 ks_95 k_1_23 k_8_52) rfl rfl rfl (by decide +kernel) ⟨Nat.le_of_ble_eq_true rfl, Nat.le_of_ble_eq_true rfl⟩) (gPV hP hD hK hS hA hX [0] (by decide) rfl a0 [] 0 (ci := 8) (r := (RX8, TX8, 15)) rfl rfl) rfl rfl hl.1 rfl (lv_room (Nat.le_of_ble_eq_true rfl)) d_10_6_1 ⟨Nat.le_of_ble_eq_true rfl, Nat.le_of_ble_eq_true rfl⟩) hS (fun q _ h => hFc1 q h) hFc1 (fun r1 u1 t1 H1 locs1 ht1 hvm1 hw1 hB1 hz1 hk1 hS1 => ?_)
  have hr1 := hw1
  obtain ⟨hP1, hD1⟩ := gJoin (wr := []) (w1 := [(a0, .inr (8, rg 15 g0))]) hP hD [0] [] rfl rfl (by decide) (by decide) hk1 hFc1 ht1 hB1
  have hP1 : va_P D cls [(a0, .inr (8, rg 15 g0))] H1 := hP1
  have hD1 : va_D A [(a0, .inr (8, rg 15 g0))] := hD1
  refine W.widen (k := 0) (n := 0) (Nat.le_of_ble_eq_true rfl) (Nat.le_of_ble_eq_true rfl) ?_
  subst hr1
  refine lv_istore_n (lv' := [(3, .int 0), (0, .ref a0), (1, .int 0), (2, .int 0)]) hx hb d_10_6_4 rfl hl (by decide) rfl (fun ls hl => ?_)
  refine lv_iload_n hx hb d_10_6_5 rfl (lv_at hl 0 rfl) ?_
  refine lv_iload_n hx hb d_10_6_6 rfl (lv_at hl 2 rfl) ?_
  refine lv_icmp_lt (tgt := 15) hx hb d_10_6_7 (by decide) (fun c => absurd c (by decide)) (fun _ => ?_)
  refine lv_iload_n hx hb d_10_6_10 rfl (lv_at hl 0 rfl) ?_
  refine lv_iload_n hx hb d_10_6_11 rfl (lv_at hl 3 rfl) ?_
  refine lv_icmp_le (tgt := 26) hx hb d_10_6_12 (by decide) (fun _ => ?_) (fun c => absurd (by decide) c)
  have hP9 := hP1.sub (ws' := [(a0, .inr (8, rg 15 g0))]) [0] rfl
  have hD9 := hD1.sub (ws' := [(a0, .inr (8, rg 15 g0))]) [0] (by decide) rfl
  refine W.widen (k := 0) (n := 0) (Nat.le_of_ble_eq_true rfl) (Nat.le_of_ble_eq_true rfl) ?_
  exact W.vret hx hb hr (fun t ht hW => ⟨⟨(), rfl, trivial, by rw [ht]; exact hP9, va_K.moved hW.alike hK, hD9⟩, hS1.F ht⟩) hS1.2.2 d_10_6_26
abbrev Q_SoundFile_takeOnly_5 (D : va_G) (ca : Nat → ClassId) (a0 : Nat) (g0 : Nat → Value) (A : Nat → Prop) : Array Value → State → Outcome → State → Prop := va_Qv (S := Unit) (fun (u : Unit) => True) (fun u => gB D ca A [(a0, .inr (8, rg 15 g0))]) A
set_option maxHeartbeats 8000000 in
set_option maxRecDepth 100000 in
theorem c_SoundFile_takeOnly_5 (l : Launch) (D : va_G) (ca : Nat → ClassId) (ad av : Nat → Nat) (sz : Nat) (a0 : Nat) (g0 : Nat → Value) (hp0 : gF g0 [(7, .int 2), (6, .int 0), (5, .int 0)]) : Met l ({ cls := "StaveHouse$SoundFile", name := "takeOnly", desc := "(II)V" } : Jvm.MethodName) (Cond.code ({ cls := "StaveHouse$SoundFile", name := "takeOnly", desc := "(II)V" } : Jvm.MethodName) prog_10_method_6_code 4 (Option.none : Option Jvm.ClassFile.FieldType) :: wAll) ({ frames := 2, cells := 0, slots := 0, locals := 42 } : Room) (va_Pc [.ref a0, .int 0, .int 1] (gPre D ca ad av [(a0, .inr (8, rg 15 g0))] sz)) (Q_SoundFile_takeOnly_5 D ca a0 g0 (va_A [(a0, .inr (8, rg 15 g0))] sz)) 0 0 (va_A [(a0, .inr (8, rg 15 g0))] sz) := by
  refine gMet (Qc := Q_SoundFile_takeOnly_5 D ca a0 g0) (lv := [(0, .ref a0), (1, .int 0), (2, .int 1)]) (by decide) (Nat.le_of_ble_eq_true rfl) rfl (fun A p e s m below meth c ls hx hb hr hml hown hts hlk hnm hl hP hK hD hS hA hX => ?_)
  have hown : s.vm.findClass "StaveHouse$SoundFile" = some m.cls := hown
  have hnm : meth.name = "takeOnly" := hnm
  refine lv_aload_n hx hb d_10_6_0 rfl (lv_at hl 0 rfl) ?_
  have hFc1 := va_free (wc := [(a0, .inr (8, rg 15 g0))]) hD hS hA [0] rfl
  refine va_calli (va_runV (As := []) (rest := []) ⟨hx, hb, hml, hown, hts⟩ (c_SoundFile_take_1 l D ca ad av s.heap.size a0 g0 (hp0.sub [0, 1, 2] rfl)) (cwV 0 hts (gdV k_8_49 k_8_51 ks_95 k_1_23 k_8_52) rfl rfl rfl (by decide +kernel) ⟨Nat.le_of_ble_eq_true rfl, Nat.le_of_ble_eq_true rfl⟩) (gPV hP hD hK hS hA hX [0] (by decide) rfl a0 [] 0 (ci := 8) (r := (RX8, TX8, 15)) rfl rfl) rfl rfl hl.1 rfl (lv_room (Nat.le_of_ble_eq_true rfl)) d_10_6_1 ⟨Nat.le_of_ble_eq_true rfl, Nat.le_of_ble_eq_true rfl⟩) hS (fun q _ h => hFc1 q h) hFc1 (fun r1 u1 t1 H1 locs1 ht1 hvm1 hw1 hB1 hz1 hk1 hS1 => ?_)
  have hr1 := hw1
  obtain ⟨hP1, hD1⟩ := gJoin (wr := []) (w1 := [(a0, .inr (8, rg 15 g0))]) hP hD [0] [] rfl rfl (by decide) (by decide) hk1 hFc1 ht1 hB1
  have hP1 : va_P D cls [(a0, .inr (8, rg 15 g0))] H1 := hP1
  have hD1 : va_D A [(a0, .inr (8, rg 15 g0))] := hD1
  refine W.widen (k := 0) (n := 0) (Nat.le_of_ble_eq_true rfl) (Nat.le_of_ble_eq_true rfl) ?_
  subst hr1
  refine lv_istore_n (lv' := [(3, .int 0), (0, .ref a0), (1, .int 0), (2, .int 1)]) hx hb d_10_6_4 rfl hl (by decide) rfl (fun ls hl => ?_)
  refine lv_iload_n hx hb d_10_6_5 rfl (lv_at hl 0 rfl) ?_
  refine lv_iload_n hx hb d_10_6_6 rfl (lv_at hl 2 rfl) ?_
  refine lv_icmp_lt (tgt := 15) hx hb d_10_6_7 (by decide) (fun c => absurd c (by decide)) (fun _ => ?_)
  refine lv_iload_n hx hb d_10_6_10 rfl (lv_at hl 0 rfl) ?_
  refine lv_iload_n hx hb d_10_6_11 rfl (lv_at hl 3 rfl) ?_
  refine lv_icmp_le (tgt := 26) hx hb d_10_6_12 (by decide) (fun _ => ?_) (fun c => absurd (by decide) c)
  have hP9 := hP1.sub (ws' := [(a0, .inr (8, rg 15 g0))]) [0] rfl
  have hD9 := hD1.sub (ws' := [(a0, .inr (8, rg 15 g0))]) [0] (by decide) rfl
  refine W.widen (k := 0) (n := 0) (Nat.le_of_ble_eq_true rfl) (Nat.le_of_ble_eq_true rfl) ?_
  exact W.vret hx hb hr (fun t ht hW => ⟨⟨(), rfl, trivial, by rw [ht]; exact hP9, va_K.moved hW.alike hK, hD9⟩, hS1.F ht⟩) hS1.2.2 d_10_6_26
abbrev Q_SoundFile_takeWide_1 (D : va_G) (ca : Nat → ClassId) (a0 : Nat) (g0 : Nat → Value) (A : Nat → Prop) : Array Value → State → Outcome → State → Prop := va_Ql (S := Unit) (fun (r : Int64) (u : Unit) => r = 0) (fun u => gB D ca A [(a0, .inr (8, rg 15 g0))]) A
set_option maxHeartbeats 8000000 in
set_option maxRecDepth 100000 in
theorem c_SoundFile_takeWide_1 (l : Launch) (D : va_G) (ca : Nat → ClassId) (ad av : Nat → Nat) (sz : Nat) (a0 : Nat) (g0 : Nat → Value) (hp0 : gF g0 [(7, .int 2), (6, .int 0), (5, .int 0)]) : Met l ({ cls := "StaveHouse$SoundFile", name := "takeWide", desc := "(I)J" } : Jvm.MethodName) (Cond.code ({ cls := "StaveHouse$SoundFile", name := "takeWide", desc := "(I)J" } : Jvm.MethodName) prog_10_method_7_code 5 (Option.some Jvm.ClassFile.FieldType.long) :: wAll) ({ frames := 2, cells := 0, slots := 0, locals := 42 } : Room) (va_Pc [.ref a0, .int 2] (gPre D ca ad av [(a0, .inr (8, rg 15 g0))] sz)) (Q_SoundFile_takeWide_1 D ca a0 g0 (va_A [(a0, .inr (8, rg 15 g0))] sz)) 0 0 (va_A [(a0, .inr (8, rg 15 g0))] sz) := by
  refine gMet (Qc := Q_SoundFile_takeWide_1 D ca a0 g0) (lv := [(0, .ref a0), (1, .int 2)]) (by decide) (Nat.le_of_ble_eq_true rfl) rfl (fun A p e s m below meth c ls hx hb hr hml hown hts hlk hnm hl hP hK hD hS hA hX => ?_)
  have hown : s.vm.findClass "StaveHouse$SoundFile" = some m.cls := hown
  have hnm : meth.name = "takeWide" := hnm
  refine lv_lconst (v := 0) hx hb d_10_7_0 (by decide) ?_
  refine lv_lstore_n (lv' := [(2, .long 0), (0, .ref a0), (1, .int 2)]) hx hb d_10_7_1 rfl hl (by decide) rfl (fun ls hl => ?_)
  refine lv_iconst (v := 0) hx hb d_10_7_2 (by decide) ?_
  refine lv_istore (lv' := [(4, .int 0), (2, .long 0), (0, .ref a0), (1, .int 2)]) hx hb d_10_7_3 hl (by decide) rfl (fun ls hl => ?_)
  refine lv_iload hx hb d_10_7_5 (lv_at hl 0 rfl) ?_
  refine lv_iload_n hx hb d_10_7_7 rfl (lv_at hl 3 rfl) ?_
  refine lv_icmp_ge (tgt := 29) hx hb d_10_7_8 (by decide) (fun c => absurd c (by decide)) (fun _ => ?_)
  refine lv_lload_n hx hb d_10_7_11 rfl (lv_at hl 1 rfl) ?_
  refine lv_ldc2 hx hb hown (hts _ k_8_62) d_10_7_12 ?_
  refine lv_lmul hx hb d_10_7_15 ?_
  refine lv_topl (fun y1 ey1 => ?_)
  obtain rfl : y1 = 0 := ey1.trans (by decide)
  refine lv_aload_n hx hb d_10_7_16 rfl (lv_at hl 2 rfl) ?_
  have hFc2 := va_free (wc := [(a0, .inr (8, rg 15 g0))]) hD hS hA [0] rfl
  refine va_calli (va_runV (As := []) (rest := [.long 0]) ⟨hx, hb, hml, hown, hts⟩ (c_SoundFile_take_1 l D ca ad av s.heap.size a0 g0 (hp0.sub [0, 1, 2] rfl)) (cwV 0 hts (gdV k_8_49 k_8_51 ks_95 k_1_23 k_8_52) rfl rfl rfl (by decide +kernel) ⟨Nat.le_of_ble_eq_true rfl, Nat.le_of_ble_eq_true rfl⟩) (gPV hP hD hK hS hA hX [0] (by decide) rfl a0 [] 0 (ci := 8) (r := (RX8, TX8, 15)) rfl rfl) rfl rfl hl.1 rfl (lv_room (Nat.le_of_ble_eq_true rfl)) d_10_7_17 ⟨Nat.le_of_ble_eq_true rfl, Nat.le_of_ble_eq_true rfl⟩) hS (fun q _ h => hFc2 q h) hFc2 (fun r2 u2 t2 H2 locs2 ht2 hvm2 hw2 hB2 hz2 hk2 hS2 => ?_)
  have hr2 := hw2
  obtain ⟨hP2, hD2⟩ := gJoin (wr := []) (w1 := [(a0, .inr (8, rg 15 g0))]) hP hD [0] [] rfl rfl (by decide) (by decide) hk2 hFc2 ht2 hB2
  have hP2 : va_P D cls [(a0, .inr (8, rg 15 g0))] H2 := hP2
  have hD2 : va_D A [(a0, .inr (8, rg 15 g0))] := hD2
  refine W.widen (k := 0) (n := 0) (Nat.le_of_ble_eq_true rfl) (Nat.le_of_ble_eq_true rfl) ?_
  subst hr2
  refine lv_i2l hx hb d_10_7_20 rfl ?_
  refine lv_topl (fun y3 ey3 => ?_)
  obtain rfl : y3 = 0 := ey3.trans (by decide)
  refine lv_ladd hx hb d_10_7_21 ?_
  refine lv_topl (fun y4 ey4 => ?_)
  obtain rfl : y4 = 0 := ey4.trans (by decide)
  refine lv_lstore_n (lv' := [(2, .long 0), (4, .int 0), (0, .ref a0), (1, .int 2)]) hx hb d_10_7_22 rfl hl (by decide) rfl (fun ls hl => ?_)
  refine lv_iinc (v := 1) (lv' := [(4, .int 1), (2, .long 0), (0, .ref a0), (1, .int 2)]) hx hb d_10_7_23 hl (k := 1) rfl (by decide) (by decide) rfl (fun ls hl => ?_)
  refine lv_goto (tgt := 5) hx hb d_10_7_26 (by decide) ?_
  refine lv_iload hx hb d_10_7_5 (lv_at hl 0 rfl) ?_
  refine lv_iload_n hx hb d_10_7_7 rfl (lv_at hl 3 rfl) ?_
  refine lv_icmp_ge (tgt := 29) hx hb d_10_7_8 (by decide) (fun c => absurd c (by decide)) (fun _ => ?_)
  refine lv_lload_n hx hb d_10_7_11 rfl (lv_at hl 1 rfl) ?_
  refine lv_ldc2 hx hb hown (hts _ k_8_62) d_10_7_12 ?_
  refine lv_lmul hx hb d_10_7_15 ?_
  refine lv_topl (fun y5 ey5 => ?_)
  obtain rfl : y5 = 0 := ey5.trans (by decide)
  refine lv_aload_n hx hb d_10_7_16 rfl (lv_at hl 2 rfl) ?_
  have hFc6 := va_free (wc := [(a0, .inr (8, rg 15 g0))]) hD2 hS2 hA [0] rfl
  refine va_calli (va_runV (As := []) (rest := [.long 0]) ⟨hx, hb, hml, hown, hts⟩ (c_SoundFile_take_1 l D ca ad av H2.size a0 g0 (hp0.sub [0, 1, 2] rfl)) (cwV 0 hts (gdV k_8_49 k_8_51 ks_95 k_1_23 k_8_52) rfl rfl rfl (by decide +kernel) ⟨Nat.le_of_ble_eq_true rfl, Nat.le_of_ble_eq_true rfl⟩) (gPV hP2 hD2 hK hS2 hA hX [0] (by decide) rfl a0 [] 0 (ci := 8) (r := (RX8, TX8, 15)) rfl rfl) rfl rfl hl.1 rfl (lv_room (Nat.le_of_ble_eq_true rfl)) d_10_7_17 ⟨Nat.le_of_ble_eq_true rfl, Nat.le_of_ble_eq_true rfl⟩) hS2 (fun q _ h => hFc6 q h) hFc6 (fun r6 u6 t6 H6 locs6 ht6 hvm6 hw6 hB6 hz6 hk6 hS6 => ?_)
  have hr6 := hw6
  obtain ⟨hP6, hD6⟩ := gJoin (wr := []) (w1 := [(a0, .inr (8, rg 15 g0))]) hP2 hD2 [0] [] rfl rfl (by decide) (by decide) hk6 hFc6 ht6 hB6
  have hP6 : va_P D cls [(a0, .inr (8, rg 15 g0))] H6 := hP6
  have hD6 : va_D A [(a0, .inr (8, rg 15 g0))] := hD6
  refine W.widen (k := 0) (n := 0) (Nat.le_of_ble_eq_true rfl) (Nat.le_of_ble_eq_true rfl) ?_
  subst hr6
  refine lv_i2l hx hb d_10_7_20 rfl ?_
  refine lv_topl (fun y7 ey7 => ?_)
  obtain rfl : y7 = 0 := ey7.trans (by decide)
  refine lv_ladd hx hb d_10_7_21 ?_
  refine lv_topl (fun y8 ey8 => ?_)
  obtain rfl : y8 = 0 := ey8.trans (by decide)
  refine lv_lstore_n (lv' := [(2, .long 0), (4, .int 1), (0, .ref a0), (1, .int 2)]) hx hb d_10_7_22 rfl hl (by decide) rfl (fun ls hl => ?_)
  refine lv_iinc (v := 2) (lv' := [(4, .int 2), (2, .long 0), (0, .ref a0), (1, .int 2)]) hx hb d_10_7_23 hl (k := 1) rfl (by decide) (by decide) rfl (fun ls hl => ?_)
  refine lv_goto (tgt := 5) hx hb d_10_7_26 (by decide) ?_
  refine lv_iload hx hb d_10_7_5 (lv_at hl 0 rfl) ?_
  refine lv_iload_n hx hb d_10_7_7 rfl (lv_at hl 3 rfl) ?_
  refine lv_icmp_ge (tgt := 29) hx hb d_10_7_8 (by decide) (fun _ => ?_) (fun c => absurd (by decide) c)
  refine lv_lload_n hx hb d_10_7_29 rfl (lv_at hl 1 rfl) ?_
  have hP9 := hP6.sub (ws' := [(a0, .inr (8, rg 15 g0))]) [0] rfl
  have hD9 := hD6.sub (ws' := [(a0, .inr (8, rg 15 g0))]) [0] (by decide) rfl
  refine W.widen (k := 0) (n := 0) (Nat.le_of_ble_eq_true rfl) (Nat.le_of_ble_eq_true rfl) ?_
  exact W.lret (v := 0) hx hb hr (fun t ht hW => ⟨⟨0, (), rfl, rfl, by rw [ht]; exact hP9, va_K.moved hW.alike hK, hD9⟩, hS6.F ht⟩) hS6.2.2 d_10_7_30
abbrev Q_SoundFile_takeBounded_0 (D : va_G) (ca : Nat → ClassId) (a0 : Nat) (g0 : Nat → Value) (A : Nat → Prop) : Array Value → State → Outcome → State → Prop := va_Qi (S := Unit) (fun (r : Int32) (u : Unit) => r = 0) (fun u => gB D ca A [(a0, .inr (8, rg 15 g0))]) A
set_option maxHeartbeats 8000000 in
set_option maxRecDepth 100000 in
theorem c_SoundFile_takeBounded_0 (l : Launch) (D : va_G) (ca : Nat → ClassId) (ad av : Nat → Nat) (sz : Nat) (a0 : Nat) (g0 : Nat → Value) (hp0 : gF g0 [(7, .int 2), (6, .int 0), (5, .int 0)]) : Met l ({ cls := "StaveHouse$SoundFile", name := "takeBounded", desc := "(IJJ)I" } : Jvm.MethodName) (Cond.code ({ cls := "StaveHouse$SoundFile", name := "takeBounded", desc := "(IJJ)I" } : Jvm.MethodName) prog_10_method_8_code 9 (Option.some Jvm.ClassFile.FieldType.int) :: wAll) ({ frames := 3, cells := 0, slots := 0, locals := 66 } : Room) (va_Pc [.ref a0, .int 2, .long 1, .long 8] (gPre D ca ad av [(a0, .inr (8, rg 15 g0))] sz)) (Q_SoundFile_takeBounded_0 D ca a0 g0 (va_A [(a0, .inr (8, rg 15 g0))] sz)) 0 0 (va_A [(a0, .inr (8, rg 15 g0))] sz) := by
  refine gMet (Qc := Q_SoundFile_takeBounded_0 D ca a0 g0) (lv := [(0, .ref a0), (1, .int 2), (2, .long 1), (4, .long 8)]) (by decide) (Nat.le_of_ble_eq_true rfl) rfl (fun A p e s m below meth c ls hx hb hr hml hown hts hlk hnm hl hP hK hD hS hA hX => ?_)
  have hown : s.vm.findClass "StaveHouse$SoundFile" = some m.cls := hown
  have hnm : meth.name = "takeBounded" := hnm
  refine lv_aload_n hx hb d_10_8_0 rfl (lv_at hl 0 rfl) ?_
  refine gget hx hb hts inW_8 hown hK hP 0 rfl rfl hp0 2 rfl (by decide) k_7_229 d_10_8_1 ?_
  refine lv_istore (lv' := [(6, .int 0), (0, .ref a0), (1, .int 2), (2, .long 1), (4, .long 8)]) hx hb d_10_8_4 hl (by decide) rfl (fun ls hl => ?_)
  refine lv_aload_n hx hb d_10_8_6 rfl (lv_at hl 1 rfl) ?_
  refine lv_iload_n hx hb d_10_8_7 rfl (lv_at hl 2 rfl) ?_
  have hFc1 := va_free (wc := [(a0, .inr (8, rg 15 g0))]) hD hS hA [0] rfl
  refine va_calll (va_runV (As := [.int 2]) (rest := []) ⟨hx, hb, hml, hown, hts⟩ (c_SoundFile_takeWide_1 l D ca ad av s.heap.size a0 g0 (hp0.sub [0, 1, 2] rfl)) (cwV 1 hts (gdV k_8_58 k_8_60 ks_97 k_1_23 k_8_61) rfl rfl rfl (by decide +kernel) ⟨Nat.le_of_ble_eq_true rfl, Nat.le_of_ble_eq_true rfl⟩) (gPV hP hD hK hS hA hX [0] (by decide) rfl a0 [.int 2] 0 (ci := 8) (r := (RX8, TX8, 15)) rfl rfl) rfl rfl hl.1 rfl (lv_room (Nat.le_of_ble_eq_true rfl)) d_10_8_8 ⟨Nat.le_of_ble_eq_true rfl, Nat.le_of_ble_eq_true rfl⟩) hS (fun q _ h => hFc1 q h) hFc1 (fun r1 u1 t1 H1 locs1 ht1 hvm1 hw1 hB1 hz1 hk1 hS1 => ?_)
  have hr1 := hw1
  obtain ⟨hP1, hD1⟩ := gJoin (wr := []) (w1 := [(a0, .inr (8, rg 15 g0))]) hP hD [0] [] rfl rfl (by decide) (by decide) hk1 hFc1 ht1 hB1
  have hP1 : va_P D cls [(a0, .inr (8, rg 15 g0))] H1 := hP1
  have hD1 : va_D A [(a0, .inr (8, rg 15 g0))] := hD1
  refine W.widen (k := 0) (n := 0) (Nat.le_of_ble_eq_true rfl) (Nat.le_of_ble_eq_true rfl) ?_
  subst hr1
  refine lv_lstore (lv' := [(7, .long 0), (6, .int 0), (0, .ref a0), (1, .int 2), (2, .long 1), (4, .long 8)]) hx hb d_10_8_11 hl (by decide) rfl (fun ls hl => ?_)
  refine lv_lload hx hb d_10_8_13 (lv_at hl 0 rfl) ?_
  refine lv_lload_n hx hb d_10_8_15 rfl (lv_at hl 4 rfl) ?_
  refine W.lcmp hx hb d_10_8_16 ?_
  refine lv_topi (fun y2 ey2 => ?_)
  obtain rfl : y2 = -1 := ey2.trans (by decide)
  refine lv_if_lt (tgt := 28) hx hb d_10_8_17 (by decide) (fun _ => ?_) (fun c => absurd (by decide) c)
  refine lv_aload_n hx hb d_10_8_28 rfl (lv_at hl 2 rfl) ?_
  refine lv_iconst (v := 3) hx hb d_10_8_29 (by decide) ?_
  refine lv_iload hx hb d_10_8_30 (lv_at hl 1 rfl) ?_
  have hFc3 := va_free (wc := [(a0, .inr (8, rg 15 g0))]) hD1 hS1 hA [0] rfl
  refine va_callv (va_runV (As := [.int 3, .int 0]) (rest := []) ⟨hx, hb, hml, hown, hts⟩ (c_SoundFile_refuse_3 l D ca ad av H1.size a0 g0 (hp0.sub [0] rfl)) (cwV 2 hts (gdV k_8_53 k_8_55 ks_96 k_1_23 k_8_56) rfl rfl rfl (by decide +kernel) ⟨Nat.le_of_ble_eq_true rfl, Nat.le_of_ble_eq_true rfl⟩) (gPV hP1 hD1 hK hS1 hA hX [0] (by decide) rfl a0 [.int 3, .int 0] 0 (ci := 8) (r := (RX8, TX8, 15)) rfl rfl) rfl rfl hl.1 rfl (lv_room (Nat.le_of_ble_eq_true rfl)) d_10_8_32 ⟨Nat.le_of_ble_eq_true rfl, Nat.le_of_ble_eq_true rfl⟩) hS1 (fun q _ h => hFc3 q h) hFc3 (fun u3 t3 H3 locs3 ht3 hvm3 hw3 hB3 hz3 hk3 hS3 => ?_)
  obtain ⟨hP3, hD3⟩ := gJoin (wr := []) (w1 := [(a0, .inr (8, rg 15 g0))]) hP1 hD1 [0] [] rfl rfl (by decide) (by decide) hk3 hFc3 ht3 hB3
  have hP3 : va_P D cls [(a0, .inr (8, rg 15 g0))] H3 := hP3
  have hD3 : va_D A [(a0, .inr (8, rg 15 g0))] := hD3
  refine W.widen (k := 0) (n := 0) (Nat.le_of_ble_eq_true rfl) (Nat.le_of_ble_eq_true rfl) ?_
  refine lv_iconst (v := 0) hx hb d_10_8_35 (by decide) ?_
  have hP9 := hP3.sub (ws' := [(a0, .inr (8, rg 15 g0))]) [0] rfl
  have hD9 := hD3.sub (ws' := [(a0, .inr (8, rg 15 g0))]) [0] (by decide) rfl
  refine W.widen (k := 0) (n := 0) (Nat.le_of_ble_eq_true rfl) (Nat.le_of_ble_eq_true rfl) ?_
  exact W.iret (v := 0) hx hb hr (fun t ht hW => ⟨⟨0, (), rfl, rfl, by rw [ht]; exact hP9, va_K.moved hW.alike hK, hD9⟩, hS3.F ht⟩) hS3.2.2 d_10_8_36
abbrev Q_SoundFile_takeBounded_1 (D : va_G) (ca : Nat → ClassId) (a0 : Nat) (g0 : Nat → Value) (A : Nat → Prop) : Array Value → State → Outcome → State → Prop := va_Qi (S := Unit) (fun (r : Int32) (u : Unit) => r = 0) (fun u => gB D ca A [(a0, .inr (8, rg 15 g0))]) A
set_option maxHeartbeats 8000000 in
set_option maxRecDepth 100000 in
theorem c_SoundFile_takeBounded_1 (l : Launch) (D : va_G) (ca : Nat → ClassId) (ad av : Nat → Nat) (sz : Nat) (a0 : Nat) (g0 : Nat → Value) (hp0 : gF g0 [(7, .int 2), (6, .int 0), (5, .int 0)]) : Met l ({ cls := "StaveHouse$SoundFile", name := "takeBounded", desc := "(IJJ)I" } : Jvm.MethodName) (Cond.code ({ cls := "StaveHouse$SoundFile", name := "takeBounded", desc := "(IJJ)I" } : Jvm.MethodName) prog_10_method_8_code 9 (Option.some Jvm.ClassFile.FieldType.int) :: wAll) ({ frames := 3, cells := 0, slots := 0, locals := 66 } : Room) (va_Pc [.ref a0, .int 2, .long 1, .long 960] (gPre D ca ad av [(a0, .inr (8, rg 15 g0))] sz)) (Q_SoundFile_takeBounded_1 D ca a0 g0 (va_A [(a0, .inr (8, rg 15 g0))] sz)) 0 0 (va_A [(a0, .inr (8, rg 15 g0))] sz) := by
  refine gMet (Qc := Q_SoundFile_takeBounded_1 D ca a0 g0) (lv := [(0, .ref a0), (1, .int 2), (2, .long 1), (4, .long 960)]) (by decide) (Nat.le_of_ble_eq_true rfl) rfl (fun A p e s m below meth c ls hx hb hr hml hown hts hlk hnm hl hP hK hD hS hA hX => ?_)
  have hown : s.vm.findClass "StaveHouse$SoundFile" = some m.cls := hown
  have hnm : meth.name = "takeBounded" := hnm
  refine lv_aload_n hx hb d_10_8_0 rfl (lv_at hl 0 rfl) ?_
  refine gget hx hb hts inW_8 hown hK hP 0 rfl rfl hp0 2 rfl (by decide) k_7_229 d_10_8_1 ?_
  refine lv_istore (lv' := [(6, .int 0), (0, .ref a0), (1, .int 2), (2, .long 1), (4, .long 960)]) hx hb d_10_8_4 hl (by decide) rfl (fun ls hl => ?_)
  refine lv_aload_n hx hb d_10_8_6 rfl (lv_at hl 1 rfl) ?_
  refine lv_iload_n hx hb d_10_8_7 rfl (lv_at hl 2 rfl) ?_
  have hFc1 := va_free (wc := [(a0, .inr (8, rg 15 g0))]) hD hS hA [0] rfl
  refine va_calll (va_runV (As := [.int 2]) (rest := []) ⟨hx, hb, hml, hown, hts⟩ (c_SoundFile_takeWide_1 l D ca ad av s.heap.size a0 g0 (hp0.sub [0, 1, 2] rfl)) (cwV 1 hts (gdV k_8_58 k_8_60 ks_97 k_1_23 k_8_61) rfl rfl rfl (by decide +kernel) ⟨Nat.le_of_ble_eq_true rfl, Nat.le_of_ble_eq_true rfl⟩) (gPV hP hD hK hS hA hX [0] (by decide) rfl a0 [.int 2] 0 (ci := 8) (r := (RX8, TX8, 15)) rfl rfl) rfl rfl hl.1 rfl (lv_room (Nat.le_of_ble_eq_true rfl)) d_10_8_8 ⟨Nat.le_of_ble_eq_true rfl, Nat.le_of_ble_eq_true rfl⟩) hS (fun q _ h => hFc1 q h) hFc1 (fun r1 u1 t1 H1 locs1 ht1 hvm1 hw1 hB1 hz1 hk1 hS1 => ?_)
  have hr1 := hw1
  obtain ⟨hP1, hD1⟩ := gJoin (wr := []) (w1 := [(a0, .inr (8, rg 15 g0))]) hP hD [0] [] rfl rfl (by decide) (by decide) hk1 hFc1 ht1 hB1
  have hP1 : va_P D cls [(a0, .inr (8, rg 15 g0))] H1 := hP1
  have hD1 : va_D A [(a0, .inr (8, rg 15 g0))] := hD1
  refine W.widen (k := 0) (n := 0) (Nat.le_of_ble_eq_true rfl) (Nat.le_of_ble_eq_true rfl) ?_
  subst hr1
  refine lv_lstore (lv' := [(7, .long 0), (6, .int 0), (0, .ref a0), (1, .int 2), (2, .long 1), (4, .long 960)]) hx hb d_10_8_11 hl (by decide) rfl (fun ls hl => ?_)
  refine lv_lload hx hb d_10_8_13 (lv_at hl 0 rfl) ?_
  refine lv_lload_n hx hb d_10_8_15 rfl (lv_at hl 4 rfl) ?_
  refine W.lcmp hx hb d_10_8_16 ?_
  refine lv_topi (fun y2 ey2 => ?_)
  obtain rfl : y2 = -1 := ey2.trans (by decide)
  refine lv_if_lt (tgt := 28) hx hb d_10_8_17 (by decide) (fun _ => ?_) (fun c => absurd (by decide) c)
  refine lv_aload_n hx hb d_10_8_28 rfl (lv_at hl 2 rfl) ?_
  refine lv_iconst (v := 3) hx hb d_10_8_29 (by decide) ?_
  refine lv_iload hx hb d_10_8_30 (lv_at hl 1 rfl) ?_
  have hFc3 := va_free (wc := [(a0, .inr (8, rg 15 g0))]) hD1 hS1 hA [0] rfl
  refine va_callv (va_runV (As := [.int 3, .int 0]) (rest := []) ⟨hx, hb, hml, hown, hts⟩ (c_SoundFile_refuse_3 l D ca ad av H1.size a0 g0 (hp0.sub [0] rfl)) (cwV 2 hts (gdV k_8_53 k_8_55 ks_96 k_1_23 k_8_56) rfl rfl rfl (by decide +kernel) ⟨Nat.le_of_ble_eq_true rfl, Nat.le_of_ble_eq_true rfl⟩) (gPV hP1 hD1 hK hS1 hA hX [0] (by decide) rfl a0 [.int 3, .int 0] 0 (ci := 8) (r := (RX8, TX8, 15)) rfl rfl) rfl rfl hl.1 rfl (lv_room (Nat.le_of_ble_eq_true rfl)) d_10_8_32 ⟨Nat.le_of_ble_eq_true rfl, Nat.le_of_ble_eq_true rfl⟩) hS1 (fun q _ h => hFc3 q h) hFc3 (fun u3 t3 H3 locs3 ht3 hvm3 hw3 hB3 hz3 hk3 hS3 => ?_)
  obtain ⟨hP3, hD3⟩ := gJoin (wr := []) (w1 := [(a0, .inr (8, rg 15 g0))]) hP1 hD1 [0] [] rfl rfl (by decide) (by decide) hk3 hFc3 ht3 hB3
  have hP3 : va_P D cls [(a0, .inr (8, rg 15 g0))] H3 := hP3
  have hD3 : va_D A [(a0, .inr (8, rg 15 g0))] := hD3
  refine W.widen (k := 0) (n := 0) (Nat.le_of_ble_eq_true rfl) (Nat.le_of_ble_eq_true rfl) ?_
  refine lv_iconst (v := 0) hx hb d_10_8_35 (by decide) ?_
  have hP9 := hP3.sub (ws' := [(a0, .inr (8, rg 15 g0))]) [0] rfl
  have hD9 := hD3.sub (ws' := [(a0, .inr (8, rg 15 g0))]) [0] (by decide) rfl
  refine W.widen (k := 0) (n := 0) (Nat.le_of_ble_eq_true rfl) (Nat.le_of_ble_eq_true rfl) ?_
  exact W.iret (v := 0) hx hb hr (fun t ht hW => ⟨⟨0, (), rfl, rfl, by rw [ht]; exact hP9, va_K.moved hW.alike hK, hD9⟩, hS3.F ht⟩) hS3.2.2 d_10_8_36
abbrev Q_SoundFile_skip_0 (D : va_G) (ca : Nat → ClassId) (a0 : Nat) (g0 : Nat → Value) (A : Nat → Prop) : Array Value → State → Outcome → State → Prop := va_Qv (S := Unit) (fun (u : Unit) => True) (fun u => gB D ca A [(a0, .inr (8, rg 15 g0))]) A
set_option maxHeartbeats 8000000 in
set_option maxRecDepth 100000 in
theorem c_SoundFile_skip_0 (l : Launch) (D : va_G) (ca : Nat → ClassId) (ad av : Nat → Nat) (sz : Nat) (a0 : Nat) (g0 : Nat → Value) (hp0 : gF g0 [(7, .int 2), (6, .int 0), (5, .int 0)]) : Met l ({ cls := "StaveHouse$SoundFile", name := "skip", desc := "(J)V" } : Jvm.MethodName) (Cond.code ({ cls := "StaveHouse$SoundFile", name := "skip", desc := "(J)V" } : Jvm.MethodName) prog_10_method_11_code 3 (Option.none : Option Jvm.ClassFile.FieldType) :: wAll) ({ frames := 0, cells := 0, slots := 0, locals := 0 } : Room) (va_Pc [.ref a0, .long (-6)] (gPre D ca ad av [(a0, .inr (8, rg 15 g0))] sz)) (Q_SoundFile_skip_0 D ca a0 g0 (va_A [(a0, .inr (8, rg 15 g0))] sz)) 0 0 (va_A [(a0, .inr (8, rg 15 g0))] sz) := by
  refine gMet (Qc := Q_SoundFile_skip_0 D ca a0 g0) (lv := [(0, .ref a0), (1, .long (-6))]) (by decide) (Nat.le_of_ble_eq_true rfl) rfl (fun A p e s m below meth c ls hx hb hr hml hown hts hlk hnm hl hP hK hD hS hA hX => ?_)
  have hown : s.vm.findClass "StaveHouse$SoundFile" = some m.cls := hown
  have hnm : meth.name = "skip" := hnm
  refine lv_aload_n hx hb d_10_11_0 rfl (lv_at hl 0 rfl) ?_
  refine gget hx hb hts inW_8 hown hK hP 0 rfl rfl hp0 2 rfl (by decide) k_7_229 d_10_11_1 ?_
  refine lv_i2l hx hb d_10_11_4 rfl ?_
  refine lv_topl (fun y1 ey1 => ?_)
  obtain rfl : y1 = 0 := ey1.trans (by decide)
  refine lv_lload_n hx hb d_10_11_5 rfl (lv_at hl 1 rfl) ?_
  refine lv_ladd hx hb d_10_11_6 ?_
  refine lv_topl (fun y2 ey2 => ?_)
  obtain rfl : y2 = -6 := ey2.trans (by decide)
  refine lv_aload_n hx hb d_10_11_7 rfl (lv_at hl 0 rfl) ?_
  refine gget hx hb hts inW_8 hown hK hP 0 rfl rfl hp0 1 rfl (by decide) k_7_230 d_10_11_8 ?_
  refine lv_i2l hx hb d_10_11_11 rfl ?_
  refine lv_topl (fun y3 ey3 => ?_)
  obtain rfl : y3 = 0 := ey3.trans (by decide)
  refine W.lcmp hx hb d_10_11_12 ?_
  refine lv_topi (fun y4 ey4 => ?_)
  obtain rfl : y4 = -1 := ey4.trans (by decide)
  refine lv_if_le (tgt := 28) hx hb d_10_11_13 (by decide) (fun _ => ?_) (fun c => absurd (by decide) c)
  refine lv_aload_n hx hb d_10_11_28 rfl (lv_at hl 0 rfl) ?_
  refine gget hx hb hts inW_8 hown hK hP 0 rfl rfl hp0 0 rfl (by decide) k_7_231 d_10_11_29 ?_
  refine lv_if_ne (tgt := 46) hx hb d_10_11_32 (by decide) (fun _ => ?_) (fun c => absurd c (by decide))
  have hP9 := hP.sub (ws' := [(a0, .inr (8, rg 15 g0))]) [0] rfl
  have hD9 := hD.sub (ws' := [(a0, .inr (8, rg 15 g0))]) [0] (by decide) rfl
  refine W.widen (k := 0) (n := 0) (Nat.le_of_ble_eq_true rfl) (Nat.le_of_ble_eq_true rfl) ?_
  exact W.vret hx hb hr (fun t ht hW => ⟨⟨(), rfl, trivial, by rw [ht]; exact hP9, va_K.moved hW.alike hK, hD9⟩, hS.F ht⟩) hS.2.2 d_10_11_46
abbrev Q_SoundFile_loadHead_0 (D : va_G) (ca : Nat → ClassId) (a0 : Nat) (a3 : Nat) (g0 : Nat → Value) (g3 : Nat → Int32) (A : Nat → Prop) : Array Value → State → Outcome → State → Prop := va_Qv (S := (Nat → Value) × (Nat → Int32)) (fun (u : (Nat → Value) × (Nat → Int32)) => gM g0 u.1 [7] ∧ gF u.1 [(7, .int 2)] ∧ gF u.2 []) (fun u => gB D ca A [(a0, .inr (8, rg 15 u.1)), (a3, .inl (ca 0, 7, .inl u.2))]) A
set_option maxHeartbeats 8000000 in
set_option maxRecDepth 100000 in
theorem c_SoundFile_loadHead_0 (l : Launch) (D : va_G) (ca : Nat → ClassId) (ad av : Nat → Nat) (sz : Nat) (a0 : Nat) (a3 : Nat) (g0 : Nat → Value) (g3 : Nat → Int32) (hp0 : gF g0 [(7, .int 0), (6, .int 0), (5, .int 0), (0, .ref a3)]) (hp3 : gF g3 []) : Met l ({ cls := "StaveHouse$SoundFile", name := "loadHead", desc := "()V" } : Jvm.MethodName) (Cond.code ({ cls := "StaveHouse$SoundFile", name := "loadHead", desc := "()V" } : Jvm.MethodName) prog_10_method_12_code 5 (Option.none : Option Jvm.ClassFile.FieldType) :: wAll) ({ frames := 4, cells := 0, slots := 0, locals := 94 } : Room) (va_Pc [.ref a0] (gPre D ca ad av [(a0, .inr (8, rg 15 g0)), (a3, .inl (ca 0, 7, .inl g3))] sz)) (Q_SoundFile_loadHead_0 D ca a0 a3 g0 g3 (va_A [(a0, .inr (8, rg 15 g0)), (a3, .inl (ca 0, 7, .inl g3))] sz)) 0 0 (va_A [(a0, .inr (8, rg 15 g0)), (a3, .inl (ca 0, 7, .inl g3))] sz) := by
  refine gMet (Qc := Q_SoundFile_loadHead_0 D ca a0 a3 g0 g3) (lv := [(0, .ref a0)]) (by decide) (Nat.le_of_ble_eq_true rfl) rfl (fun A p e s m below meth c ls hx hb hr hml hown hts hlk hnm hl hP hK hD hS hA hX => ?_)
  have hown : s.vm.findClass "StaveHouse$SoundFile" = some m.cls := hown
  have hnm : meth.name = "loadHead" := hnm
  refine va_ldcS hx hb hown (hX.2.2.2.2.1 0 _ rfl).1 d_10_12_0 ?_
  refine lv_astore_n (lv' := [(1, .ref (ad 0)), (0, .ref a0)]) hx hb d_10_12_2 rfl hl (by decide) rfl (fun ls hl => ?_)
  refine lv_iconst (v := 0) hx hb d_10_12_3 (by decide) ?_
  refine lv_istore_n (lv' := [(2, .int 0), (1, .ref (ad 0)), (0, .ref a0)]) hx hb d_10_12_4 rfl hl (by decide) rfl (fun ls hl => ?_)
  refine lv_iload_n hx hb d_10_12_5 rfl (lv_at hl 0 rfl) ?_
  refine lv_aload_n hx hb d_10_12_6 rfl (lv_at hl 1 rfl) ?_
  have hFc1 := va_free (wc := []) hD hS hA [] rfl
  refine va_calli (va_runV (As := []) (rest := [.int 0]) ⟨hx, hb, hml, hown, hts⟩ (c_String_length_12 l D ca ad av s.heap.size  ) (cwV 0 hts (gdV k_8_43 k_3_82 k_3_83 k_1_11 k_3_84) rfl rfl rfl (by decide +kernel) ⟨Nat.le_of_ble_eq_true rfl, Nat.le_of_ble_eq_true rfl⟩) ⟨gBlind, vk_recv (i := 0) (hX.2.2.2.2.1 0 _ rfl).2 (by decide) hS, gAt hP hD hK hS hA hX [] (by decide) rfl [.ref (ad 0)]⟩ rfl rfl hl.1 rfl (lv_room (Nat.le_of_ble_eq_true rfl)) d_10_12_7 ⟨Nat.le_of_ble_eq_true rfl, Nat.le_of_ble_eq_true rfl⟩) hS (fun q _ h => hFc1 q h) hFc1 (fun r1 u1 t1 H1 locs1 ht1 hvm1 hw1 hB1 hz1 hk1 hS1 => ?_)
  have hr1 := hw1
  obtain ⟨hP1, hD1⟩ := gJoin (wr := [(a0, .inr (8, rg 15 g0)), (a3, .inl (ca 0, 7, .inl g3))]) (w1 := []) hP hD [] [0, 1] rfl rfl (by decide) (by decide) hk1 hFc1 ht1 hB1
  have hP1 : va_P D cls [(a0, .inr (8, rg 15 g0)), (a3, .inl (ca 0, 7, .inl g3))] H1 := hP1
  have hD1 : va_D A [(a0, .inr (8, rg 15 g0)), (a3, .inl (ca 0, 7, .inl g3))] := hD1
  refine W.widen (k := 0) (n := 0) (Nat.le_of_ble_eq_true rfl) (Nat.le_of_ble_eq_true rfl) ?_
  subst hr1
  refine lv_icmp_ge (tgt := 33) hx hb d_10_12_10 (by decide) (fun c => absurd c (by decide)) (fun _ => ?_)
  refine lv_aload_n hx hb d_10_12_13 rfl (lv_at hl 2 rfl) ?_
  refine lv_aload_n hx hb d_10_12_14 rfl (lv_at hl 1 rfl) ?_
  refine lv_iload_n hx hb d_10_12_15 rfl (lv_at hl 0 rfl) ?_
  have hFc2 := va_free (wc := []) hD1 hS1 hA [] rfl
  refine va_calli (va_runV (As := [.int 0]) (rest := [.ref a0]) ⟨hx, hb, hml, hown, hts⟩ (c_String_charAt_35 l D ca ad av H1.size  ) (cwV 1 hts (gdV k_8_44 k_7_134 k_7_135 k_1_11 k_7_136) rfl rfl rfl (by decide +kernel) ⟨Nat.le_of_ble_eq_true rfl, Nat.le_of_ble_eq_true rfl⟩) ⟨gBlind, vk_recv (i := 0) (hX.2.2.2.2.1 0 _ rfl).2 (by decide) hS1, gAt hP1 hD1 hK hS1 hA hX [] (by decide) rfl [.ref (ad 0), .int 0]⟩ rfl rfl hl.1 rfl (lv_room (Nat.le_of_ble_eq_true rfl)) d_10_12_16 ⟨Nat.le_of_ble_eq_true rfl, Nat.le_of_ble_eq_true rfl⟩) hS1 (fun q _ h => hFc2 q h) hFc2 (fun r2 u2 t2 H2 locs2 ht2 hvm2 hw2 hB2 hz2 hk2 hS2 => ?_)
  have hr2 := hw2
  obtain ⟨hP2, hD2⟩ := gJoin (wr := [(a0, .inr (8, rg 15 g0)), (a3, .inl (ca 0, 7, .inl g3))]) (w1 := []) hP1 hD1 [] [0, 1] rfl rfl (by decide) (by decide) hk2 hFc2 ht2 hB2
  have hP2 : va_P D cls [(a0, .inr (8, rg 15 g0)), (a3, .inl (ca 0, 7, .inl g3))] H2 := hP2
  have hD2 : va_D A [(a0, .inr (8, rg 15 g0)), (a3, .inl (ca 0, 7, .inl g3))] := hD2
  refine W.widen (k := 0) (n := 0) (Nat.le_of_ble_eq_true rfl) (Nat.le_of_ble_eq_true rfl) ?_
  subst hr2
  refine lv_aload_n hx hb d_10_12_19 rfl (lv_at hl 1 rfl) ?_
  refine lv_iload_n hx hb d_10_12_20 rfl (lv_at hl 0 rfl) ?_
  have hFc3 := va_free (wc := []) hD2 hS2 hA [] rfl
  refine va_calli (va_runV (As := [.int 0]) (rest := [.int 77, .ref a0]) ⟨hx, hb, hml, hown, hts⟩ (c_String_charAt_35 l D ca ad av H2.size  ) (cwV 1 hts (gdV k_8_44 k_7_134 k_7_135 k_1_11 k_7_136) rfl rfl rfl (by decide +kernel) ⟨Nat.le_of_ble_eq_true rfl, Nat.le_of_ble_eq_true rfl⟩) ⟨gBlind, vk_recv (i := 0) (hX.2.2.2.2.1 0 _ rfl).2 (by decide) hS2, gAt hP2 hD2 hK hS2 hA hX [] (by decide) rfl [.ref (ad 0), .int 0]⟩ rfl rfl hl.1 rfl (lv_room (Nat.le_of_ble_eq_true rfl)) d_10_12_21 ⟨Nat.le_of_ble_eq_true rfl, Nat.le_of_ble_eq_true rfl⟩) hS2 (fun q _ h => hFc3 q h) hFc3 (fun r3 u3 t3 H3 locs3 ht3 hvm3 hw3 hB3 hz3 hk3 hS3 => ?_)
  have hr3 := hw3
  obtain ⟨hP3, hD3⟩ := gJoin (wr := [(a0, .inr (8, rg 15 g0)), (a3, .inl (ca 0, 7, .inl g3))]) (w1 := []) hP2 hD2 [] [0, 1] rfl rfl (by decide) (by decide) hk3 hFc3 ht3 hB3
  have hP3 : va_P D cls [(a0, .inr (8, rg 15 g0)), (a3, .inl (ca 0, 7, .inl g3))] H3 := hP3
  have hD3 : va_D A [(a0, .inr (8, rg 15 g0)), (a3, .inl (ca 0, 7, .inl g3))] := hD3
  refine W.widen (k := 0) (n := 0) (Nat.le_of_ble_eq_true rfl) (Nat.le_of_ble_eq_true rfl) ?_
  subst hr3
  have hFc4 := va_free (wc := [(a0, .inr (8, rg 15 g0))]) hD3 hS3 hA [0] rfl
  refine va_callv (va_runV (As := [.int 77, .int 77]) (rest := []) ⟨hx, hb, hml, hown, hts⟩ (c_SoundFile_takeOnly_0 l D ca ad av H3.size a0 g0 (hp0.sub [0, 1, 2] rfl)) (cwV 2 hts (gdV k_8_45 k_8_47 ks_94 k_1_23 k_8_48) rfl rfl rfl (by decide +kernel) ⟨Nat.le_of_ble_eq_true rfl, Nat.le_of_ble_eq_true rfl⟩) (gPV hP3 hD3 hK hS3 hA hX [0] (by decide) rfl a0 [.int 77, .int 77] 0 (ci := 8) (r := (RX8, TX8, 15)) rfl rfl) rfl rfl hl.1 rfl (lv_room (Nat.le_of_ble_eq_true rfl)) d_10_12_24 ⟨Nat.le_of_ble_eq_true rfl, Nat.le_of_ble_eq_true rfl⟩) hS3 (fun q _ h => hFc4 q h) hFc4 (fun x4_0 t4 H4 locs4 ht4 hvm4 hw4 hB4 hz4 hk4 hS4 => ?_)
  obtain ⟨hw4_0, hw4_1⟩ := hw4
  obtain ⟨hP4, hD4⟩ := gJoin (wr := [(a3, .inl (ca 0, 7, .inl g3))]) (w1 := [(a0, .inr (8, rg 15 x4_0))]) hP3 hD3 [0] [1] rfl rfl (by decide) (by decide) hk4 hFc4 ht4 hB4
  have hF4_0 : gF x4_0 [(7, .int 2), (6, .int 0), (5, .int 0), (0, .ref a3)] := gF.upd hp0 hw4_0 hw4_1 rfl
  have hM4_0 := gM.tr (gM.rf (f := g0)) hw4_0
  have hP4 : va_P D cls [(a3, .inl (ca 0, 7, .inl g3)), (a0, .inr (8, rg 15 x4_0))] H4 := hP4
  have hD4 : va_D A [(a3, .inl (ca 0, 7, .inl g3)), (a0, .inr (8, rg 15 x4_0))] := hD4
  refine W.widen (k := 0) (n := 0) (Nat.le_of_ble_eq_true rfl) (Nat.le_of_ble_eq_true rfl) ?_
  refine lv_iinc (v := 1) (lv' := [(2, .int 1), (1, .ref (ad 0)), (0, .ref a0)]) hx hb d_10_12_27 hl (k := 0) rfl (by decide) (by decide) rfl (fun ls hl => ?_)
  refine lv_goto (tgt := 5) hx hb d_10_12_30 (by decide) ?_
  refine lv_iload_n hx hb d_10_12_5 rfl (lv_at hl 0 rfl) ?_
  refine lv_aload_n hx hb d_10_12_6 rfl (lv_at hl 1 rfl) ?_
  have hFc5 := va_free (wc := []) hD4 hS4 hA [] rfl
  refine va_calli (va_runV (As := []) (rest := [.int 1]) ⟨hx, hb, hml, hown, hts⟩ (c_String_length_12 l D ca ad av H4.size  ) (cwV 0 hts (gdV k_8_43 k_3_82 k_3_83 k_1_11 k_3_84) rfl rfl rfl (by decide +kernel) ⟨Nat.le_of_ble_eq_true rfl, Nat.le_of_ble_eq_true rfl⟩) ⟨gBlind, vk_recv (i := 0) (hX.2.2.2.2.1 0 _ rfl).2 (by decide) hS4, gAt hP4 hD4 hK hS4 hA hX [] (by decide) rfl [.ref (ad 0)]⟩ rfl rfl hl.1 rfl (lv_room (Nat.le_of_ble_eq_true rfl)) d_10_12_7 ⟨Nat.le_of_ble_eq_true rfl, Nat.le_of_ble_eq_true rfl⟩) hS4 (fun q _ h => hFc5 q h) hFc5 (fun r5 u5 t5 H5 locs5 ht5 hvm5 hw5 hB5 hz5 hk5 hS5 => ?_)
  have hr5 := hw5
  obtain ⟨hP5, hD5⟩ := gJoin (wr := [(a3, .inl (ca 0, 7, .inl g3)), (a0, .inr (8, rg 15 x4_0))]) (w1 := []) hP4 hD4 [] [0, 1] rfl rfl (by decide) (by decide) hk5 hFc5 ht5 hB5
  have hP5 : va_P D cls [(a3, .inl (ca 0, 7, .inl g3)), (a0, .inr (8, rg 15 x4_0))] H5 := hP5
  have hD5 : va_D A [(a3, .inl (ca 0, 7, .inl g3)), (a0, .inr (8, rg 15 x4_0))] := hD5
  refine W.widen (k := 0) (n := 0) (Nat.le_of_ble_eq_true rfl) (Nat.le_of_ble_eq_true rfl) ?_
  subst hr5
  refine lv_icmp_ge (tgt := 33) hx hb d_10_12_10 (by decide) (fun c => absurd c (by decide)) (fun _ => ?_)
  refine lv_aload_n hx hb d_10_12_13 rfl (lv_at hl 2 rfl) ?_
  refine lv_aload_n hx hb d_10_12_14 rfl (lv_at hl 1 rfl) ?_
  refine lv_iload_n hx hb d_10_12_15 rfl (lv_at hl 0 rfl) ?_
  have hFc6 := va_free (wc := []) hD5 hS5 hA [] rfl
  refine va_calli (va_runV (As := [.int 1]) (rest := [.ref a0]) ⟨hx, hb, hml, hown, hts⟩ (c_String_charAt_36 l D ca ad av H5.size  ) (cwV 1 hts (gdV k_8_44 k_7_134 k_7_135 k_1_11 k_7_136) rfl rfl rfl (by decide +kernel) ⟨Nat.le_of_ble_eq_true rfl, Nat.le_of_ble_eq_true rfl⟩) ⟨gBlind, vk_recv (i := 0) (hX.2.2.2.2.1 0 _ rfl).2 (by decide) hS5, gAt hP5 hD5 hK hS5 hA hX [] (by decide) rfl [.ref (ad 0), .int 1]⟩ rfl rfl hl.1 rfl (lv_room (Nat.le_of_ble_eq_true rfl)) d_10_12_16 ⟨Nat.le_of_ble_eq_true rfl, Nat.le_of_ble_eq_true rfl⟩) hS5 (fun q _ h => hFc6 q h) hFc6 (fun r6 u6 t6 H6 locs6 ht6 hvm6 hw6 hB6 hz6 hk6 hS6 => ?_)
  have hr6 := hw6
  obtain ⟨hP6, hD6⟩ := gJoin (wr := [(a3, .inl (ca 0, 7, .inl g3)), (a0, .inr (8, rg 15 x4_0))]) (w1 := []) hP5 hD5 [] [0, 1] rfl rfl (by decide) (by decide) hk6 hFc6 ht6 hB6
  have hP6 : va_P D cls [(a3, .inl (ca 0, 7, .inl g3)), (a0, .inr (8, rg 15 x4_0))] H6 := hP6
  have hD6 : va_D A [(a3, .inl (ca 0, 7, .inl g3)), (a0, .inr (8, rg 15 x4_0))] := hD6
  refine W.widen (k := 0) (n := 0) (Nat.le_of_ble_eq_true rfl) (Nat.le_of_ble_eq_true rfl) ?_
  subst hr6
  refine lv_aload_n hx hb d_10_12_19 rfl (lv_at hl 1 rfl) ?_
  refine lv_iload_n hx hb d_10_12_20 rfl (lv_at hl 0 rfl) ?_
  have hFc7 := va_free (wc := []) hD6 hS6 hA [] rfl
  refine va_calli (va_runV (As := [.int 1]) (rest := [.int 84, .ref a0]) ⟨hx, hb, hml, hown, hts⟩ (c_String_charAt_36 l D ca ad av H6.size  ) (cwV 1 hts (gdV k_8_44 k_7_134 k_7_135 k_1_11 k_7_136) rfl rfl rfl (by decide +kernel) ⟨Nat.le_of_ble_eq_true rfl, Nat.le_of_ble_eq_true rfl⟩) ⟨gBlind, vk_recv (i := 0) (hX.2.2.2.2.1 0 _ rfl).2 (by decide) hS6, gAt hP6 hD6 hK hS6 hA hX [] (by decide) rfl [.ref (ad 0), .int 1]⟩ rfl rfl hl.1 rfl (lv_room (Nat.le_of_ble_eq_true rfl)) d_10_12_21 ⟨Nat.le_of_ble_eq_true rfl, Nat.le_of_ble_eq_true rfl⟩) hS6 (fun q _ h => hFc7 q h) hFc7 (fun r7 u7 t7 H7 locs7 ht7 hvm7 hw7 hB7 hz7 hk7 hS7 => ?_)
  have hr7 := hw7
  obtain ⟨hP7, hD7⟩ := gJoin (wr := [(a3, .inl (ca 0, 7, .inl g3)), (a0, .inr (8, rg 15 x4_0))]) (w1 := []) hP6 hD6 [] [0, 1] rfl rfl (by decide) (by decide) hk7 hFc7 ht7 hB7
  have hP7 : va_P D cls [(a3, .inl (ca 0, 7, .inl g3)), (a0, .inr (8, rg 15 x4_0))] H7 := hP7
  have hD7 : va_D A [(a3, .inl (ca 0, 7, .inl g3)), (a0, .inr (8, rg 15 x4_0))] := hD7
  refine W.widen (k := 0) (n := 0) (Nat.le_of_ble_eq_true rfl) (Nat.le_of_ble_eq_true rfl) ?_
  subst hr7
  have hFc8 := va_free (wc := [(a0, .inr (8, rg 15 x4_0))]) hD7 hS7 hA [1] rfl
  refine va_callv (va_runV (As := [.int 84, .int 84]) (rest := []) ⟨hx, hb, hml, hown, hts⟩ (c_SoundFile_takeOnly_1 l D ca ad av H7.size a0 x4_0 (hF4_0.sub [0, 1, 2] rfl)) (cwV 2 hts (gdV k_8_45 k_8_47 ks_94 k_1_23 k_8_48) rfl rfl rfl (by decide +kernel) ⟨Nat.le_of_ble_eq_true rfl, Nat.le_of_ble_eq_true rfl⟩) (gPV hP7 hD7 hK hS7 hA hX [1] (by decide) rfl a0 [.int 84, .int 84] 1 (ci := 8) (r := (RX8, TX8, 15)) rfl rfl) rfl rfl hl.1 rfl (lv_room (Nat.le_of_ble_eq_true rfl)) d_10_12_24 ⟨Nat.le_of_ble_eq_true rfl, Nat.le_of_ble_eq_true rfl⟩) hS7 (fun q _ h => hFc8 q h) hFc8 (fun u8 t8 H8 locs8 ht8 hvm8 hw8 hB8 hz8 hk8 hS8 => ?_)
  obtain ⟨hP8, hD8⟩ := gJoin (wr := [(a3, .inl (ca 0, 7, .inl g3))]) (w1 := [(a0, .inr (8, rg 15 x4_0))]) hP7 hD7 [1] [0] rfl rfl (by decide) (by decide) hk8 hFc8 ht8 hB8
  have hP8 : va_P D cls [(a3, .inl (ca 0, 7, .inl g3)), (a0, .inr (8, rg 15 x4_0))] H8 := hP8
  have hD8 : va_D A [(a3, .inl (ca 0, 7, .inl g3)), (a0, .inr (8, rg 15 x4_0))] := hD8
  refine W.widen (k := 0) (n := 0) (Nat.le_of_ble_eq_true rfl) (Nat.le_of_ble_eq_true rfl) ?_
  refine lv_iinc (v := 2) (lv' := [(2, .int 2), (1, .ref (ad 0)), (0, .ref a0)]) hx hb d_10_12_27 hl (k := 0) rfl (by decide) (by decide) rfl (fun ls hl => ?_)
  refine lv_goto (tgt := 5) hx hb d_10_12_30 (by decide) ?_
  refine lv_iload_n hx hb d_10_12_5 rfl (lv_at hl 0 rfl) ?_
  refine lv_aload_n hx hb d_10_12_6 rfl (lv_at hl 1 rfl) ?_
  have hFc9 := va_free (wc := []) hD8 hS8 hA [] rfl
  refine va_calli (va_runV (As := []) (rest := [.int 2]) ⟨hx, hb, hml, hown, hts⟩ (c_String_length_12 l D ca ad av H8.size  ) (cwV 0 hts (gdV k_8_43 k_3_82 k_3_83 k_1_11 k_3_84) rfl rfl rfl (by decide +kernel) ⟨Nat.le_of_ble_eq_true rfl, Nat.le_of_ble_eq_true rfl⟩) ⟨gBlind, vk_recv (i := 0) (hX.2.2.2.2.1 0 _ rfl).2 (by decide) hS8, gAt hP8 hD8 hK hS8 hA hX [] (by decide) rfl [.ref (ad 0)]⟩ rfl rfl hl.1 rfl (lv_room (Nat.le_of_ble_eq_true rfl)) d_10_12_7 ⟨Nat.le_of_ble_eq_true rfl, Nat.le_of_ble_eq_true rfl⟩) hS8 (fun q _ h => hFc9 q h) hFc9 (fun r9 u9 t9 H9 locs9 ht9 hvm9 hw9 hB9 hz9 hk9 hS9 => ?_)
  have hr9 := hw9
  obtain ⟨hP9, hD9⟩ := gJoin (wr := [(a3, .inl (ca 0, 7, .inl g3)), (a0, .inr (8, rg 15 x4_0))]) (w1 := []) hP8 hD8 [] [0, 1] rfl rfl (by decide) (by decide) hk9 hFc9 ht9 hB9
  have hP9 : va_P D cls [(a3, .inl (ca 0, 7, .inl g3)), (a0, .inr (8, rg 15 x4_0))] H9 := hP9
  have hD9 : va_D A [(a3, .inl (ca 0, 7, .inl g3)), (a0, .inr (8, rg 15 x4_0))] := hD9
  refine W.widen (k := 0) (n := 0) (Nat.le_of_ble_eq_true rfl) (Nat.le_of_ble_eq_true rfl) ?_
  subst hr9
  refine lv_icmp_ge (tgt := 33) hx hb d_10_12_10 (by decide) (fun c => absurd c (by decide)) (fun _ => ?_)
  refine lv_aload_n hx hb d_10_12_13 rfl (lv_at hl 2 rfl) ?_
  refine lv_aload_n hx hb d_10_12_14 rfl (lv_at hl 1 rfl) ?_
  refine lv_iload_n hx hb d_10_12_15 rfl (lv_at hl 0 rfl) ?_
  have hFc10 := va_free (wc := []) hD9 hS9 hA [] rfl
  refine va_calli (va_runV (As := [.int 2]) (rest := [.ref a0]) ⟨hx, hb, hml, hown, hts⟩ (c_String_charAt_37 l D ca ad av H9.size  ) (cwV 1 hts (gdV k_8_44 k_7_134 k_7_135 k_1_11 k_7_136) rfl rfl rfl (by decide +kernel) ⟨Nat.le_of_ble_eq_true rfl, Nat.le_of_ble_eq_true rfl⟩) ⟨gBlind, vk_recv (i := 0) (hX.2.2.2.2.1 0 _ rfl).2 (by decide) hS9, gAt hP9 hD9 hK hS9 hA hX [] (by decide) rfl [.ref (ad 0), .int 2]⟩ rfl rfl hl.1 rfl (lv_room (Nat.le_of_ble_eq_true rfl)) d_10_12_16 ⟨Nat.le_of_ble_eq_true rfl, Nat.le_of_ble_eq_true rfl⟩) hS9 (fun q _ h => hFc10 q h) hFc10 (fun r10 u10 t10 H10 locs10 ht10 hvm10 hw10 hB10 hz10 hk10 hS10 => ?_)
  have hr10 := hw10
  obtain ⟨hP10, hD10⟩ := gJoin (wr := [(a3, .inl (ca 0, 7, .inl g3)), (a0, .inr (8, rg 15 x4_0))]) (w1 := []) hP9 hD9 [] [0, 1] rfl rfl (by decide) (by decide) hk10 hFc10 ht10 hB10
  have hP10 : va_P D cls [(a3, .inl (ca 0, 7, .inl g3)), (a0, .inr (8, rg 15 x4_0))] H10 := hP10
  have hD10 : va_D A [(a3, .inl (ca 0, 7, .inl g3)), (a0, .inr (8, rg 15 x4_0))] := hD10
  refine W.widen (k := 0) (n := 0) (Nat.le_of_ble_eq_true rfl) (Nat.le_of_ble_eq_true rfl) ?_
  subst hr10
  refine lv_aload_n hx hb d_10_12_19 rfl (lv_at hl 1 rfl) ?_
  refine lv_iload_n hx hb d_10_12_20 rfl (lv_at hl 0 rfl) ?_
  have hFc11 := va_free (wc := []) hD10 hS10 hA [] rfl
  refine va_calli (va_runV (As := [.int 2]) (rest := [.int 104, .ref a0]) ⟨hx, hb, hml, hown, hts⟩ (c_String_charAt_37 l D ca ad av H10.size  ) (cwV 1 hts (gdV k_8_44 k_7_134 k_7_135 k_1_11 k_7_136) rfl rfl rfl (by decide +kernel) ⟨Nat.le_of_ble_eq_true rfl, Nat.le_of_ble_eq_true rfl⟩) ⟨gBlind, vk_recv (i := 0) (hX.2.2.2.2.1 0 _ rfl).2 (by decide) hS10, gAt hP10 hD10 hK hS10 hA hX [] (by decide) rfl [.ref (ad 0), .int 2]⟩ rfl rfl hl.1 rfl (lv_room (Nat.le_of_ble_eq_true rfl)) d_10_12_21 ⟨Nat.le_of_ble_eq_true rfl, Nat.le_of_ble_eq_true rfl⟩) hS10 (fun q _ h => hFc11 q h) hFc11 (fun r11 u11 t11 H11 locs11 ht11 hvm11 hw11 hB11 hz11 hk11 hS11 => ?_)
  have hr11 := hw11
  obtain ⟨hP11, hD11⟩ := gJoin (wr := [(a3, .inl (ca 0, 7, .inl g3)), (a0, .inr (8, rg 15 x4_0))]) (w1 := []) hP10 hD10 [] [0, 1] rfl rfl (by decide) (by decide) hk11 hFc11 ht11 hB11
  have hP11 : va_P D cls [(a3, .inl (ca 0, 7, .inl g3)), (a0, .inr (8, rg 15 x4_0))] H11 := hP11
  have hD11 : va_D A [(a3, .inl (ca 0, 7, .inl g3)), (a0, .inr (8, rg 15 x4_0))] := hD11
  refine W.widen (k := 0) (n := 0) (Nat.le_of_ble_eq_true rfl) (Nat.le_of_ble_eq_true rfl) ?_
  subst hr11
  have hFc12 := va_free (wc := [(a0, .inr (8, rg 15 x4_0))]) hD11 hS11 hA [1] rfl
  refine va_callv (va_runV (As := [.int 104, .int 104]) (rest := []) ⟨hx, hb, hml, hown, hts⟩ (c_SoundFile_takeOnly_2 l D ca ad av H11.size a0 x4_0 (hF4_0.sub [0, 1, 2] rfl)) (cwV 2 hts (gdV k_8_45 k_8_47 ks_94 k_1_23 k_8_48) rfl rfl rfl (by decide +kernel) ⟨Nat.le_of_ble_eq_true rfl, Nat.le_of_ble_eq_true rfl⟩) (gPV hP11 hD11 hK hS11 hA hX [1] (by decide) rfl a0 [.int 104, .int 104] 1 (ci := 8) (r := (RX8, TX8, 15)) rfl rfl) rfl rfl hl.1 rfl (lv_room (Nat.le_of_ble_eq_true rfl)) d_10_12_24 ⟨Nat.le_of_ble_eq_true rfl, Nat.le_of_ble_eq_true rfl⟩) hS11 (fun q _ h => hFc12 q h) hFc12 (fun u12 t12 H12 locs12 ht12 hvm12 hw12 hB12 hz12 hk12 hS12 => ?_)
  obtain ⟨hP12, hD12⟩ := gJoin (wr := [(a3, .inl (ca 0, 7, .inl g3))]) (w1 := [(a0, .inr (8, rg 15 x4_0))]) hP11 hD11 [1] [0] rfl rfl (by decide) (by decide) hk12 hFc12 ht12 hB12
  have hP12 : va_P D cls [(a3, .inl (ca 0, 7, .inl g3)), (a0, .inr (8, rg 15 x4_0))] H12 := hP12
  have hD12 : va_D A [(a3, .inl (ca 0, 7, .inl g3)), (a0, .inr (8, rg 15 x4_0))] := hD12
  refine W.widen (k := 0) (n := 0) (Nat.le_of_ble_eq_true rfl) (Nat.le_of_ble_eq_true rfl) ?_
  refine lv_iinc (v := 3) (lv' := [(2, .int 3), (1, .ref (ad 0)), (0, .ref a0)]) hx hb d_10_12_27 hl (k := 0) rfl (by decide) (by decide) rfl (fun ls hl => ?_)
  refine lv_goto (tgt := 5) hx hb d_10_12_30 (by decide) ?_
  refine lv_iload_n hx hb d_10_12_5 rfl (lv_at hl 0 rfl) ?_
  refine lv_aload_n hx hb d_10_12_6 rfl (lv_at hl 1 rfl) ?_
  have hFc13 := va_free (wc := []) hD12 hS12 hA [] rfl
  refine va_calli (va_runV (As := []) (rest := [.int 3]) ⟨hx, hb, hml, hown, hts⟩ (c_String_length_12 l D ca ad av H12.size  ) (cwV 0 hts (gdV k_8_43 k_3_82 k_3_83 k_1_11 k_3_84) rfl rfl rfl (by decide +kernel) ⟨Nat.le_of_ble_eq_true rfl, Nat.le_of_ble_eq_true rfl⟩) ⟨gBlind, vk_recv (i := 0) (hX.2.2.2.2.1 0 _ rfl).2 (by decide) hS12, gAt hP12 hD12 hK hS12 hA hX [] (by decide) rfl [.ref (ad 0)]⟩ rfl rfl hl.1 rfl (lv_room (Nat.le_of_ble_eq_true rfl)) d_10_12_7 ⟨Nat.le_of_ble_eq_true rfl, Nat.le_of_ble_eq_true rfl⟩) hS12 (fun q _ h => hFc13 q h) hFc13 (fun r13 u13 t13 H13 locs13 ht13 hvm13 hw13 hB13 hz13 hk13 hS13 => ?_)
  have hr13 := hw13
  obtain ⟨hP13, hD13⟩ := gJoin (wr := [(a3, .inl (ca 0, 7, .inl g3)), (a0, .inr (8, rg 15 x4_0))]) (w1 := []) hP12 hD12 [] [0, 1] rfl rfl (by decide) (by decide) hk13 hFc13 ht13 hB13
  have hP13 : va_P D cls [(a3, .inl (ca 0, 7, .inl g3)), (a0, .inr (8, rg 15 x4_0))] H13 := hP13
  have hD13 : va_D A [(a3, .inl (ca 0, 7, .inl g3)), (a0, .inr (8, rg 15 x4_0))] := hD13
  refine W.widen (k := 0) (n := 0) (Nat.le_of_ble_eq_true rfl) (Nat.le_of_ble_eq_true rfl) ?_
  subst hr13
  refine lv_icmp_ge (tgt := 33) hx hb d_10_12_10 (by decide) (fun c => absurd c (by decide)) (fun _ => ?_)
  refine lv_aload_n hx hb d_10_12_13 rfl (lv_at hl 2 rfl) ?_
  refine lv_aload_n hx hb d_10_12_14 rfl (lv_at hl 1 rfl) ?_
  refine lv_iload_n hx hb d_10_12_15 rfl (lv_at hl 0 rfl) ?_
  have hFc14 := va_free (wc := []) hD13 hS13 hA [] rfl
  refine va_calli (va_runV (As := [.int 3]) (rest := [.ref a0]) ⟨hx, hb, hml, hown, hts⟩ (c_String_charAt_38 l D ca ad av H13.size  ) (cwV 1 hts (gdV k_8_44 k_7_134 k_7_135 k_1_11 k_7_136) rfl rfl rfl (by decide +kernel) ⟨Nat.le_of_ble_eq_true rfl, Nat.le_of_ble_eq_true rfl⟩) ⟨gBlind, vk_recv (i := 0) (hX.2.2.2.2.1 0 _ rfl).2 (by decide) hS13, gAt hP13 hD13 hK hS13 hA hX [] (by decide) rfl [.ref (ad 0), .int 3]⟩ rfl rfl hl.1 rfl (lv_room (Nat.le_of_ble_eq_true rfl)) d_10_12_16 ⟨Nat.le_of_ble_eq_true rfl, Nat.le_of_ble_eq_true rfl⟩) hS13 (fun q _ h => hFc14 q h) hFc14 (fun r14 u14 t14 H14 locs14 ht14 hvm14 hw14 hB14 hz14 hk14 hS14 => ?_)
  have hr14 := hw14
  obtain ⟨hP14, hD14⟩ := gJoin (wr := [(a3, .inl (ca 0, 7, .inl g3)), (a0, .inr (8, rg 15 x4_0))]) (w1 := []) hP13 hD13 [] [0, 1] rfl rfl (by decide) (by decide) hk14 hFc14 ht14 hB14
  have hP14 : va_P D cls [(a3, .inl (ca 0, 7, .inl g3)), (a0, .inr (8, rg 15 x4_0))] H14 := hP14
  have hD14 : va_D A [(a3, .inl (ca 0, 7, .inl g3)), (a0, .inr (8, rg 15 x4_0))] := hD14
  refine W.widen (k := 0) (n := 0) (Nat.le_of_ble_eq_true rfl) (Nat.le_of_ble_eq_true rfl) ?_
  subst hr14
  refine lv_aload_n hx hb d_10_12_19 rfl (lv_at hl 1 rfl) ?_
  refine lv_iload_n hx hb d_10_12_20 rfl (lv_at hl 0 rfl) ?_
  have hFc15 := va_free (wc := []) hD14 hS14 hA [] rfl
  refine va_calli (va_runV (As := [.int 3]) (rest := [.int 100, .ref a0]) ⟨hx, hb, hml, hown, hts⟩ (c_String_charAt_38 l D ca ad av H14.size  ) (cwV 1 hts (gdV k_8_44 k_7_134 k_7_135 k_1_11 k_7_136) rfl rfl rfl (by decide +kernel) ⟨Nat.le_of_ble_eq_true rfl, Nat.le_of_ble_eq_true rfl⟩) ⟨gBlind, vk_recv (i := 0) (hX.2.2.2.2.1 0 _ rfl).2 (by decide) hS14, gAt hP14 hD14 hK hS14 hA hX [] (by decide) rfl [.ref (ad 0), .int 3]⟩ rfl rfl hl.1 rfl (lv_room (Nat.le_of_ble_eq_true rfl)) d_10_12_21 ⟨Nat.le_of_ble_eq_true rfl, Nat.le_of_ble_eq_true rfl⟩) hS14 (fun q _ h => hFc15 q h) hFc15 (fun r15 u15 t15 H15 locs15 ht15 hvm15 hw15 hB15 hz15 hk15 hS15 => ?_)
  have hr15 := hw15
  obtain ⟨hP15, hD15⟩ := gJoin (wr := [(a3, .inl (ca 0, 7, .inl g3)), (a0, .inr (8, rg 15 x4_0))]) (w1 := []) hP14 hD14 [] [0, 1] rfl rfl (by decide) (by decide) hk15 hFc15 ht15 hB15
  have hP15 : va_P D cls [(a3, .inl (ca 0, 7, .inl g3)), (a0, .inr (8, rg 15 x4_0))] H15 := hP15
  have hD15 : va_D A [(a3, .inl (ca 0, 7, .inl g3)), (a0, .inr (8, rg 15 x4_0))] := hD15
  refine W.widen (k := 0) (n := 0) (Nat.le_of_ble_eq_true rfl) (Nat.le_of_ble_eq_true rfl) ?_
  subst hr15
  have hFc16 := va_free (wc := [(a0, .inr (8, rg 15 x4_0))]) hD15 hS15 hA [1] rfl
  refine va_callv (va_runV (As := [.int 100, .int 100]) (rest := []) ⟨hx, hb, hml, hown, hts⟩ (c_SoundFile_takeOnly_3 l D ca ad av H15.size a0 x4_0 (hF4_0.sub [0, 1, 2] rfl)) (cwV 2 hts (gdV k_8_45 k_8_47 ks_94 k_1_23 k_8_48) rfl rfl rfl (by decide +kernel) ⟨Nat.le_of_ble_eq_true rfl, Nat.le_of_ble_eq_true rfl⟩) (gPV hP15 hD15 hK hS15 hA hX [1] (by decide) rfl a0 [.int 100, .int 100] 1 (ci := 8) (r := (RX8, TX8, 15)) rfl rfl) rfl rfl hl.1 rfl (lv_room (Nat.le_of_ble_eq_true rfl)) d_10_12_24 ⟨Nat.le_of_ble_eq_true rfl, Nat.le_of_ble_eq_true rfl⟩) hS15 (fun q _ h => hFc16 q h) hFc16 (fun u16 t16 H16 locs16 ht16 hvm16 hw16 hB16 hz16 hk16 hS16 => ?_)
  obtain ⟨hP16, hD16⟩ := gJoin (wr := [(a3, .inl (ca 0, 7, .inl g3))]) (w1 := [(a0, .inr (8, rg 15 x4_0))]) hP15 hD15 [1] [0] rfl rfl (by decide) (by decide) hk16 hFc16 ht16 hB16
  have hP16 : va_P D cls [(a3, .inl (ca 0, 7, .inl g3)), (a0, .inr (8, rg 15 x4_0))] H16 := hP16
  have hD16 : va_D A [(a3, .inl (ca 0, 7, .inl g3)), (a0, .inr (8, rg 15 x4_0))] := hD16
  refine W.widen (k := 0) (n := 0) (Nat.le_of_ble_eq_true rfl) (Nat.le_of_ble_eq_true rfl) ?_
  refine lv_iinc (v := 4) (lv' := [(2, .int 4), (1, .ref (ad 0)), (0, .ref a0)]) hx hb d_10_12_27 hl (k := 0) rfl (by decide) (by decide) rfl (fun ls hl => ?_)
  refine lv_goto (tgt := 5) hx hb d_10_12_30 (by decide) ?_
  refine lv_iload_n hx hb d_10_12_5 rfl (lv_at hl 0 rfl) ?_
  refine lv_aload_n hx hb d_10_12_6 rfl (lv_at hl 1 rfl) ?_
  have hFc17 := va_free (wc := []) hD16 hS16 hA [] rfl
  refine va_calli (va_runV (As := []) (rest := [.int 4]) ⟨hx, hb, hml, hown, hts⟩ (c_String_length_12 l D ca ad av H16.size  ) (cwV 0 hts (gdV k_8_43 k_3_82 k_3_83 k_1_11 k_3_84) rfl rfl rfl (by decide +kernel) ⟨Nat.le_of_ble_eq_true rfl, Nat.le_of_ble_eq_true rfl⟩) ⟨gBlind, vk_recv (i := 0) (hX.2.2.2.2.1 0 _ rfl).2 (by decide) hS16, gAt hP16 hD16 hK hS16 hA hX [] (by decide) rfl [.ref (ad 0)]⟩ rfl rfl hl.1 rfl (lv_room (Nat.le_of_ble_eq_true rfl)) d_10_12_7 ⟨Nat.le_of_ble_eq_true rfl, Nat.le_of_ble_eq_true rfl⟩) hS16 (fun q _ h => hFc17 q h) hFc17 (fun r17 u17 t17 H17 locs17 ht17 hvm17 hw17 hB17 hz17 hk17 hS17 => ?_)
  have hr17 := hw17
  obtain ⟨hP17, hD17⟩ := gJoin (wr := [(a3, .inl (ca 0, 7, .inl g3)), (a0, .inr (8, rg 15 x4_0))]) (w1 := []) hP16 hD16 [] [0, 1] rfl rfl (by decide) (by decide) hk17 hFc17 ht17 hB17
  have hP17 : va_P D cls [(a3, .inl (ca 0, 7, .inl g3)), (a0, .inr (8, rg 15 x4_0))] H17 := hP17
  have hD17 : va_D A [(a3, .inl (ca 0, 7, .inl g3)), (a0, .inr (8, rg 15 x4_0))] := hD17
  refine W.widen (k := 0) (n := 0) (Nat.le_of_ble_eq_true rfl) (Nat.le_of_ble_eq_true rfl) ?_
  subst hr17
  refine lv_icmp_ge (tgt := 33) hx hb d_10_12_10 (by decide) (fun _ => ?_) (fun c => absurd (by decide) c)
  refine lv_aload_n hx hb d_10_12_33 rfl (lv_at hl 2 rfl) ?_
  refine gget hx hb hts inW_8 hown hK hP17 1 rfl rfl hF4_0 2 rfl (by decide) k_7_229 d_10_12_34 ?_
  refine lv_istore_n (lv' := [(2, .int 0), (1, .ref (ad 0)), (0, .ref a0)]) hx hb d_10_12_37 rfl hl (by decide) rfl (fun ls hl => ?_)
  refine lv_aload_n hx hb d_10_12_38 rfl (lv_at hl 2 rfl) ?_
  refine lv_iconst (v := 4) hx hb d_10_12_39 (by decide) ?_
  have hFc18 := va_free (wc := [(a0, .inr (8, rg 15 x4_0))]) hD17 hS17 hA [1] rfl
  refine va_calll (va_runV (As := [.int 4]) (rest := []) ⟨hx, hb, hml, hown, hts⟩ (c_SoundFile_takeWide_0 l D ca ad av H17.size a0 x4_0 (hF4_0.sub [0, 1, 2] rfl)) (cwV 1 hts (gdV k_8_58 k_8_60 ks_97 k_1_23 k_8_61) rfl rfl rfl (by decide +kernel) ⟨Nat.le_of_ble_eq_true rfl, Nat.le_of_ble_eq_true rfl⟩) (gPV hP17 hD17 hK hS17 hA hX [1] (by decide) rfl a0 [.int 4] 1 (ci := 8) (r := (RX8, TX8, 15)) rfl rfl) rfl rfl hl.1 rfl (lv_room (Nat.le_of_ble_eq_true rfl)) d_10_12_40 ⟨Nat.le_of_ble_eq_true rfl, Nat.le_of_ble_eq_true rfl⟩) hS17 (fun q _ h => hFc18 q h) hFc18 (fun r18 u18 t18 H18 locs18 ht18 hvm18 hw18 hB18 hz18 hk18 hS18 => ?_)
  have hr18 := hw18
  obtain ⟨hP18, hD18⟩ := gJoin (wr := [(a3, .inl (ca 0, 7, .inl g3))]) (w1 := [(a0, .inr (8, rg 15 x4_0))]) hP17 hD17 [1] [0] rfl rfl (by decide) (by decide) hk18 hFc18 ht18 hB18
  have hP18 : va_P D cls [(a3, .inl (ca 0, 7, .inl g3)), (a0, .inr (8, rg 15 x4_0))] H18 := hP18
  have hD18 : va_D A [(a3, .inl (ca 0, 7, .inl g3)), (a0, .inr (8, rg 15 x4_0))] := hD18
  refine W.widen (k := 0) (n := 0) (Nat.le_of_ble_eq_true rfl) (Nat.le_of_ble_eq_true rfl) ?_
  subst hr18
  refine lv_lstore_n (lv' := [(3, .long 0), (2, .int 0), (1, .ref (ad 0)), (0, .ref a0)]) hx hb d_10_12_43 rfl hl (by decide) rfl (fun ls hl => ?_)
  refine lv_lload_n hx hb d_10_12_44 rfl (lv_at hl 0 rfl) ?_
  refine lv_ldc2 hx hb hown (hts _ k_8_63) d_10_12_45 ?_
  refine W.lcmp hx hb d_10_12_48 ?_
  refine lv_topi (fun y19 ey19 => ?_)
  obtain rfl : y19 = -1 := ey19.trans (by decide)
  refine lv_if_ge (tgt := 58) hx hb d_10_12_49 (by decide) (fun c => absurd c (by decide)) (fun _ => ?_)
  refine lv_aload_n hx hb d_10_12_52 rfl (lv_at hl 3 rfl) ?_
  refine lv_iconst (v := 3) hx hb d_10_12_53 (by decide) ?_
  refine lv_iload_n hx hb d_10_12_54 rfl (lv_at hl 1 rfl) ?_
  have hFc20 := va_free (wc := [(a0, .inr (8, rg 15 x4_0))]) hD18 hS18 hA [1] rfl
  refine va_callv (va_runV (As := [.int 3, .int 0]) (rest := []) ⟨hx, hb, hml, hown, hts⟩ (c_SoundFile_refuse_3 l D ca ad av H18.size a0 x4_0 (hF4_0.sub [0] rfl)) (cwV 2 hts (gdV k_8_53 k_8_55 ks_96 k_1_23 k_8_56) rfl rfl rfl (by decide +kernel) ⟨Nat.le_of_ble_eq_true rfl, Nat.le_of_ble_eq_true rfl⟩) (gPV hP18 hD18 hK hS18 hA hX [1] (by decide) rfl a0 [.int 3, .int 0] 1 (ci := 8) (r := (RX8, TX8, 15)) rfl rfl) rfl rfl hl.1 rfl (lv_room (Nat.le_of_ble_eq_true rfl)) d_10_12_55 ⟨Nat.le_of_ble_eq_true rfl, Nat.le_of_ble_eq_true rfl⟩) hS18 (fun q _ h => hFc20 q h) hFc20 (fun u20 t20 H20 locs20 ht20 hvm20 hw20 hB20 hz20 hk20 hS20 => ?_)
  obtain ⟨hP20, hD20⟩ := gJoin (wr := [(a3, .inl (ca 0, 7, .inl g3))]) (w1 := [(a0, .inr (8, rg 15 x4_0))]) hP18 hD18 [1] [0] rfl rfl (by decide) (by decide) hk20 hFc20 ht20 hB20
  have hP20 : va_P D cls [(a3, .inl (ca 0, 7, .inl g3)), (a0, .inr (8, rg 15 x4_0))] H20 := hP20
  have hD20 : va_D A [(a3, .inl (ca 0, 7, .inl g3)), (a0, .inr (8, rg 15 x4_0))] := hD20
  refine W.widen (k := 0) (n := 0) (Nat.le_of_ble_eq_true rfl) (Nat.le_of_ble_eq_true rfl) ?_
  refine lv_aload_n hx hb d_10_12_58 rfl (lv_at hl 3 rfl) ?_
  refine lv_iconst (v := 0) hx hb d_10_12_59 (by decide) ?_
  refine lv_iconst (v := 0) hx hb d_10_12_60 (by decide) ?_
  have hFc21 := va_free (wc := [(a0, .inr (8, rg 15 x4_0))]) hD20 hS20 hA [1] rfl
  refine va_callv (va_runV (As := [.int 0, .int 0]) (rest := []) ⟨hx, hb, hml, hown, hts⟩ (c_SoundFile_takeOnly_4 l D ca ad av H20.size a0 x4_0 (hF4_0.sub [0, 1, 2] rfl)) (cwV 2 hts (gdV k_8_45 k_8_47 ks_94 k_1_23 k_8_48) rfl rfl rfl (by decide +kernel) ⟨Nat.le_of_ble_eq_true rfl, Nat.le_of_ble_eq_true rfl⟩) (gPV hP20 hD20 hK hS20 hA hX [1] (by decide) rfl a0 [.int 0, .int 0] 1 (ci := 8) (r := (RX8, TX8, 15)) rfl rfl) rfl rfl hl.1 rfl (lv_room (Nat.le_of_ble_eq_true rfl)) d_10_12_61 ⟨Nat.le_of_ble_eq_true rfl, Nat.le_of_ble_eq_true rfl⟩) hS20 (fun q _ h => hFc21 q h) hFc21 (fun u21 t21 H21 locs21 ht21 hvm21 hw21 hB21 hz21 hk21 hS21 => ?_)
  obtain ⟨hP21, hD21⟩ := gJoin (wr := [(a3, .inl (ca 0, 7, .inl g3))]) (w1 := [(a0, .inr (8, rg 15 x4_0))]) hP20 hD20 [1] [0] rfl rfl (by decide) (by decide) hk21 hFc21 ht21 hB21
  have hP21 : va_P D cls [(a3, .inl (ca 0, 7, .inl g3)), (a0, .inr (8, rg 15 x4_0))] H21 := hP21
  have hD21 : va_D A [(a3, .inl (ca 0, 7, .inl g3)), (a0, .inr (8, rg 15 x4_0))] := hD21
  refine W.widen (k := 0) (n := 0) (Nat.le_of_ble_eq_true rfl) (Nat.le_of_ble_eq_true rfl) ?_
  refine lv_aload_n hx hb d_10_12_64 rfl (lv_at hl 3 rfl) ?_
  refine lv_iconst (v := 0) hx hb d_10_12_65 (by decide) ?_
  refine lv_iconst (v := 1) hx hb d_10_12_66 (by decide) ?_
  have hFc22 := va_free (wc := [(a0, .inr (8, rg 15 x4_0))]) hD21 hS21 hA [1] rfl
  refine va_callv (va_runV (As := [.int 0, .int 1]) (rest := []) ⟨hx, hb, hml, hown, hts⟩ (c_SoundFile_takeOnly_5 l D ca ad av H21.size a0 x4_0 (hF4_0.sub [0, 1, 2] rfl)) (cwV 2 hts (gdV k_8_45 k_8_47 ks_94 k_1_23 k_8_48) rfl rfl rfl (by decide +kernel) ⟨Nat.le_of_ble_eq_true rfl, Nat.le_of_ble_eq_true rfl⟩) (gPV hP21 hD21 hK hS21 hA hX [1] (by decide) rfl a0 [.int 0, .int 1] 1 (ci := 8) (r := (RX8, TX8, 15)) rfl rfl) rfl rfl hl.1 rfl (lv_room (Nat.le_of_ble_eq_true rfl)) d_10_12_67 ⟨Nat.le_of_ble_eq_true rfl, Nat.le_of_ble_eq_true rfl⟩) hS21 (fun q _ h => hFc22 q h) hFc22 (fun u22 t22 H22 locs22 ht22 hvm22 hw22 hB22 hz22 hk22 hS22 => ?_)
  obtain ⟨hP22, hD22⟩ := gJoin (wr := [(a3, .inl (ca 0, 7, .inl g3))]) (w1 := [(a0, .inr (8, rg 15 x4_0))]) hP21 hD21 [1] [0] rfl rfl (by decide) (by decide) hk22 hFc22 ht22 hB22
  have hP22 : va_P D cls [(a3, .inl (ca 0, 7, .inl g3)), (a0, .inr (8, rg 15 x4_0))] H22 := hP22
  have hD22 : va_D A [(a3, .inl (ca 0, 7, .inl g3)), (a0, .inr (8, rg 15 x4_0))] := hD22
  refine W.widen (k := 0) (n := 0) (Nat.le_of_ble_eq_true rfl) (Nat.le_of_ble_eq_true rfl) ?_
  refine lv_aload_n hx hb d_10_12_70 rfl (lv_at hl 3 rfl) ?_
  refine gget hx hb hts inW_8 hown hK hP22 1 rfl rfl hF4_0 3 rfl (by decide) k_7_217 d_10_12_71 ?_
  refine lv_iconst (v := 0) hx hb d_10_12_74 (by decide) ?_
  refine lv_aload_n hx hb d_10_12_75 rfl (lv_at hl 3 rfl) ?_
  refine lv_iconst (v := 2) hx hb d_10_12_76 (by decide) ?_
  refine lv_lconst (v := 1) hx hb d_10_12_77 (by decide) ?_
  refine lv_ldc2 hx hb hown (hts _ k_8_64) d_10_12_78 ?_
  have hFc23 := va_free (wc := [(a0, .inr (8, rg 15 x4_0))]) hD22 hS22 hA [1] rfl
  refine va_calli (va_runV (As := [.int 2, .long 1, .long 8]) (rest := [.int 0, .ref a3]) ⟨hx, hb, hml, hown, hts⟩ (c_SoundFile_takeBounded_0 l D ca ad av H22.size a0 x4_0 (hF4_0.sub [0, 1, 2] rfl)) (cwV 3 hts (gdV k_8_65 k_8_67 ks_98 k_1_23 k_8_68) rfl rfl rfl (by decide +kernel) ⟨Nat.le_of_ble_eq_true rfl, Nat.le_of_ble_eq_true rfl⟩) (gPV hP22 hD22 hK hS22 hA hX [1] (by decide) rfl a0 [.int 2, .long 1, .long 8] 1 (ci := 8) (r := (RX8, TX8, 15)) rfl rfl) rfl rfl hl.1 rfl (lv_room (Nat.le_of_ble_eq_true rfl)) d_10_12_81 ⟨Nat.le_of_ble_eq_true rfl, Nat.le_of_ble_eq_true rfl⟩) hS22 (fun q _ h => hFc23 q h) hFc23 (fun r23 u23 t23 H23 locs23 ht23 hvm23 hw23 hB23 hz23 hk23 hS23 => ?_)
  have hr23 := hw23
  obtain ⟨hP23, hD23⟩ := gJoin (wr := [(a3, .inl (ca 0, 7, .inl g3))]) (w1 := [(a0, .inr (8, rg 15 x4_0))]) hP22 hD22 [1] [0] rfl rfl (by decide) (by decide) hk23 hFc23 ht23 hB23
  have hP23 : va_P D cls [(a3, .inl (ca 0, 7, .inl g3)), (a0, .inr (8, rg 15 x4_0))] H23 := hP23
  have hD23 : va_D A [(a3, .inl (ca 0, 7, .inl g3)), (a0, .inr (8, rg 15 x4_0))] := hD23
  refine W.widen (k := 0) (n := 0) (Nat.le_of_ble_eq_true rfl) (Nat.le_of_ble_eq_true rfl) ?_
  subst hr23
  refine gastX hx hb hK hP23 hD23 hS23 0 0 rfl rfl (vinC (by decide)) d_10_12_84 (fun f24 H24 locs24 hP24 hD24 hS24 => ?_)
  have hF24 : gF f24 [] := gF_nil
  have hP24 : va_P D cls [(a3, .inl (ca 0, 7, .inl f24)), (a0, .inr (8, rg 15 x4_0))] H24 := hP24
  have hD24 : va_D A [(a3, .inl (ca 0, 7, .inl f24)), (a0, .inr (8, rg 15 x4_0))] := hD24
  clear hP23 hD23 hS23
  refine lv_aload_n hx hb d_10_12_85 rfl (lv_at hl 3 rfl) ?_
  refine gget hx hb hts inW_8 hown hK hP24 1 rfl rfl hF4_0 3 rfl (by decide) k_7_217 d_10_12_86 ?_
  refine lv_iconst (v := 1) hx hb d_10_12_89 (by decide) ?_
  refine lv_aload_n hx hb d_10_12_90 rfl (lv_at hl 3 rfl) ?_
  refine lv_iconst (v := 2) hx hb d_10_12_91 (by decide) ?_
  refine lv_lconst (v := 1) hx hb d_10_12_92 (by decide) ?_
  refine lv_ldc2 hx hb hown (hts _ k_8_69) d_10_12_93 ?_
  have hFc25 := va_free (wc := [(a0, .inr (8, rg 15 x4_0))]) hD24 hS24 hA [1] rfl
  refine va_calli (va_runV (As := [.int 2, .long 1, .long 960]) (rest := [.int 1, .ref a3]) ⟨hx, hb, hml, hown, hts⟩ (c_SoundFile_takeBounded_1 l D ca ad av H24.size a0 x4_0 (hF4_0.sub [0, 1, 2] rfl)) (cwV 3 hts (gdV k_8_65 k_8_67 ks_98 k_1_23 k_8_68) rfl rfl rfl (by decide +kernel) ⟨Nat.le_of_ble_eq_true rfl, Nat.le_of_ble_eq_true rfl⟩) (gPV hP24 hD24 hK hS24 hA hX [1] (by decide) rfl a0 [.int 2, .long 1, .long 960] 1 (ci := 8) (r := (RX8, TX8, 15)) rfl rfl) rfl rfl hl.1 rfl (lv_room (Nat.le_of_ble_eq_true rfl)) d_10_12_96 ⟨Nat.le_of_ble_eq_true rfl, Nat.le_of_ble_eq_true rfl⟩) hS24 (fun q _ h => hFc25 q h) hFc25 (fun r25 u25 t25 H25 locs25 ht25 hvm25 hw25 hB25 hz25 hk25 hS25 => ?_)
  have hr25 := hw25
  obtain ⟨hP25, hD25⟩ := gJoin (wr := [(a3, .inl (ca 0, 7, .inl f24))]) (w1 := [(a0, .inr (8, rg 15 x4_0))]) hP24 hD24 [1] [0] rfl rfl (by decide) (by decide) hk25 hFc25 ht25 hB25
  have hP25 : va_P D cls [(a3, .inl (ca 0, 7, .inl f24)), (a0, .inr (8, rg 15 x4_0))] H25 := hP25
  have hD25 : va_D A [(a3, .inl (ca 0, 7, .inl f24)), (a0, .inr (8, rg 15 x4_0))] := hD25
  refine W.widen (k := 0) (n := 0) (Nat.le_of_ble_eq_true rfl) (Nat.le_of_ble_eq_true rfl) ?_
  subst hr25
  refine gastX hx hb hK hP25 hD25 hS25 0 0 rfl rfl (vinC (by decide)) d_10_12_99 (fun f26 H26 locs26 hP26 hD26 hS26 => ?_)
  have hF26 : gF f26 [] := gF_nil
  have hP26 : va_P D cls [(a3, .inl (ca 0, 7, .inl f26)), (a0, .inr (8, rg 15 x4_0))] H26 := hP26
  have hD26 : va_D A [(a3, .inl (ca 0, 7, .inl f26)), (a0, .inr (8, rg 15 x4_0))] := hD26
  clear hP25 hD25 hS25 hF24
  refine lv_aload_n hx hb d_10_12_100 rfl (lv_at hl 3 rfl) ?_
  refine lv_lload_n hx hb d_10_12_101 rfl (lv_at hl 0 rfl) ?_
  refine lv_ldc2 hx hb hown (hts _ k_8_63) d_10_12_102 ?_
  refine lv_lsub hx hb d_10_12_105 ?_
  refine lv_topl (fun y27 ey27 => ?_)
  obtain rfl : y27 = -6 := ey27.trans (by decide)
  have hFc28 := va_free (wc := [(a0, .inr (8, rg 15 x4_0))]) hD26 hS26 hA [1] rfl
  refine va_callv (va_runV (As := [.long (-6)]) (rest := []) ⟨hx, hb, hml, hown, hts⟩ (c_SoundFile_skip_0 l D ca ad av H26.size a0 x4_0 (hF4_0.sub [0, 1, 2] rfl)) (cwV 1 hts (gdV k_8_70 k_8_72 ks_99 k_1_23 k_8_73) rfl rfl rfl (by decide +kernel) ⟨Nat.le_of_ble_eq_true rfl, Nat.le_of_ble_eq_true rfl⟩) (gPV hP26 hD26 hK hS26 hA hX [1] (by decide) rfl a0 [.long (-6)] 1 (ci := 8) (r := (RX8, TX8, 15)) rfl rfl) rfl rfl hl.1 rfl (lv_room (Nat.le_of_ble_eq_true rfl)) d_10_12_106 ⟨Nat.le_of_ble_eq_true rfl, Nat.le_of_ble_eq_true rfl⟩) hS26 (fun q _ h => hFc28 q h) hFc28 (fun u28 t28 H28 locs28 ht28 hvm28 hw28 hB28 hz28 hk28 hS28 => ?_)
  obtain ⟨hP28, hD28⟩ := gJoin (wr := [(a3, .inl (ca 0, 7, .inl f26))]) (w1 := [(a0, .inr (8, rg 15 x4_0))]) hP26 hD26 [1] [0] rfl rfl (by decide) (by decide) hk28 hFc28 ht28 hB28
  have hP28 : va_P D cls [(a3, .inl (ca 0, 7, .inl f26)), (a0, .inr (8, rg 15 x4_0))] H28 := hP28
  have hD28 : va_D A [(a3, .inl (ca 0, 7, .inl f26)), (a0, .inr (8, rg 15 x4_0))] := hD28
  refine W.widen (k := 0) (n := 0) (Nat.le_of_ble_eq_true rfl) (Nat.le_of_ble_eq_true rfl) ?_
  have hP9 := hP28.sub (ws' := [(a0, .inr (8, rg 15 x4_0)), (a3, .inl (ca 0, 7, .inl f26))]) [1, 0] rfl
  have hD9 := hD28.sub (ws' := [(a0, .inr (8, rg 15 x4_0)), (a3, .inl (ca 0, 7, .inl f26))]) [1, 0] (by decide) rfl
  refine W.widen (k := 0) (n := 0) (Nat.le_of_ble_eq_true rfl) (Nat.le_of_ble_eq_true rfl) ?_
  exact W.vret hx hb hr (fun t ht hW => ⟨⟨(x4_0, f26), rfl, ⟨hM4_0.mono (by decide), hF4_0.sub [0] rfl, hF26.sub [] rfl⟩, by rw [ht]; exact hP9, va_K.moved hW.alike hK, hD9⟩, hS28.F ht⟩) hS28.2.2 d_10_12_109
abbrev Q_SoundFile_load_0 (D : va_G) (ca : Nat → ClassId) (a0 : Nat) (a1 : Nat) (a2 : Nat) (a3 : Nat) (g0 : Nat → Value) (g1 : Nat → Value) (g2 : Nat → Int32) (g3 : Nat → Int32) (A : Nat → Prop) : Array Value → State → Outcome → State → Prop := va_Qi (S := (Nat → Value) × (Nat → Int32) × (Nat → Int32)) (fun (r : Int32) (u : (Nat → Value) × (Nat → Int32) × (Nat → Int32)) => r = 2 ∧ gM g0 u.1 [8, 7, 14, 13, 12, 2, 6, 5, 4] ∧ gF u.1 [(8, .int 0), (7, .int 2), (2, .int 0), (6, .int 0), (5, .int 0), (4, .ref a1)] ∧ gF u.2.1 [] ∧ gF u.2.2 []) (fun u => gB D ca A [(a0, .inr (8, rg 15 u.1)), (a1, .inr (0, rg 3 g1)), (a2, .inl (ca 0, 8, .inl u.2.1)), (a3, .inl (ca 0, 7, .inl u.2.2))]) A
set_option maxHeartbeats 8000000 in
set_option maxRecDepth 100000 in
theorem c_SoundFile_load_0 (l : Launch) (D : va_G) (ca : Nat → ClassId) (ad av : Nat → Nat) (sz : Nat) (a0 : Nat) (a1 : Nat) (a2 : Nat) (a3 : Nat) (g0 : Nat → Value) (g1 : Nat → Value) (g2 : Nat → Int32) (g3 : Nat → Int32) (hp0 : gF g0 [(3, .ref a2), (0, .ref a3)]) (hp1 : gF g1 [(1, .int 0)]) (hp2 : gF g2 []) (hp3 : gF g3 []) : Met l ({ cls := "StaveHouse$SoundFile", name := "load", desc := "(LStaveHouse$ByteRow;)I" } : Jvm.MethodName) (Cond.code ({ cls := "StaveHouse$SoundFile", name := "load", desc := "(LStaveHouse$ByteRow;)I" } : Jvm.MethodName) prog_10_method_2_code 7 (Option.some Jvm.ClassFile.FieldType.int) :: wAll) ({ frames := 5, cells := 0, slots := 0, locals := 118 } : Room) (va_Pc [.ref a0, .ref a1] (gPre D ca ad av [(a0, .inr (8, rg 15 g0)), (a1, .inr (0, rg 3 g1)), (a2, .inl (ca 0, 8, .inl g2)), (a3, .inl (ca 0, 7, .inl g3))] sz)) (Q_SoundFile_load_0 D ca a0 a1 a2 a3 g0 g1 g2 g3 (va_A [(a0, .inr (8, rg 15 g0)), (a1, .inr (0, rg 3 g1)), (a2, .inl (ca 0, 8, .inl g2)), (a3, .inl (ca 0, 7, .inl g3))] sz)) 0 0 (va_A [(a0, .inr (8, rg 15 g0)), (a1, .inr (0, rg 3 g1)), (a2, .inl (ca 0, 8, .inl g2)), (a3, .inl (ca 0, 7, .inl g3))] sz) := by
  refine gMet (Qc := Q_SoundFile_load_0 D ca a0 a1 a2 a3 g0 g1 g2 g3) (lv := [(0, .ref a0), (1, .ref a1)]) (by decide) (Nat.le_of_ble_eq_true rfl) rfl (fun A p e s m below meth c ls hx hb hr hml hown hts hlk hnm hl hP hK hD hS hA hX => ?_)
  have hown : s.vm.findClass "StaveHouse$SoundFile" = some m.cls := hown
  have hnm : meth.name = "load" := hnm
  refine lv_aload_n hx hb d_10_2_0 rfl (lv_at hl 0 rfl) ?_
  refine lv_aload_n hx hb d_10_2_1 rfl (lv_at hl 1 rfl) ?_
  refine gput hx hb hts inW_8 tyX8 tyX8_ok nmX8 hown hK hP hD hS 0 rfl rfl hp0 4 (by decide) k_7_228 rfl rfl rfl d_10_2_2 (L' := [(4, .ref a1), (3, .ref a2), (0, .ref a3)]) rfl (fun f1 H1 locs1 hF1 hm1 hP1 hD1 hS1 => ?_)
  have hM1 := gM.tr (gM.rf (f := g0)) hm1
  have hP1 : va_P D cls [(a0, .inr (8, rg 15 f1)), (a1, .inr (0, rg 3 g1)), (a2, .inl (ca 0, 8, .inl g2)), (a3, .inl (ca 0, 7, .inl g3))] H1 := hP1
  have hD1 : va_D A [(a0, .inr (8, rg 15 f1)), (a1, .inr (0, rg 3 g1)), (a2, .inl (ca 0, 8, .inl g2)), (a3, .inl (ca 0, 7, .inl g3))] := hD1
  clear hm1
  refine lv_aload_n hx hb d_10_2_5 rfl (lv_at hl 0 rfl) ?_
  refine lv_iconst (v := 0) hx hb d_10_2_6 (by decide) ?_
  refine gput hx hb hts inW_8 tyX8 tyX8_ok nmX8 hown hK hP1 hD1 hS1 0 rfl rfl hF1 5 (by decide) k_7_229 rfl rfl rfl d_10_2_7 (L' := [(5, .int 0), (4, .ref a1), (3, .ref a2), (0, .ref a3)]) rfl (fun f2 H2 locs2 hF2 hm2 hP2 hD2 hS2 => ?_)
  have hM2 := gM.tr hM1 hm2
  have hP2 : va_P D cls [(a0, .inr (8, rg 15 f2)), (a1, .inr (0, rg 3 g1)), (a2, .inl (ca 0, 8, .inl g2)), (a3, .inl (ca 0, 7, .inl g3))] H2 := hP2
  have hD2 : va_D A [(a0, .inr (8, rg 15 f2)), (a1, .inr (0, rg 3 g1)), (a2, .inl (ca 0, 8, .inl g2)), (a3, .inl (ca 0, 7, .inl g3))] := hD2
  clear hP1 hD1 hS1 hF1 hM1 hm2
  refine lv_aload_n hx hb d_10_2_10 rfl (lv_at hl 0 rfl) ?_
  refine lv_aload_n hx hb d_10_2_11 rfl (lv_at hl 1 rfl) ?_
  refine gget hx hb hts inW_0 hown hK hP2 1 rfl rfl hp1 0 rfl (by decide) k_1_43 d_10_2_12 ?_
  refine gput hx hb hts inW_8 tyX8 tyX8_ok nmX8 hown hK hP2 hD2 hS2 0 rfl rfl hF2 6 (by decide) k_7_230 rfl rfl rfl d_10_2_15 (L' := [(6, .int 0), (5, .int 0), (4, .ref a1), (3, .ref a2), (0, .ref a3)]) rfl (fun f3 H3 locs3 hF3 hm3 hP3 hD3 hS3 => ?_)
  have hM3 := gM.tr hM2 hm3
  have hP3 : va_P D cls [(a0, .inr (8, rg 15 f3)), (a1, .inr (0, rg 3 g1)), (a2, .inl (ca 0, 8, .inl g2)), (a3, .inl (ca 0, 7, .inl g3))] H3 := hP3
  have hD3 : va_D A [(a0, .inr (8, rg 15 f3)), (a1, .inr (0, rg 3 g1)), (a2, .inl (ca 0, 8, .inl g2)), (a3, .inl (ca 0, 7, .inl g3))] := hD3
  clear hP2 hD2 hS2 hF2 hM2 hm3
  refine lv_aload_n hx hb d_10_2_18 rfl (lv_at hl 0 rfl) ?_
  refine lv_iconst (v := 0) hx hb d_10_2_19 (by decide) ?_
  refine gput hx hb hts inW_8 tyX8 tyX8_ok nmX8 hown hK hP3 hD3 hS3 0 rfl rfl hF3 7 (by decide) k_7_231 rfl rfl rfl d_10_2_20 (L' := [(7, .int 0), (6, .int 0), (5, .int 0), (4, .ref a1), (3, .ref a2), (0, .ref a3)]) rfl (fun f4 H4 locs4 hF4 hm4 hP4 hD4 hS4 => ?_)
  have hM4 := gM.tr hM3 hm4
  have hP4 : va_P D cls [(a0, .inr (8, rg 15 f4)), (a1, .inr (0, rg 3 g1)), (a2, .inl (ca 0, 8, .inl g2)), (a3, .inl (ca 0, 7, .inl g3))] H4 := hP4
  have hD4 : va_D A [(a0, .inr (8, rg 15 f4)), (a1, .inr (0, rg 3 g1)), (a2, .inl (ca 0, 8, .inl g2)), (a3, .inl (ca 0, 7, .inl g3))] := hD4
  clear hP3 hD3 hS3 hF3 hM3 hm4
  refine lv_aload_n hx hb d_10_2_23 rfl (lv_at hl 0 rfl) ?_
  refine lv_iconst (v := 0) hx hb d_10_2_24 (by decide) ?_
  refine gput hx hb hts inW_8 tyX8 tyX8_ok nmX8 hown hK hP4 hD4 hS4 0 rfl rfl hF4 2 (by decide) k_7_223 rfl rfl rfl d_10_2_25 (L' := [(2, .int 0), (7, .int 0), (6, .int 0), (5, .int 0), (4, .ref a1), (3, .ref a2), (0, .ref a3)]) rfl (fun f5 H5 locs5 hF5 hm5 hP5 hD5 hS5 => ?_)
  have hM5 := gM.tr hM4 hm5
  have hP5 : va_P D cls [(a0, .inr (8, rg 15 f5)), (a1, .inr (0, rg 3 g1)), (a2, .inl (ca 0, 8, .inl g2)), (a3, .inl (ca 0, 7, .inl g3))] H5 := hP5
  have hD5 : va_D A [(a0, .inr (8, rg 15 f5)), (a1, .inr (0, rg 3 g1)), (a2, .inl (ca 0, 8, .inl g2)), (a3, .inl (ca 0, 7, .inl g3))] := hD5
  clear hP4 hD4 hS4 hF4 hM4 hm5
  refine lv_aload_n hx hb d_10_2_28 rfl (lv_at hl 0 rfl) ?_
  have hFc6 := va_free (wc := [(a0, .inr (8, rg 15 f5)), (a2, .inl (ca 0, 8, .inl g2)), (a3, .inl (ca 0, 7, .inl g3))]) hD5 hS5 hA [0, 2, 3] rfl
  refine va_callv (va_runV (As := []) (rest := []) ⟨hx, hb, hml, hown, hts⟩ (c_SoundFile_setDefaults_0 l D ca ad av H5.size a0 a2 a3 f5 g2 g3 (hF5.sub [5, 6] rfl) (hp2.sub [] rfl) (hp3.sub [] rfl)) (cwV 0 hts (gdV k_8_34 k_8_36 ks_92 k_1_23 k_8_37) rfl rfl rfl (by decide +kernel) ⟨Nat.le_of_ble_eq_true rfl, Nat.le_of_ble_eq_true rfl⟩) (gPV hP5 hD5 hK hS5 hA hX [0, 2, 3] (by decide) rfl a0 [] 0 (ci := 8) (r := (RX8, TX8, 15)) rfl rfl) rfl rfl hl.1 rfl (lv_room (Nat.le_of_ble_eq_true rfl)) d_10_2_29 ⟨Nat.le_of_ble_eq_true rfl, Nat.le_of_ble_eq_true rfl⟩) hS5 (fun q _ h => hFc6 q h) hFc6 (fun u6 t6 H6 locs6 ht6 hvm6 hw6 hB6 hz6 hk6 hS6 => ?_)
  obtain ⟨x6_0, x6_1, x6_2⟩ := u6
  try dsimp only at hw6 hB6
  obtain ⟨hw6_0, hw6_1, hw6_2, hw6_3⟩ := hw6
  obtain ⟨hP6, hD6⟩ := gJoin (wr := [(a1, .inr (0, rg 3 g1))]) (w1 := [(a0, .inr (8, rg 15 x6_0)), (a2, .inl (ca 0, 8, .inl x6_1)), (a3, .inl (ca 0, 7, .inl x6_2))]) hP5 hD5 [0, 2, 3] [1] rfl rfl (by decide) (by decide) hk6 hFc6 ht6 hB6
  have hF6_0 : gF x6_0 [(2, .int 0), (7, .int 0), (6, .int 0), (5, .int 0), (4, .ref a1), (3, .ref a2), (0, .ref a3)] := gF.upd hF5 hw6_0 hw6_1 rfl
  have hM6_0 := gM.tr hM5 hw6_0
  have hP6 : va_P D cls [(a1, .inr (0, rg 3 g1)), (a0, .inr (8, rg 15 x6_0)), (a2, .inl (ca 0, 8, .inl x6_1)), (a3, .inl (ca 0, 7, .inl x6_2))] H6 := hP6
  have hD6 : va_D A [(a1, .inr (0, rg 3 g1)), (a0, .inr (8, rg 15 x6_0)), (a2, .inl (ca 0, 8, .inl x6_1)), (a3, .inl (ca 0, 7, .inl x6_2))] := hD6
  refine W.widen (k := 0) (n := 0) (Nat.le_of_ble_eq_true rfl) (Nat.le_of_ble_eq_true rfl) ?_
  refine lv_aload_n hx hb d_10_2_32 rfl (lv_at hl 0 rfl) ?_
  have hFc7 := va_free (wc := [(a0, .inr (8, rg 15 x6_0)), (a3, .inl (ca 0, 7, .inl x6_2))]) hD6 hS6 hA [1, 3] rfl
  refine va_callv (va_runV (As := []) (rest := []) ⟨hx, hb, hml, hown, hts⟩ (c_SoundFile_loadHead_0 l D ca ad av H6.size a0 a3 x6_0 x6_2 (hF6_0.sub [1, 2, 3, 6] rfl) (hw6_3.sub [] rfl)) (cwV 0 hts (gdV k_8_38 k_8_40 ks_93 k_1_23 k_8_41) rfl rfl rfl (by decide +kernel) ⟨Nat.le_of_ble_eq_true rfl, Nat.le_of_ble_eq_true rfl⟩) (gPV hP6 hD6 hK hS6 hA hX [1, 3] (by decide) rfl a0 [] 1 (ci := 8) (r := (RX8, TX8, 15)) rfl rfl) rfl rfl hl.1 rfl (lv_room (Nat.le_of_ble_eq_true rfl)) d_10_2_33 ⟨Nat.le_of_ble_eq_true rfl, Nat.le_of_ble_eq_true rfl⟩) hS6 (fun q _ h => hFc7 q h) hFc7 (fun u7 t7 H7 locs7 ht7 hvm7 hw7 hB7 hz7 hk7 hS7 => ?_)
  obtain ⟨x7_0, x7_1⟩ := u7
  try dsimp only at hw7 hB7
  obtain ⟨hw7_0, hw7_1, hw7_2⟩ := hw7
  obtain ⟨hP7, hD7⟩ := gJoin (wr := [(a1, .inr (0, rg 3 g1)), (a2, .inl (ca 0, 8, .inl x6_1))]) (w1 := [(a0, .inr (8, rg 15 x7_0)), (a3, .inl (ca 0, 7, .inl x7_1))]) hP6 hD6 [1, 3] [0, 2] rfl rfl (by decide) (by decide) hk7 hFc7 ht7 hB7
  have hF7_0 : gF x7_0 [(7, .int 2), (2, .int 0), (6, .int 0), (5, .int 0), (4, .ref a1), (3, .ref a2), (0, .ref a3)] := gF.upd hF6_0 hw7_0 hw7_1 rfl
  have hM7_0 := gM.tr hM6_0 hw7_0
  have hP7 : va_P D cls [(a1, .inr (0, rg 3 g1)), (a2, .inl (ca 0, 8, .inl x6_1)), (a0, .inr (8, rg 15 x7_0)), (a3, .inl (ca 0, 7, .inl x7_1))] H7 := hP7
  have hD7 : va_D A [(a1, .inr (0, rg 3 g1)), (a2, .inl (ca 0, 8, .inl x6_1)), (a0, .inr (8, rg 15 x7_0)), (a3, .inl (ca 0, 7, .inl x7_1))] := hD7
  refine W.widen (k := 0) (n := 0) (Nat.le_of_ble_eq_true rfl) (Nat.le_of_ble_eq_true rfl) ?_
  refine lv_aload_n hx hb d_10_2_36 rfl (lv_at hl 0 rfl) ?_
  refine lv_iconst (v := 0) hx hb d_10_2_37 (by decide) ?_
  refine gput hx hb hts inW_8 tyX8 tyX8_ok nmX8 hown hK hP7 hD7 hS7 2 rfl rfl hF7_0 8 (by decide) k_7_232 rfl rfl rfl d_10_2_38 (L' := [(8, .int 0), (7, .int 2), (2, .int 0), (6, .int 0), (5, .int 0), (4, .ref a1), (3, .ref a2), (0, .ref a3)]) rfl (fun f8 H8 locs8 hF8 hm8 hP8 hD8 hS8 => ?_)
  have hM8 := gM.tr hM7_0 hm8
  have hP8 : va_P D cls [(a1, .inr (0, rg 3 g1)), (a2, .inl (ca 0, 8, .inl x6_1)), (a0, .inr (8, rg 15 f8)), (a3, .inl (ca 0, 7, .inl x7_1))] H8 := hP8
  have hD8 : va_D A [(a1, .inr (0, rg 3 g1)), (a2, .inl (ca 0, 8, .inl x6_1)), (a0, .inr (8, rg 15 f8)), (a3, .inl (ca 0, 7, .inl x7_1))] := hD8
  clear hP7 hD7 hS7 hF7_0 hM7_0 hm8
  refine lv_iconst (v := 0) hx hb d_10_2_41 (by decide) ?_
  refine lv_istore_n (lv' := [(2, .int 0), (0, .ref a0), (1, .ref a1)]) hx hb d_10_2_42 rfl hl (by decide) rfl (fun ls hl => ?_)
  refine lv_iload_n hx hb d_10_2_43 rfl (lv_at hl 0 rfl) ?_
  refine lv_sipush (v := 3000) hx hb d_10_2_44 (by decide) ?_
  refine lv_icmp_ge (tgt := 169) hx hb d_10_2_47 (by decide) (fun c => absurd c (by decide)) (fun _ => ?_)
  refine lv_aload_n hx hb d_10_2_50 rfl (lv_at hl 1 rfl) ?_
  refine gget hx hb hts inW_8 hown hK hP8 2 rfl rfl hF8 1 rfl (by decide) k_7_231 d_10_2_51 ?_
  refine lv_if_ne (tgt := 169) hx hb d_10_2_54 (by decide) (fun _ => ?_) (fun c => absurd c (by decide))
  refine lv_aload_n hx hb d_10_2_169 rfl (lv_at hl 1 rfl) ?_
  refine gget hx hb hts inW_8 hown hK hP8 2 rfl rfl hF8 1 rfl (by decide) k_7_231 d_10_2_170 ?_
  have hP9 := hP8.sub (ws' := [(a0, .inr (8, rg 15 f8)), (a1, .inr (0, rg 3 g1)), (a2, .inl (ca 0, 8, .inl x6_1)), (a3, .inl (ca 0, 7, .inl x7_1))]) [2, 0, 1, 3] rfl
  have hD9 := hD8.sub (ws' := [(a0, .inr (8, rg 15 f8)), (a1, .inr (0, rg 3 g1)), (a2, .inl (ca 0, 8, .inl x6_1)), (a3, .inl (ca 0, 7, .inl x7_1))]) [2, 0, 1, 3] (by decide) rfl
  refine W.widen (k := 0) (n := 0) (Nat.le_of_ble_eq_true rfl) (Nat.le_of_ble_eq_true rfl) ?_
  exact W.iret (v := 2) hx hb hr (fun t ht hW => ⟨⟨2, (f8, x6_1, x7_1), rfl, ⟨rfl, hM8.mono (by decide), hF8.sub [0, 1, 2, 3, 4, 5] rfl, hw6_2.sub [] rfl, hw7_2.sub [] rfl⟩, by rw [ht]; exact hP9, va_K.moved hW.alike hK, hD9⟩, hS8.F ht⟩) hS8.2.2 d_10_2_173
abbrev Q_S_open_0 (D : va_G) (ca : Nat → ClassId) (a0 : Nat) (a5 : Nat) (g0 : Nat → Value) (g5 : Nat → Value) (A : Nat → Prop) : Array Value → State → Outcome → State → Prop := va_Qi (S := (Nat → Value) × (Nat → Value) × (Nat) × (Nat → Value) × (Nat) × (Nat → Int32) × (Nat) × (Nat → Int32)) (fun (r : Int32) (u : (Nat → Value) × (Nat → Value) × (Nat) × (Nat → Value) × (Nat) × (Nat → Int32) × (Nat) × (Nat → Int32)) => r = 2 ∧ gM g0 u.1 [9] ∧ gF u.1 [(9, .ref u.2.2.1)] ∧ gM g5 u.2.1 [2, 1] ∧ gF u.2.1 [(2, .int 0), (1, .int 0)] ∧ gF u.2.2.2.1 [(8, .int 0), (7, .int 2), (2, .int 0), (6, .int 0), (5, .int 0), (4, .ref a5), (3, .ref u.2.2.2.2.1), (0, .ref u.2.2.2.2.2.2.1)] ∧ gF u.2.2.2.2.2.1 [] ∧ gF u.2.2.2.2.2.2.2 []) (fun u => gB D ca A [(a0, .inr (12, rg 10 u.1)), (a5, .inr (0, rg 3 u.2.1)), (u.2.2.1, .inr (8, rg 15 u.2.2.2.1)), (u.2.2.2.2.1, .inl (ca 0, 8, .inl u.2.2.2.2.2.1)), (u.2.2.2.2.2.2.1, .inl (ca 0, 7, .inl u.2.2.2.2.2.2.2))]) A
set_option maxHeartbeats 8000000 in
set_option maxRecDepth 100000 in
theorem c_S_open_0 (l : Launch) (D : va_G) (ca : Nat → ClassId) (ad av : Nat → Nat) (sz : Nat) (a0 : Nat) (a5 : Nat) (g0 : Nat → Value) (g5 : Nat → Value) (hp0 : gF g0 [(0, .ref a5), (9, .null)]) (hp5 : gF g5 [(1, .int 0)]) : Met l ({ cls := "StaveHouse", name := "open", desc := "()I" } : Jvm.MethodName) (Cond.code ({ cls := "StaveHouse", name := "open", desc := "()I" } : Jvm.MethodName) prog_1_method_24_code 3 (Option.some Jvm.ClassFile.FieldType.int) :: wAll) ({ frames := 6, cells := 10, slots := 2436, locals := 144 } : Room) (va_Pc [.ref a0] (gPre D ca ad av [(a0, .inr (12, rg 10 g0)), (a5, .inr (0, rg 3 g5))] sz)) (Q_S_open_0 D ca a0 a5 g0 g5 (va_A [(a0, .inr (12, rg 10 g0)), (a5, .inr (0, rg 3 g5))] sz)) 10 2436 (va_A [(a0, .inr (12, rg 10 g0)), (a5, .inr (0, rg 3 g5))] sz) := by
  refine gMet (Qc := Q_S_open_0 D ca a0 a5 g0 g5) (lv := [(0, .ref a0)]) (by decide) (Nat.le_of_ble_eq_true rfl) rfl (fun A p e s m below meth c ls hx hb hr hml hown hts hlk hnm hl hP hK hD hS hA hX => ?_)
  have hown : s.vm.findClass "StaveHouse" = some m.cls := hown
  have hnm : meth.name = "open" := hnm
  refine lv_aload_n hx hb d_1_24_0 rfl (lv_at hl 0 rfl) ?_
  refine gget hx hb hts inW_12 hown hK hP 0 rfl rfl hp0 1 rfl (by decide) k_2_136 d_1_24_1 ?_
  refine lv_ifnonnullN hx hb d_1_24_4 ?_
  refine lv_aload_n hx hb d_1_24_7 rfl (lv_at hl 0 rfl) ?_
  refine gnew (L := [(0, .null), (2, .int 0), (3, .null), (4, .null), (5, .int 0), (6, .int 0), (7, .int 0), (8, .int 0)]) (C := RX8) (T := TX8) (N := 15) (ci := 8) hx hb hts inW_8 tyX8 tyX8_ok hown k_7_209 k_7_210 k_1_23 hK hP hD hS hA rfl (Nat.le_of_ble_eq_true rfl) (Nat.le_of_ble_eq_true rfl) d_1_24_8 (gF_cons rfl (gF_cons rfl (gF_cons rfl (gF_cons rfl (gF_cons rfl (gF_cons rfl (gF_cons rfl (gF_cons rfl (gF_nil))))))))) (fun f1 q1 H1 hF1 hP1 hD1 hS1 => ?_)
  have hP1 : va_P D cls [(a0, .inr (12, rg 10 g0)), (a5, .inr (0, rg 3 g5)), (q1, .inr (8, rg 15 f1))] H1 := hP1
  have hD1 : va_D A [(a0, .inr (12, rg 10 g0)), (a5, .inr (0, rg 3 g5)), (q1, .inr (8, rg 15 f1))] := hD1
  refine W.widen (k := 1) (n := 15) (Nat.le_of_ble_eq_true rfl) (Nat.le_of_ble_eq_true rfl) ?_
  refine lv_dup hx hb d_1_24_11 rfl ?_
  have hFc2 := va_free (wc := [(q1, .inr (8, rg 15 f1))]) hD1 hS1 hA [2] rfl
  refine va_callv (va_runIN (As := []) (rest := [.ref q1, .ref a0]) ⟨hx, hb, hml, hown, hts⟩ (c_SoundFile_init_0 l D ca ad av H1.size q1 f1 (hF1.sub [] rfl)) ⟨va_cnB 0 hts (gdC k_7_213) rfl rfl rfl (hX.1 _ (List.mem_of_getElem? (i := 10) rfl)) (hts _ k_1_23) (by decide +kernel) ⟨Nat.le_of_ble_eq_true rfl, Nat.le_of_ble_eq_true rfl⟩, rfl, hts _ k_7_212⟩ (gPS hP1 hD1 hK hS1 hA hX [2] (by decide) rfl [.ref q1]) rfl rfl hl.1 rfl (lv_room (Nat.le_of_ble_eq_true rfl)) d_1_24_12 ⟨Nat.le_of_ble_eq_true rfl, Nat.le_of_ble_eq_true rfl⟩) hS1 (fun q _ h => hFc2 q h) hFc2 (fun u2 t2 H2 locs2 ht2 hvm2 hw2 hB2 hz2 hk2 hS2 => ?_)
  obtain ⟨x2_0, x2_1, x2_2, x2_3, x2_4⟩ := u2
  try dsimp only at hw2 hB2
  obtain ⟨hw2_0, hw2_1, hw2_2, hw2_3⟩ := hw2
  obtain ⟨hP2, hD2⟩ := gJoin (wr := [(a0, .inr (12, rg 10 g0)), (a5, .inr (0, rg 3 g5))]) (w1 := [(q1, .inr (8, rg 15 x2_0)), (x2_1, .inl (ca 0, 8, .inl x2_2)), (x2_3, .inl (ca 0, 7, .inl x2_4))]) hP1 hD1 [2] [0, 1] rfl rfl (by decide) (by decide) hk2 hFc2 ht2 hB2
  have hF2_0 : gF x2_0 [(3, .ref x2_1), (0, .ref x2_3), (2, .int 0), (4, .null), (5, .int 0), (6, .int 0), (7, .int 0), (8, .int 0)] := gF.upd hF1 hw2_0 hw2_1 rfl
  have hP2 : va_P D cls [(a0, .inr (12, rg 10 g0)), (a5, .inr (0, rg 3 g5)), (q1, .inr (8, rg 15 x2_0)), (x2_1, .inl (ca 0, 8, .inl x2_2)), (x2_3, .inl (ca 0, 7, .inl x2_4))] H2 := hP2
  have hD2 : va_D A [(a0, .inr (12, rg 10 g0)), (a5, .inr (0, rg 3 g5)), (q1, .inr (8, rg 15 x2_0)), (x2_1, .inl (ca 0, 8, .inl x2_2)), (x2_3, .inl (ca 0, 7, .inl x2_4))] := hD2
  refine W.widen (k := 10) (n := 2436) (Nat.le_of_ble_eq_true rfl) (Nat.le_of_ble_eq_true rfl) ?_
  refine gput hx hb hts inW_12 tyX12 tyX12_ok nmX12 hown hK hP2 hD2 hS2 0 rfl rfl hp0 9 (by decide) k_2_136 rfl rfl rfl d_1_24_15 (L' := [(9, .ref q1), (0, .ref a5)]) rfl (fun f3 H3 locs3 hF3 hm3 hP3 hD3 hS3 => ?_)
  have hM3 := gM.tr (gM.rf (f := g0)) hm3
  have hP3 : va_P D cls [(a0, .inr (12, rg 10 f3)), (a5, .inr (0, rg 3 g5)), (q1, .inr (8, rg 15 x2_0)), (x2_1, .inl (ca 0, 8, .inl x2_2)), (x2_3, .inl (ca 0, 7, .inl x2_4))] H3 := hP3
  have hD3 : va_D A [(a0, .inr (12, rg 10 f3)), (a5, .inr (0, rg 3 g5)), (q1, .inr (8, rg 15 x2_0)), (x2_1, .inl (ca 0, 8, .inl x2_2)), (x2_3, .inl (ca 0, 7, .inl x2_4))] := hD3
  clear hP2 hD2 hS2 hm3
  refine lv_aload_n hx hb d_1_24_18 rfl (lv_at hl 0 rfl) ?_
  refine gget hx hb hts inW_12 hown hK hP3 0 rfl rfl hF3 0 rfl (by decide) k_2_136 d_1_24_19 ?_
  refine lv_aload_n hx hb d_1_24_22 rfl (lv_at hl 0 rfl) ?_
  refine gget hx hb hts inW_12 hown hK hP3 0 rfl rfl hF3 1 rfl (by decide) k_2_127 d_1_24_23 ?_
  have hFc4 := va_free (wc := [(q1, .inr (8, rg 15 x2_0)), (a5, .inr (0, rg 3 g5)), (x2_1, .inl (ca 0, 8, .inl x2_2)), (x2_3, .inl (ca 0, 7, .inl x2_4))]) hD3 hS3 hA [2, 1, 3, 4] rfl
  refine va_calli (va_runV (As := [.ref a5]) (rest := []) ⟨hx, hb, hml, hown, hts⟩ (c_SoundFile_load_0 l D ca ad av H3.size q1 a5 x2_1 x2_3 x2_0 g5 x2_2 x2_4 (hF2_0.sub [0, 1] rfl) (hp5.sub [0] rfl) (hw2_2.sub [] rfl) (hw2_3.sub [] rfl)) (cwV 1 hts (gdV k_8_30 k_8_31 k_8_32 k_1_23 k_8_33) rfl rfl rfl (by decide +kernel) ⟨Nat.le_of_ble_eq_true rfl, Nat.le_of_ble_eq_true rfl⟩) (gPV hP3 hD3 hK hS3 hA hX [2, 1, 3, 4] (by decide) rfl q1 [.ref a5] 2 (ci := 8) (r := (RX8, TX8, 15)) rfl rfl) rfl rfl hl.1 rfl (lv_room (Nat.le_of_ble_eq_true rfl)) d_1_24_26 ⟨Nat.le_of_ble_eq_true rfl, Nat.le_of_ble_eq_true rfl⟩) hS3 (fun q _ h => hFc4 q h) hFc4 (fun r4 u4 t4 H4 locs4 ht4 hvm4 hw4 hB4 hz4 hk4 hS4 => ?_)
  obtain ⟨x4_0, x4_1, x4_2⟩ := u4
  try dsimp only at hw4 hB4
  obtain ⟨hr4, hw4_1, hw4_2, hw4_3, hw4_4⟩ := hw4
  obtain ⟨hP4, hD4⟩ := gJoin (wr := [(a0, .inr (12, rg 10 f3))]) (w1 := [(q1, .inr (8, rg 15 x4_0)), (a5, .inr (0, rg 3 g5)), (x2_1, .inl (ca 0, 8, .inl x4_1)), (x2_3, .inl (ca 0, 7, .inl x4_2))]) hP3 hD3 [2, 1, 3, 4] [0] rfl rfl (by decide) (by decide) hk4 hFc4 ht4 hB4
  have hF4_0 : gF x4_0 [(8, .int 0), (7, .int 2), (2, .int 0), (6, .int 0), (5, .int 0), (4, .ref a5), (3, .ref x2_1), (0, .ref x2_3)] := gF.upd hF2_0 hw4_1 hw4_2 rfl
  have hP4 : va_P D cls [(a0, .inr (12, rg 10 f3)), (q1, .inr (8, rg 15 x4_0)), (a5, .inr (0, rg 3 g5)), (x2_1, .inl (ca 0, 8, .inl x4_1)), (x2_3, .inl (ca 0, 7, .inl x4_2))] H4 := hP4
  have hD4 : va_D A [(a0, .inr (12, rg 10 f3)), (q1, .inr (8, rg 15 x4_0)), (a5, .inr (0, rg 3 g5)), (x2_1, .inl (ca 0, 8, .inl x4_1)), (x2_3, .inl (ca 0, 7, .inl x4_2))] := hD4
  refine W.widen (k := 10) (n := 2436) (Nat.le_of_ble_eq_true rfl) (Nat.le_of_ble_eq_true rfl) ?_
  subst hr4
  refine lv_istore_n (lv' := [(1, .int 2), (0, .ref a0)]) hx hb d_1_24_29 rfl hl (by decide) rfl (fun ls hl => ?_)
  refine lv_aload_n hx hb d_1_24_30 rfl (lv_at hl 1 rfl) ?_
  refine gget hx hb hts inW_12 hown hK hP4 0 rfl rfl hF3 1 rfl (by decide) k_2_127 d_1_24_31 ?_
  have hFc5 := va_free (wc := [(a5, .inr (0, rg 3 g5))]) hD4 hS4 hA [2] rfl
  refine va_callv (va_runV (As := []) (rest := []) ⟨hx, hb, hml, hown, hts⟩ (c_ByteRow_clear_0 l D ca ad av H4.size a5 g5 (hp5.sub [] rfl)) (cwV 0 hts (gdV k_5_166 k_5_167 k_5_168 k_1_2 k_5_169) rfl rfl rfl (by decide +kernel) ⟨Nat.le_of_ble_eq_true rfl, Nat.le_of_ble_eq_true rfl⟩) (gPV hP4 hD4 hK hS4 hA hX [2] (by decide) rfl a5 [] 2 (ci := 0) (r := (RX0, TX0, 3)) rfl rfl) rfl rfl hl.1 rfl (lv_room (Nat.le_of_ble_eq_true rfl)) d_1_24_34 ⟨Nat.le_of_ble_eq_true rfl, Nat.le_of_ble_eq_true rfl⟩) hS4 (fun q _ h => hFc5 q h) hFc5 (fun x5_0 t5 H5 locs5 ht5 hvm5 hw5 hB5 hz5 hk5 hS5 => ?_)
  obtain ⟨hw5_0, hw5_1⟩ := hw5
  obtain ⟨hP5, hD5⟩ := gJoin (wr := [(a0, .inr (12, rg 10 f3)), (q1, .inr (8, rg 15 x4_0)), (x2_1, .inl (ca 0, 8, .inl x4_1)), (x2_3, .inl (ca 0, 7, .inl x4_2))]) (w1 := [(a5, .inr (0, rg 3 x5_0))]) hP4 hD4 [2] [0, 1, 3, 4] rfl rfl (by decide) (by decide) hk5 hFc5 ht5 hB5
  have hF5_0 : gF x5_0 [(2, .int 0), (1, .int 0)] := gF.upd hp5 hw5_0 hw5_1 rfl
  have hM5_0 := gM.tr (gM.rf (f := g5)) hw5_0
  have hP5 : va_P D cls [(a0, .inr (12, rg 10 f3)), (q1, .inr (8, rg 15 x4_0)), (x2_1, .inl (ca 0, 8, .inl x4_1)), (x2_3, .inl (ca 0, 7, .inl x4_2)), (a5, .inr (0, rg 3 x5_0))] H5 := hP5
  have hD5 : va_D A [(a0, .inr (12, rg 10 f3)), (q1, .inr (8, rg 15 x4_0)), (x2_1, .inl (ca 0, 8, .inl x4_1)), (x2_3, .inl (ca 0, 7, .inl x4_2)), (a5, .inr (0, rg 3 x5_0))] := hD5
  refine W.widen (k := 10) (n := 2436) (Nat.le_of_ble_eq_true rfl) (Nat.le_of_ble_eq_true rfl) ?_
  refine lv_iload_n hx hb d_1_24_37 rfl (lv_at hl 0 rfl) ?_
  refine lv_if_eq (tgt := 43) hx hb d_1_24_38 (by decide) (fun c => absurd c (by decide)) (fun _ => ?_)
  refine lv_iload_n hx hb d_1_24_41 rfl (lv_at hl 0 rfl) ?_
  have hP9 := hP5.sub (ws' := [(a0, .inr (12, rg 10 f3)), (a5, .inr (0, rg 3 x5_0)), (q1, .inr (8, rg 15 x4_0)), (x2_1, .inl (ca 0, 8, .inl x4_1)), (x2_3, .inl (ca 0, 7, .inl x4_2))]) [0, 4, 1, 2, 3] rfl
  have hD9 := hD5.sub (ws' := [(a0, .inr (12, rg 10 f3)), (a5, .inr (0, rg 3 x5_0)), (q1, .inr (8, rg 15 x4_0)), (x2_1, .inl (ca 0, 8, .inl x4_1)), (x2_3, .inl (ca 0, 7, .inl x4_2))]) [0, 4, 1, 2, 3] (by decide) rfl
  refine W.widen (k := 10) (n := 2436) (Nat.le_of_ble_eq_true rfl) (Nat.le_of_ble_eq_true rfl) ?_
  exact W.iret (v := 2) hx hb hr (fun t ht hW => ⟨⟨2, (f3, x5_0, q1, x4_0, x2_1, x4_1, x2_3, x4_2), rfl, ⟨rfl, hM3.mono (by decide), hF3.sub [0] rfl, hM5_0.mono (by decide), hF5_0.sub [0, 1] rfl, hF4_0.sub [0, 1, 2, 3, 4, 5, 6, 7] rfl, hw4_3.sub [] rfl, hw4_4.sub [] rfl⟩, by rw [ht]; exact hP9, va_K.moved hW.alike hK, hD9⟩, hS5.F ht⟩) hS5.2.2 d_1_24_42
