theorem k_2_19 : (Jvm.Cond.methodLink "StaveHouse$Event" (3 : Nat) ({ cls := "java/lang/Object", name := "<init>", desc := "()V" } : Jvm.MethodName)) ∈ wAll := wA_2 (j := 19) rfl rfl
theorem k_1_30 : (Jvm.Cond.instanceMethod ({ cls := "java/lang/Object", name := "<init>", desc := "()V" } : Jvm.MethodName)) ∈ wAll := wA_1 (j := 30) rfl rfl
theorem k_1_31 : (Jvm.Cond.code ({ cls := "java/lang/Object", name := "<init>", desc := "()V" } : Jvm.MethodName) object_method_1_code (1 : Nat) (Option.none : Option Jvm.ClassFile.FieldType)) ∈ wAll := wA_1 (j := 31) rfl rfl
theorem k_1_57 : (Jvm.Cond.arrayClass Jvm.ClassFile.FieldType.int) ∈ wAll := wA_1 (j := 57) rfl rfl
theorem k_1_71 : (Jvm.Cond.methodLink "StaveHouse$Tokens" (3 : Nat) ({ cls := "java/lang/Object", name := "<init>", desc := "()V" } : Jvm.MethodName)) ∈ wAll := wA_1 (j := 71) rfl rfl
theorem k_1_105 : (Jvm.Cond.arrayClass Jvm.ClassFile.FieldType.long) ∈ wAll := wA_1 (j := 105) rfl rfl
theorem k_1_189 : (Jvm.Cond.methodLink "StaveHouse$Walker" (3 : Nat) ({ cls := "java/lang/Object", name := "<init>", desc := "()V" } : Jvm.MethodName)) ∈ wAll := wA_1 (j := 189) rfl rfl
theorem k_2_182 : (Jvm.Cond.methodLink "StaveHouse$Piece" (3 : Nat) ({ cls := "java/lang/Object", name := "<init>", desc := "()V" } : Jvm.MethodName)) ∈ wAll := wA_2 (j := 182) rfl rfl
theorem k_2_183 : (Jvm.Cond.classLink "StaveHouse$Piece" (9 : Nat) "StaveHouse$Part") ∈ wAll := wA_2 (j := 183) rfl rfl
theorem k_6_214 : (Jvm.Cond.methodLink "StaveHouse$Layout" (3 : Nat) ({ cls := "java/lang/Object", name := "<init>", desc := "()V" } : Jvm.MethodName)) ∈ wAll := wA_6 (j := 214) rfl rfl
theorem k_5_195 : (Jvm.Cond.methodLink "StaveHouse$Study" (3 : Nat) ({ cls := "java/lang/Object", name := "<init>", desc := "()V" } : Jvm.MethodName)) ∈ wAll := wA_5 (j := 195) rfl rfl
theorem k_5_196 : (Jvm.Cond.classLink "StaveHouse$Study" (15 : Nat) "[[I") ∈ wAll := wA_5 (j := 196) rfl rfl
theorem k_2_126 : (Jvm.Cond.arrayClass Jvm.ClassFile.FieldType.boolean) ∈ wAll := wA_2 (j := 126) rfl rfl
theorem k_6_61 : (Jvm.Cond.methodLink "StaveHouse$Performance" (3 : Nat) ({ cls := "java/lang/Object", name := "<init>", desc := "()V" } : Jvm.MethodName)) ∈ wAll := wA_6 (j := 61) rfl rfl
theorem k_6_62 : (Jvm.Cond.classLink "StaveHouse$Performance" (21 : Nat) "[[I") ∈ wAll := wA_6 (j := 62) rfl rfl
theorem k_7_214 : (Jvm.Cond.methodLink "StaveHouse$SoundFile" (3 : Nat) ({ cls := "java/lang/Object", name := "<init>", desc := "()V" } : Jvm.MethodName)) ∈ wAll := wA_7 (j := 214) rfl rfl
theorem k_7_215 : (Jvm.Cond.classLink "StaveHouse$SoundFile" (15 : Nat) "[[J") ∈ wAll := wA_7 (j := 215) rfl rfl
theorem k_2_13 : (Jvm.Cond.methodLink "StaveHouse$Scribe" (3 : Nat) ({ cls := "java/lang/Object", name := "<init>", desc := "()V" } : Jvm.MethodName)) ∈ wAll := wA_2 (j := 13) rfl rfl
theorem k_2_14 : (Jvm.Cond.classLink "StaveHouse$Scribe" (9 : Nat) "StaveHouse$Event") ∈ wAll := wA_2 (j := 14) rfl rfl
theorem k_2_15 : (Jvm.Cond.instantiable "StaveHouse$Event" (14 : Nat)) ∈ wAll := wA_2 (j := 15) rfl rfl
theorem k_2_18 : (Jvm.Cond.code ({ cls := "StaveHouse$Event", name := "<init>", desc := "()V" } : Jvm.MethodName) prog_3_method_1_code (1 : Nat) (Option.none : Option Jvm.ClassFile.FieldType)) ∈ wAll := wA_2 (j := 18) rfl rfl
theorem k_2_17 : (Jvm.Cond.instanceMethod ({ cls := "StaveHouse$Event", name := "<init>", desc := "()V" } : Jvm.MethodName)) ∈ wAll := wA_2 (j := 17) rfl rfl
theorem k_1_65 : (Jvm.Cond.methodLink "StaveHouse$Parser" (3 : Nat) ({ cls := "java/lang/Object", name := "<init>", desc := "()V" } : Jvm.MethodName)) ∈ wAll := wA_1 (j := 65) rfl rfl
theorem k_1_66 : (Jvm.Cond.classLink "StaveHouse$Parser" (45 : Nat) "StaveHouse$Tokens") ∈ wAll := wA_1 (j := 66) rfl rfl
theorem k_1_67 : (Jvm.Cond.instantiable "StaveHouse$Tokens" (9 : Nat)) ∈ wAll := wA_1 (j := 67) rfl rfl
theorem k_1_70 : (Jvm.Cond.code ({ cls := "StaveHouse$Tokens", name := "<init>", desc := "()V" } : Jvm.MethodName) prog_12_method_1_code (1 : Nat) (Option.none : Option Jvm.ClassFile.FieldType)) ∈ wAll := wA_1 (j := 70) rfl rfl
theorem k_1_69 : (Jvm.Cond.instanceMethod ({ cls := "StaveHouse$Tokens", name := "<init>", desc := "()V" } : Jvm.MethodName)) ∈ wAll := wA_1 (j := 69) rfl rfl
theorem W_prog_3_method_1_code_0 : chW prog_3_method_1_code 0 [42, 183, 0, 3, 42, 16, 6, 188, 10, 181, 0, 9, 42, 16, 6, 188, 10, 181, 0, 15, 177] := chW_of (by decide +kernel)
theorem d_3_1_0 : decode prog_3_method_1_code 0 = .ok (.aload_n 0, 1) := D_42 W_prog_3_method_1_code_0 0 rfl rfl
theorem d_3_1_1 : decode prog_3_method_1_code 1 = .ok (.invokespecial 3, 3) := D_183 W_prog_3_method_1_code_0 1 rfl rfl rfl
theorem d_3_1_4 : decode prog_3_method_1_code 4 = .ok (.aload_n 0, 1) := D_42 W_prog_3_method_1_code_0 4 rfl rfl
theorem d_3_1_5 : decode prog_3_method_1_code 5 = .ok (.bipush 6, 2) := D_16 W_prog_3_method_1_code_0 5 rfl rfl rfl
theorem d_3_1_7 : decode prog_3_method_1_code 7 = .ok (.newarray .int, 2) := D_188_10 W_prog_3_method_1_code_0 7 rfl rfl
theorem d_3_1_9 : decode prog_3_method_1_code 9 = .ok (.putfield 9, 3) := D_181 W_prog_3_method_1_code_0 9 rfl rfl rfl
theorem d_3_1_12 : decode prog_3_method_1_code 12 = .ok (.aload_n 0, 1) := D_42 W_prog_3_method_1_code_0 12 rfl rfl
theorem d_3_1_13 : decode prog_3_method_1_code 13 = .ok (.bipush 6, 2) := D_16 W_prog_3_method_1_code_0 13 rfl rfl rfl
theorem d_3_1_15 : decode prog_3_method_1_code 15 = .ok (.newarray .int, 2) := D_188_10 W_prog_3_method_1_code_0 15 rfl rfl
theorem d_3_1_17 : decode prog_3_method_1_code 17 = .ok (.putfield 15, 3) := D_181 W_prog_3_method_1_code_0 17 rfl rfl rfl
theorem d_3_1_20 : decode prog_3_method_1_code 20 = .ok (.return_, 1) := D_177 W_prog_3_method_1_code_0 20 rfl rfl
theorem W_prog_12_method_1_code_0 : chW prog_12_method_1_code 0 [42, 183, 0, 3, 42, 17, 11, 185, 188, 10, 181, 0, 9, 42, 17, 11, 185, 188, 10, 181, 0, 15, 42, 17, 11, 185, 188, 11, 181, 0, 18, 177] := chW_of (by decide +kernel)
theorem d_12_1_0 : decode prog_12_method_1_code 0 = .ok (.aload_n 0, 1) := D_42 W_prog_12_method_1_code_0 0 rfl rfl
theorem d_12_1_1 : decode prog_12_method_1_code 1 = .ok (.invokespecial 3, 3) := D_183 W_prog_12_method_1_code_0 1 rfl rfl rfl
theorem d_12_1_4 : decode prog_12_method_1_code 4 = .ok (.aload_n 0, 1) := D_42 W_prog_12_method_1_code_0 4 rfl rfl
theorem d_12_1_5 : decode prog_12_method_1_code 5 = .ok (.sipush 3001, 3) := D_17 W_prog_12_method_1_code_0 5 rfl rfl rfl
theorem d_12_1_8 : decode prog_12_method_1_code 8 = .ok (.newarray .int, 2) := D_188_10 W_prog_12_method_1_code_0 8 rfl rfl
theorem d_12_1_10 : decode prog_12_method_1_code 10 = .ok (.putfield 9, 3) := D_181 W_prog_12_method_1_code_0 10 rfl rfl rfl
theorem d_12_1_13 : decode prog_12_method_1_code 13 = .ok (.aload_n 0, 1) := D_42 W_prog_12_method_1_code_0 13 rfl rfl
theorem d_12_1_14 : decode prog_12_method_1_code 14 = .ok (.sipush 3001, 3) := D_17 W_prog_12_method_1_code_0 14 rfl rfl rfl
theorem d_12_1_17 : decode prog_12_method_1_code 17 = .ok (.newarray .int, 2) := D_188_10 W_prog_12_method_1_code_0 17 rfl rfl
theorem d_12_1_19 : decode prog_12_method_1_code 19 = .ok (.putfield 15, 3) := D_181 W_prog_12_method_1_code_0 19 rfl rfl rfl
theorem d_12_1_22 : decode prog_12_method_1_code 22 = .ok (.aload_n 0, 1) := D_42 W_prog_12_method_1_code_0 22 rfl rfl
theorem d_12_1_23 : decode prog_12_method_1_code 23 = .ok (.sipush 3001, 3) := D_17 W_prog_12_method_1_code_0 23 rfl rfl rfl
theorem d_12_1_26 : decode prog_12_method_1_code 26 = .ok (.newarray .long, 2) := D_188_11 W_prog_12_method_1_code_0 26 rfl rfl
theorem d_12_1_28 : decode prog_12_method_1_code 28 = .ok (.putfield 18, 3) := D_181 W_prog_12_method_1_code_0 28 rfl rfl rfl
theorem d_12_1_31 : decode prog_12_method_1_code 31 = .ok (.return_, 1) := D_177 W_prog_12_method_1_code_0 31 rfl rfl
theorem W_prog_13_method_1_code_0 : chW prog_13_method_1_code 0 [42, 183, 0, 3, 42, 7, 188, 10, 181, 0, 9, 42, 16, 64, 188, 10, 181, 0, 15, 42, 16, 64, 188, 10, 181, 0, 18, 42, 16, 64, 188, 10, 181, 0, 21, 177] := chW_of (by decide +kernel)
theorem d_13_1_0 : decode prog_13_method_1_code 0 = .ok (.aload_n 0, 1) := D_42 W_prog_13_method_1_code_0 0 rfl rfl
theorem d_13_1_1 : decode prog_13_method_1_code 1 = .ok (.invokespecial 3, 3) := D_183 W_prog_13_method_1_code_0 1 rfl rfl rfl
theorem d_13_1_4 : decode prog_13_method_1_code 4 = .ok (.aload_n 0, 1) := D_42 W_prog_13_method_1_code_0 4 rfl rfl
theorem d_13_1_5 : decode prog_13_method_1_code 5 = .ok (.iconst 4, 1) := D_7 W_prog_13_method_1_code_0 5 rfl rfl
theorem d_13_1_6 : decode prog_13_method_1_code 6 = .ok (.newarray .int, 2) := D_188_10 W_prog_13_method_1_code_0 6 rfl rfl
theorem d_13_1_8 : decode prog_13_method_1_code 8 = .ok (.putfield 9, 3) := D_181 W_prog_13_method_1_code_0 8 rfl rfl rfl
theorem d_13_1_11 : decode prog_13_method_1_code 11 = .ok (.aload_n 0, 1) := D_42 W_prog_13_method_1_code_0 11 rfl rfl
theorem d_13_1_12 : decode prog_13_method_1_code 12 = .ok (.bipush 64, 2) := D_16 W_prog_13_method_1_code_0 12 rfl rfl rfl
theorem d_13_1_14 : decode prog_13_method_1_code 14 = .ok (.newarray .int, 2) := D_188_10 W_prog_13_method_1_code_0 14 rfl rfl
theorem d_13_1_16 : decode prog_13_method_1_code 16 = .ok (.putfield 15, 3) := D_181 W_prog_13_method_1_code_0 16 rfl rfl rfl
theorem d_13_1_19 : decode prog_13_method_1_code 19 = .ok (.aload_n 0, 1) := D_42 W_prog_13_method_1_code_0 19 rfl rfl
theorem d_13_1_20 : decode prog_13_method_1_code 20 = .ok (.bipush 64, 2) := D_16 W_prog_13_method_1_code_0 20 rfl rfl rfl
theorem d_13_1_22 : decode prog_13_method_1_code 22 = .ok (.newarray .int, 2) := D_188_10 W_prog_13_method_1_code_0 22 rfl rfl
theorem d_13_1_24 : decode prog_13_method_1_code 24 = .ok (.putfield 18, 3) := D_181 W_prog_13_method_1_code_0 24 rfl rfl rfl
theorem d_13_1_27 : decode prog_13_method_1_code 27 = .ok (.aload_n 0, 1) := D_42 W_prog_13_method_1_code_0 27 rfl rfl
theorem d_13_1_28 : decode prog_13_method_1_code 28 = .ok (.bipush 64, 2) := D_16 W_prog_13_method_1_code_0 28 rfl rfl rfl
theorem d_13_1_30 : decode prog_13_method_1_code 30 = .ok (.newarray .int, 2) := D_188_10 W_prog_13_method_1_code_0 30 rfl rfl
theorem W_prog_13_method_1_code_32 : chW prog_13_method_1_code 32 [181, 0, 21, 177] := chW_of (by decide +kernel)
theorem d_13_1_32 : decode prog_13_method_1_code 32 = .ok (.putfield 21, 3) := D_181 W_prog_13_method_1_code_32 0 rfl rfl rfl
theorem d_13_1_35 : decode prog_13_method_1_code 35 = .ok (.return_, 1) := D_177 W_prog_13_method_1_code_32 3 rfl rfl
theorem W_prog_8_method_1_code_0 : chW prog_8_method_1_code 0 [42, 183, 0, 3, 42, 7, 189, 0, 9, 181, 0, 11, 177] := chW_of (by decide +kernel)
theorem d_8_1_0 : decode prog_8_method_1_code 0 = .ok (.aload_n 0, 1) := D_42 W_prog_8_method_1_code_0 0 rfl rfl
theorem d_8_1_1 : decode prog_8_method_1_code 1 = .ok (.invokespecial 3, 3) := D_183 W_prog_8_method_1_code_0 1 rfl rfl rfl
theorem d_8_1_4 : decode prog_8_method_1_code 4 = .ok (.aload_n 0, 1) := D_42 W_prog_8_method_1_code_0 4 rfl rfl
theorem d_8_1_5 : decode prog_8_method_1_code 5 = .ok (.iconst 4, 1) := D_7 W_prog_8_method_1_code_0 5 rfl rfl
theorem d_8_1_6 : decode prog_8_method_1_code 6 = .ok (.anewarray 9, 3) := D_189 W_prog_8_method_1_code_0 6 rfl rfl rfl
theorem d_8_1_9 : decode prog_8_method_1_code 9 = .ok (.putfield 11, 3) := D_181 W_prog_8_method_1_code_0 9 rfl rfl rfl
theorem d_8_1_12 : decode prog_8_method_1_code 12 = .ok (.return_, 1) := D_177 W_prog_8_method_1_code_0 12 rfl rfl
theorem W_prog_4_method_1_code_0 : chW prog_4_method_1_code 0 [42, 183, 0, 3, 42, 17, 12, 128, 188, 11, 181, 0, 11, 42, 17, 12, 128, 188, 10, 181, 0, 15, 42, 17, 12, 128, 188, 10, 181, 0, 19, 42, 16, 101, 188, 10] := chW_of (by decide +kernel)
theorem d_4_1_0 : decode prog_4_method_1_code 0 = .ok (.aload_n 0, 1) := D_42 W_prog_4_method_1_code_0 0 rfl rfl
theorem d_4_1_1 : decode prog_4_method_1_code 1 = .ok (.invokespecial 3, 3) := D_183 W_prog_4_method_1_code_0 1 rfl rfl rfl
theorem d_4_1_4 : decode prog_4_method_1_code 4 = .ok (.aload_n 0, 1) := D_42 W_prog_4_method_1_code_0 4 rfl rfl
theorem d_4_1_5 : decode prog_4_method_1_code 5 = .ok (.sipush 3200, 3) := D_17 W_prog_4_method_1_code_0 5 rfl rfl rfl
theorem d_4_1_8 : decode prog_4_method_1_code 8 = .ok (.newarray .long, 2) := D_188_11 W_prog_4_method_1_code_0 8 rfl rfl
theorem d_4_1_10 : decode prog_4_method_1_code 10 = .ok (.putfield 11, 3) := D_181 W_prog_4_method_1_code_0 10 rfl rfl rfl
theorem d_4_1_13 : decode prog_4_method_1_code 13 = .ok (.aload_n 0, 1) := D_42 W_prog_4_method_1_code_0 13 rfl rfl
theorem d_4_1_14 : decode prog_4_method_1_code 14 = .ok (.sipush 3200, 3) := D_17 W_prog_4_method_1_code_0 14 rfl rfl rfl
theorem d_4_1_17 : decode prog_4_method_1_code 17 = .ok (.newarray .int, 2) := D_188_10 W_prog_4_method_1_code_0 17 rfl rfl
theorem d_4_1_19 : decode prog_4_method_1_code 19 = .ok (.putfield 15, 3) := D_181 W_prog_4_method_1_code_0 19 rfl rfl rfl
theorem d_4_1_22 : decode prog_4_method_1_code 22 = .ok (.aload_n 0, 1) := D_42 W_prog_4_method_1_code_0 22 rfl rfl
theorem d_4_1_23 : decode prog_4_method_1_code 23 = .ok (.sipush 3200, 3) := D_17 W_prog_4_method_1_code_0 23 rfl rfl rfl
theorem d_4_1_26 : decode prog_4_method_1_code 26 = .ok (.newarray .int, 2) := D_188_10 W_prog_4_method_1_code_0 26 rfl rfl
theorem d_4_1_28 : decode prog_4_method_1_code 28 = .ok (.putfield 19, 3) := D_181 W_prog_4_method_1_code_0 28 rfl rfl rfl
theorem d_4_1_31 : decode prog_4_method_1_code 31 = .ok (.aload_n 0, 1) := D_42 W_prog_4_method_1_code_0 31 rfl rfl
theorem W_prog_4_method_1_code_32 : chW prog_4_method_1_code 32 [16, 101, 188, 10, 181, 0, 22, 42, 16, 100, 188, 10, 181, 0, 25, 42, 16, 101, 188, 10, 181, 0, 28, 42, 16, 100, 188, 10, 181, 0, 31, 42, 16, 100, 188, 11] := chW_of (by decide +kernel)
theorem d_4_1_32 : decode prog_4_method_1_code 32 = .ok (.bipush 101, 2) := D_16 W_prog_4_method_1_code_32 0 rfl rfl rfl
theorem d_4_1_34 : decode prog_4_method_1_code 34 = .ok (.newarray .int, 2) := D_188_10 W_prog_4_method_1_code_32 2 rfl rfl
theorem d_4_1_36 : decode prog_4_method_1_code 36 = .ok (.putfield 22, 3) := D_181 W_prog_4_method_1_code_32 4 rfl rfl rfl
theorem d_4_1_39 : decode prog_4_method_1_code 39 = .ok (.aload_n 0, 1) := D_42 W_prog_4_method_1_code_32 7 rfl rfl
theorem d_4_1_40 : decode prog_4_method_1_code 40 = .ok (.bipush 100, 2) := D_16 W_prog_4_method_1_code_32 8 rfl rfl rfl
theorem d_4_1_42 : decode prog_4_method_1_code 42 = .ok (.newarray .int, 2) := D_188_10 W_prog_4_method_1_code_32 10 rfl rfl
theorem d_4_1_44 : decode prog_4_method_1_code 44 = .ok (.putfield 25, 3) := D_181 W_prog_4_method_1_code_32 12 rfl rfl rfl
theorem d_4_1_47 : decode prog_4_method_1_code 47 = .ok (.aload_n 0, 1) := D_42 W_prog_4_method_1_code_32 15 rfl rfl
theorem d_4_1_48 : decode prog_4_method_1_code 48 = .ok (.bipush 101, 2) := D_16 W_prog_4_method_1_code_32 16 rfl rfl rfl
theorem d_4_1_50 : decode prog_4_method_1_code 50 = .ok (.newarray .int, 2) := D_188_10 W_prog_4_method_1_code_32 18 rfl rfl
theorem d_4_1_52 : decode prog_4_method_1_code 52 = .ok (.putfield 28, 3) := D_181 W_prog_4_method_1_code_32 20 rfl rfl rfl
theorem d_4_1_55 : decode prog_4_method_1_code 55 = .ok (.aload_n 0, 1) := D_42 W_prog_4_method_1_code_32 23 rfl rfl
theorem d_4_1_56 : decode prog_4_method_1_code 56 = .ok (.bipush 100, 2) := D_16 W_prog_4_method_1_code_32 24 rfl rfl rfl
theorem d_4_1_58 : decode prog_4_method_1_code 58 = .ok (.newarray .int, 2) := D_188_10 W_prog_4_method_1_code_32 26 rfl rfl
theorem d_4_1_60 : decode prog_4_method_1_code 60 = .ok (.putfield 31, 3) := D_181 W_prog_4_method_1_code_32 28 rfl rfl rfl
theorem d_4_1_63 : decode prog_4_method_1_code 63 = .ok (.aload_n 0, 1) := D_42 W_prog_4_method_1_code_32 31 rfl rfl
theorem W_prog_4_method_1_code_64 : chW prog_4_method_1_code 64 [16, 100, 188, 11, 181, 0, 34, 42, 16, 101, 188, 11, 181, 0, 37, 42, 16, 101, 188, 10, 181, 0, 40, 42, 7, 188, 10, 181, 0, 43, 177] := chW_of (by decide +kernel)
theorem d_4_1_64 : decode prog_4_method_1_code 64 = .ok (.bipush 100, 2) := D_16 W_prog_4_method_1_code_64 0 rfl rfl rfl
theorem d_4_1_66 : decode prog_4_method_1_code 66 = .ok (.newarray .long, 2) := D_188_11 W_prog_4_method_1_code_64 2 rfl rfl
theorem d_4_1_68 : decode prog_4_method_1_code 68 = .ok (.putfield 34, 3) := D_181 W_prog_4_method_1_code_64 4 rfl rfl rfl
theorem d_4_1_71 : decode prog_4_method_1_code 71 = .ok (.aload_n 0, 1) := D_42 W_prog_4_method_1_code_64 7 rfl rfl
theorem d_4_1_72 : decode prog_4_method_1_code 72 = .ok (.bipush 101, 2) := D_16 W_prog_4_method_1_code_64 8 rfl rfl rfl
theorem d_4_1_74 : decode prog_4_method_1_code 74 = .ok (.newarray .long, 2) := D_188_11 W_prog_4_method_1_code_64 10 rfl rfl
theorem d_4_1_76 : decode prog_4_method_1_code 76 = .ok (.putfield 37, 3) := D_181 W_prog_4_method_1_code_64 12 rfl rfl rfl
theorem d_4_1_79 : decode prog_4_method_1_code 79 = .ok (.aload_n 0, 1) := D_42 W_prog_4_method_1_code_64 15 rfl rfl
theorem d_4_1_80 : decode prog_4_method_1_code 80 = .ok (.bipush 101, 2) := D_16 W_prog_4_method_1_code_64 16 rfl rfl rfl
theorem d_4_1_82 : decode prog_4_method_1_code 82 = .ok (.newarray .int, 2) := D_188_10 W_prog_4_method_1_code_64 18 rfl rfl
theorem d_4_1_84 : decode prog_4_method_1_code 84 = .ok (.putfield 40, 3) := D_181 W_prog_4_method_1_code_64 20 rfl rfl rfl
theorem d_4_1_87 : decode prog_4_method_1_code 87 = .ok (.aload_n 0, 1) := D_42 W_prog_4_method_1_code_64 23 rfl rfl
theorem d_4_1_88 : decode prog_4_method_1_code 88 = .ok (.iconst 4, 1) := D_7 W_prog_4_method_1_code_64 24 rfl rfl
theorem d_4_1_89 : decode prog_4_method_1_code 89 = .ok (.newarray .int, 2) := D_188_10 W_prog_4_method_1_code_64 25 rfl rfl
theorem d_4_1_91 : decode prog_4_method_1_code 91 = .ok (.putfield 43, 3) := D_181 W_prog_4_method_1_code_64 27 rfl rfl rfl
theorem d_4_1_94 : decode prog_4_method_1_code 94 = .ok (.return_, 1) := D_177 W_prog_4_method_1_code_64 30 rfl rfl
theorem W_prog_11_method_1_code_0 : chW prog_11_method_1_code 0 [42, 183, 0, 3, 42, 17, 3, 32, 188, 11, 181, 0, 9, 42, 7, 17, 1, 44, 197, 0, 15, 2, 181, 0, 17, 42, 7, 17, 3, 32, 197, 0, 15, 2, 181, 0] := chW_of (by decide +kernel)
theorem d_11_1_0 : decode prog_11_method_1_code 0 = .ok (.aload_n 0, 1) := D_42 W_prog_11_method_1_code_0 0 rfl rfl
theorem d_11_1_1 : decode prog_11_method_1_code 1 = .ok (.invokespecial 3, 3) := D_183 W_prog_11_method_1_code_0 1 rfl rfl rfl
theorem d_11_1_4 : decode prog_11_method_1_code 4 = .ok (.aload_n 0, 1) := D_42 W_prog_11_method_1_code_0 4 rfl rfl
theorem d_11_1_5 : decode prog_11_method_1_code 5 = .ok (.sipush 800, 3) := D_17 W_prog_11_method_1_code_0 5 rfl rfl rfl
theorem d_11_1_8 : decode prog_11_method_1_code 8 = .ok (.newarray .long, 2) := D_188_11 W_prog_11_method_1_code_0 8 rfl rfl
theorem d_11_1_10 : decode prog_11_method_1_code 10 = .ok (.putfield 9, 3) := D_181 W_prog_11_method_1_code_0 10 rfl rfl rfl
theorem d_11_1_13 : decode prog_11_method_1_code 13 = .ok (.aload_n 0, 1) := D_42 W_prog_11_method_1_code_0 13 rfl rfl
theorem d_11_1_14 : decode prog_11_method_1_code 14 = .ok (.iconst 4, 1) := D_7 W_prog_11_method_1_code_0 14 rfl rfl
theorem d_11_1_15 : decode prog_11_method_1_code 15 = .ok (.sipush 300, 3) := D_17 W_prog_11_method_1_code_0 15 rfl rfl rfl
theorem d_11_1_18 : decode prog_11_method_1_code 18 = .ok (.multianewarray 15 2, 4) := by decide +kernel
theorem d_11_1_22 : decode prog_11_method_1_code 22 = .ok (.putfield 17, 3) := D_181 W_prog_11_method_1_code_0 22 rfl rfl rfl
theorem d_11_1_25 : decode prog_11_method_1_code 25 = .ok (.aload_n 0, 1) := D_42 W_prog_11_method_1_code_0 25 rfl rfl
theorem d_11_1_26 : decode prog_11_method_1_code 26 = .ok (.iconst 4, 1) := D_7 W_prog_11_method_1_code_0 26 rfl rfl
theorem d_11_1_27 : decode prog_11_method_1_code 27 = .ok (.sipush 800, 3) := D_17 W_prog_11_method_1_code_0 27 rfl rfl rfl
theorem d_11_1_30 : decode prog_11_method_1_code 30 = .ok (.multianewarray 15 2, 4) := by decide +kernel
theorem W_prog_11_method_1_code_32 : chW prog_11_method_1_code 32 [15, 2, 181, 0, 20, 42, 7, 188, 10, 181, 0, 23, 42, 7, 188, 10, 181, 0, 27, 42, 7, 188, 10, 181, 0, 30, 42, 7, 188, 10, 181, 0, 33, 42, 7, 188] := chW_of (by decide +kernel)
theorem d_11_1_34 : decode prog_11_method_1_code 34 = .ok (.putfield 20, 3) := D_181 W_prog_11_method_1_code_32 2 rfl rfl rfl
theorem d_11_1_37 : decode prog_11_method_1_code 37 = .ok (.aload_n 0, 1) := D_42 W_prog_11_method_1_code_32 5 rfl rfl
theorem d_11_1_38 : decode prog_11_method_1_code 38 = .ok (.iconst 4, 1) := D_7 W_prog_11_method_1_code_32 6 rfl rfl
theorem d_11_1_39 : decode prog_11_method_1_code 39 = .ok (.newarray .int, 2) := D_188_10 W_prog_11_method_1_code_32 7 rfl rfl
theorem d_11_1_41 : decode prog_11_method_1_code 41 = .ok (.putfield 23, 3) := D_181 W_prog_11_method_1_code_32 9 rfl rfl rfl
theorem d_11_1_44 : decode prog_11_method_1_code 44 = .ok (.aload_n 0, 1) := D_42 W_prog_11_method_1_code_32 12 rfl rfl
theorem d_11_1_45 : decode prog_11_method_1_code 45 = .ok (.iconst 4, 1) := D_7 W_prog_11_method_1_code_32 13 rfl rfl
theorem d_11_1_46 : decode prog_11_method_1_code 46 = .ok (.newarray .int, 2) := D_188_10 W_prog_11_method_1_code_32 14 rfl rfl
theorem d_11_1_48 : decode prog_11_method_1_code 48 = .ok (.putfield 27, 3) := D_181 W_prog_11_method_1_code_32 16 rfl rfl rfl
theorem d_11_1_51 : decode prog_11_method_1_code 51 = .ok (.aload_n 0, 1) := D_42 W_prog_11_method_1_code_32 19 rfl rfl
theorem d_11_1_52 : decode prog_11_method_1_code 52 = .ok (.iconst 4, 1) := D_7 W_prog_11_method_1_code_32 20 rfl rfl
theorem d_11_1_53 : decode prog_11_method_1_code 53 = .ok (.newarray .int, 2) := D_188_10 W_prog_11_method_1_code_32 21 rfl rfl
theorem d_11_1_55 : decode prog_11_method_1_code 55 = .ok (.putfield 30, 3) := D_181 W_prog_11_method_1_code_32 23 rfl rfl rfl
theorem d_11_1_58 : decode prog_11_method_1_code 58 = .ok (.aload_n 0, 1) := D_42 W_prog_11_method_1_code_32 26 rfl rfl
theorem d_11_1_59 : decode prog_11_method_1_code 59 = .ok (.iconst 4, 1) := D_7 W_prog_11_method_1_code_32 27 rfl rfl
theorem d_11_1_60 : decode prog_11_method_1_code 60 = .ok (.newarray .int, 2) := D_188_10 W_prog_11_method_1_code_32 28 rfl rfl
theorem d_11_1_62 : decode prog_11_method_1_code 62 = .ok (.putfield 33, 3) := D_181 W_prog_11_method_1_code_32 30 rfl rfl rfl
theorem W_prog_11_method_1_code_64 : chW prog_11_method_1_code 64 [33, 42, 7, 188, 4, 181, 0, 36, 42, 16, 7, 188, 10, 181, 0, 40, 177] := chW_of (by decide +kernel)
theorem d_11_1_65 : decode prog_11_method_1_code 65 = .ok (.aload_n 0, 1) := D_42 W_prog_11_method_1_code_64 1 rfl rfl
theorem d_11_1_66 : decode prog_11_method_1_code 66 = .ok (.iconst 4, 1) := D_7 W_prog_11_method_1_code_64 2 rfl rfl
theorem d_11_1_67 : decode prog_11_method_1_code 67 = .ok (.newarray .boolean, 2) := D_188_4 W_prog_11_method_1_code_64 3 rfl rfl
theorem d_11_1_69 : decode prog_11_method_1_code 69 = .ok (.putfield 36, 3) := D_181 W_prog_11_method_1_code_64 5 rfl rfl rfl
theorem d_11_1_72 : decode prog_11_method_1_code 72 = .ok (.aload_n 0, 1) := D_42 W_prog_11_method_1_code_64 8 rfl rfl
theorem d_11_1_73 : decode prog_11_method_1_code 73 = .ok (.bipush 7, 2) := D_16 W_prog_11_method_1_code_64 9 rfl rfl rfl
theorem d_11_1_75 : decode prog_11_method_1_code 75 = .ok (.newarray .int, 2) := D_188_10 W_prog_11_method_1_code_64 11 rfl rfl
theorem d_11_1_77 : decode prog_11_method_1_code 77 = .ok (.putfield 40, 3) := D_181 W_prog_11_method_1_code_64 13 rfl rfl rfl
theorem d_11_1_80 : decode prog_11_method_1_code 80 = .ok (.return_, 1) := D_177 W_prog_11_method_1_code_64 16 rfl rfl
theorem W_prog_7_method_1_code_0 : chW prog_7_method_1_code 0 [42, 183, 0, 3, 42, 17, 3, 232, 188, 10, 181, 0, 11, 42, 17, 3, 232, 188, 10, 181, 0, 15, 42, 17, 3, 232, 188, 10, 181, 0, 18, 42, 16, 6, 17, 7] := chW_of (by decide +kernel)
theorem d_7_1_0 : decode prog_7_method_1_code 0 = .ok (.aload_n 0, 1) := D_42 W_prog_7_method_1_code_0 0 rfl rfl
theorem d_7_1_1 : decode prog_7_method_1_code 1 = .ok (.invokespecial 3, 3) := D_183 W_prog_7_method_1_code_0 1 rfl rfl rfl
theorem d_7_1_4 : decode prog_7_method_1_code 4 = .ok (.aload_n 0, 1) := D_42 W_prog_7_method_1_code_0 4 rfl rfl
theorem d_7_1_5 : decode prog_7_method_1_code 5 = .ok (.sipush 1000, 3) := D_17 W_prog_7_method_1_code_0 5 rfl rfl rfl
theorem d_7_1_8 : decode prog_7_method_1_code 8 = .ok (.newarray .int, 2) := D_188_10 W_prog_7_method_1_code_0 8 rfl rfl
theorem d_7_1_10 : decode prog_7_method_1_code 10 = .ok (.putfield 11, 3) := D_181 W_prog_7_method_1_code_0 10 rfl rfl rfl
theorem d_7_1_13 : decode prog_7_method_1_code 13 = .ok (.aload_n 0, 1) := D_42 W_prog_7_method_1_code_0 13 rfl rfl
theorem d_7_1_14 : decode prog_7_method_1_code 14 = .ok (.sipush 1000, 3) := D_17 W_prog_7_method_1_code_0 14 rfl rfl rfl
theorem d_7_1_17 : decode prog_7_method_1_code 17 = .ok (.newarray .int, 2) := D_188_10 W_prog_7_method_1_code_0 17 rfl rfl
theorem d_7_1_19 : decode prog_7_method_1_code 19 = .ok (.putfield 15, 3) := D_181 W_prog_7_method_1_code_0 19 rfl rfl rfl
theorem d_7_1_22 : decode prog_7_method_1_code 22 = .ok (.aload_n 0, 1) := D_42 W_prog_7_method_1_code_0 22 rfl rfl
theorem d_7_1_23 : decode prog_7_method_1_code 23 = .ok (.sipush 1000, 3) := D_17 W_prog_7_method_1_code_0 23 rfl rfl rfl
theorem d_7_1_26 : decode prog_7_method_1_code 26 = .ok (.newarray .int, 2) := D_188_10 W_prog_7_method_1_code_0 26 rfl rfl
theorem d_7_1_28 : decode prog_7_method_1_code 28 = .ok (.putfield 18, 3) := D_181 W_prog_7_method_1_code_0 28 rfl rfl rfl
theorem d_7_1_31 : decode prog_7_method_1_code 31 = .ok (.aload_n 0, 1) := D_42 W_prog_7_method_1_code_0 31 rfl rfl
theorem W_prog_7_method_1_code_32 : chW prog_7_method_1_code 32 [16, 6, 17, 7, 208, 197, 0, 21, 2, 181, 0, 23, 42, 17, 15, 160, 188, 11, 181, 0, 26, 42, 17, 15, 160, 188, 11, 181, 0, 30, 42, 16, 12, 188, 11, 181] := chW_of (by decide +kernel)
theorem d_7_1_32 : decode prog_7_method_1_code 32 = .ok (.bipush 6, 2) := D_16 W_prog_7_method_1_code_32 0 rfl rfl rfl
theorem d_7_1_34 : decode prog_7_method_1_code 34 = .ok (.sipush 2000, 3) := D_17 W_prog_7_method_1_code_32 2 rfl rfl rfl
theorem d_7_1_37 : decode prog_7_method_1_code 37 = .ok (.multianewarray 21 2, 4) := by decide +kernel
theorem d_7_1_41 : decode prog_7_method_1_code 41 = .ok (.putfield 23, 3) := D_181 W_prog_7_method_1_code_32 9 rfl rfl rfl
theorem d_7_1_44 : decode prog_7_method_1_code 44 = .ok (.aload_n 0, 1) := D_42 W_prog_7_method_1_code_32 12 rfl rfl
theorem d_7_1_45 : decode prog_7_method_1_code 45 = .ok (.sipush 4000, 3) := D_17 W_prog_7_method_1_code_32 13 rfl rfl rfl
theorem d_7_1_48 : decode prog_7_method_1_code 48 = .ok (.newarray .long, 2) := D_188_11 W_prog_7_method_1_code_32 16 rfl rfl
theorem d_7_1_50 : decode prog_7_method_1_code 50 = .ok (.putfield 26, 3) := D_181 W_prog_7_method_1_code_32 18 rfl rfl rfl
theorem d_7_1_53 : decode prog_7_method_1_code 53 = .ok (.aload_n 0, 1) := D_42 W_prog_7_method_1_code_32 21 rfl rfl
theorem d_7_1_54 : decode prog_7_method_1_code 54 = .ok (.sipush 4000, 3) := D_17 W_prog_7_method_1_code_32 22 rfl rfl rfl
theorem d_7_1_57 : decode prog_7_method_1_code 57 = .ok (.newarray .long, 2) := D_188_11 W_prog_7_method_1_code_32 25 rfl rfl
theorem d_7_1_59 : decode prog_7_method_1_code 59 = .ok (.putfield 30, 3) := D_181 W_prog_7_method_1_code_32 27 rfl rfl rfl
theorem d_7_1_62 : decode prog_7_method_1_code 62 = .ok (.aload_n 0, 1) := D_42 W_prog_7_method_1_code_32 30 rfl rfl
theorem d_7_1_63 : decode prog_7_method_1_code 63 = .ok (.bipush 12, 2) := D_16 W_prog_7_method_1_code_32 31 rfl rfl rfl
theorem W_prog_7_method_1_code_64 : chW prog_7_method_1_code 64 [12, 188, 11, 181, 0, 33, 177] := chW_of (by decide +kernel)
theorem d_7_1_65 : decode prog_7_method_1_code 65 = .ok (.newarray .long, 2) := D_188_11 W_prog_7_method_1_code_64 1 rfl rfl
theorem d_7_1_67 : decode prog_7_method_1_code 67 = .ok (.putfield 33, 3) := D_181 W_prog_7_method_1_code_64 3 rfl rfl rfl
theorem d_7_1_70 : decode prog_7_method_1_code 70 = .ok (.return_, 1) := D_177 W_prog_7_method_1_code_64 6 rfl rfl
theorem W_prog_10_method_1_code_0 : chW prog_10_method_1_code 0 [42, 183, 0, 3, 42, 16, 7, 188, 10, 181, 0, 9, 42, 16, 6, 17, 1, 144, 197, 0, 15, 2, 181, 0, 17, 42, 16, 8, 188, 10, 181, 0, 20, 177] := chW_of (by decide +kernel)
theorem d_10_1_0 : decode prog_10_method_1_code 0 = .ok (.aload_n 0, 1) := D_42 W_prog_10_method_1_code_0 0 rfl rfl
theorem d_10_1_1 : decode prog_10_method_1_code 1 = .ok (.invokespecial 3, 3) := D_183 W_prog_10_method_1_code_0 1 rfl rfl rfl
theorem d_10_1_4 : decode prog_10_method_1_code 4 = .ok (.aload_n 0, 1) := D_42 W_prog_10_method_1_code_0 4 rfl rfl
theorem d_10_1_5 : decode prog_10_method_1_code 5 = .ok (.bipush 7, 2) := D_16 W_prog_10_method_1_code_0 5 rfl rfl rfl
theorem d_10_1_7 : decode prog_10_method_1_code 7 = .ok (.newarray .int, 2) := D_188_10 W_prog_10_method_1_code_0 7 rfl rfl
theorem d_10_1_9 : decode prog_10_method_1_code 9 = .ok (.putfield 9, 3) := D_181 W_prog_10_method_1_code_0 9 rfl rfl rfl
theorem d_10_1_12 : decode prog_10_method_1_code 12 = .ok (.aload_n 0, 1) := D_42 W_prog_10_method_1_code_0 12 rfl rfl
theorem d_10_1_13 : decode prog_10_method_1_code 13 = .ok (.bipush 6, 2) := D_16 W_prog_10_method_1_code_0 13 rfl rfl rfl
theorem d_10_1_15 : decode prog_10_method_1_code 15 = .ok (.sipush 400, 3) := D_17 W_prog_10_method_1_code_0 15 rfl rfl rfl
theorem d_10_1_18 : decode prog_10_method_1_code 18 = .ok (.multianewarray 15 2, 4) := by decide +kernel
theorem d_10_1_22 : decode prog_10_method_1_code 22 = .ok (.putfield 17, 3) := D_181 W_prog_10_method_1_code_0 22 rfl rfl rfl
theorem d_10_1_25 : decode prog_10_method_1_code 25 = .ok (.aload_n 0, 1) := D_42 W_prog_10_method_1_code_0 25 rfl rfl
theorem d_10_1_26 : decode prog_10_method_1_code 26 = .ok (.bipush 8, 2) := D_16 W_prog_10_method_1_code_0 26 rfl rfl rfl
theorem d_10_1_28 : decode prog_10_method_1_code 28 = .ok (.newarray .int, 2) := D_188_10 W_prog_10_method_1_code_0 28 rfl rfl
theorem d_10_1_30 : decode prog_10_method_1_code 30 = .ok (.putfield 20, 3) := D_181 W_prog_10_method_1_code_0 30 rfl rfl rfl
theorem W_prog_10_method_1_code_32 : chW prog_10_method_1_code 32 [20, 177] := chW_of (by decide +kernel)
theorem d_10_1_33 : decode prog_10_method_1_code 33 = .ok (.return_, 1) := D_177 W_prog_10_method_1_code_32 1 rfl rfl
theorem W_prog_9_method_1_code_0 : chW prog_9_method_1_code 0 [42, 183, 0, 3, 42, 187, 0, 9, 89, 183, 0, 11, 181, 0, 12, 42, 17, 0, 128, 188, 4, 181, 0, 18, 177] := chW_of (by decide +kernel)
theorem d_9_1_0 : decode prog_9_method_1_code 0 = .ok (.aload_n 0, 1) := D_42 W_prog_9_method_1_code_0 0 rfl rfl
theorem d_9_1_1 : decode prog_9_method_1_code 1 = .ok (.invokespecial 3, 3) := D_183 W_prog_9_method_1_code_0 1 rfl rfl rfl
theorem d_9_1_4 : decode prog_9_method_1_code 4 = .ok (.aload_n 0, 1) := D_42 W_prog_9_method_1_code_0 4 rfl rfl
theorem d_9_1_5 : decode prog_9_method_1_code 5 = .ok (.new 9, 3) := D_187 W_prog_9_method_1_code_0 5 rfl rfl rfl
theorem d_9_1_8 : decode prog_9_method_1_code 8 = .ok (.dup, 1) := D_89 W_prog_9_method_1_code_0 8 rfl rfl
theorem d_9_1_9 : decode prog_9_method_1_code 9 = .ok (.invokespecial 11, 3) := D_183 W_prog_9_method_1_code_0 9 rfl rfl rfl
theorem d_9_1_12 : decode prog_9_method_1_code 12 = .ok (.putfield 12, 3) := D_181 W_prog_9_method_1_code_0 12 rfl rfl rfl
theorem d_9_1_15 : decode prog_9_method_1_code 15 = .ok (.aload_n 0, 1) := D_42 W_prog_9_method_1_code_0 15 rfl rfl
theorem d_9_1_16 : decode prog_9_method_1_code 16 = .ok (.sipush 128, 3) := D_17 W_prog_9_method_1_code_0 16 rfl rfl rfl
theorem d_9_1_19 : decode prog_9_method_1_code 19 = .ok (.newarray .boolean, 2) := D_188_4 W_prog_9_method_1_code_0 19 rfl rfl
theorem d_9_1_21 : decode prog_9_method_1_code 21 = .ok (.putfield 18, 3) := D_181 W_prog_9_method_1_code_0 21 rfl rfl rfl
theorem d_9_1_24 : decode prog_9_method_1_code 24 = .ok (.return_, 1) := D_177 W_prog_9_method_1_code_0 24 rfl rfl
theorem W_prog_5_method_1_code_0 : chW prog_5_method_1_code 0 [42, 183, 0, 3, 42, 17, 11, 184, 188, 10, 181, 0, 9, 42, 17, 11, 184, 188, 10, 181, 0, 15, 42, 17, 11, 184, 188, 10, 181, 0, 18, 42, 17, 11, 184, 188] := chW_of (by decide +kernel)
theorem d_5_1_0 : decode prog_5_method_1_code 0 = .ok (.aload_n 0, 1) := D_42 W_prog_5_method_1_code_0 0 rfl rfl
theorem d_5_1_1 : decode prog_5_method_1_code 1 = .ok (.invokespecial 3, 3) := D_183 W_prog_5_method_1_code_0 1 rfl rfl rfl
theorem d_5_1_4 : decode prog_5_method_1_code 4 = .ok (.aload_n 0, 1) := D_42 W_prog_5_method_1_code_0 4 rfl rfl
theorem d_5_1_5 : decode prog_5_method_1_code 5 = .ok (.sipush 3000, 3) := D_17 W_prog_5_method_1_code_0 5 rfl rfl rfl
theorem d_5_1_8 : decode prog_5_method_1_code 8 = .ok (.newarray .int, 2) := D_188_10 W_prog_5_method_1_code_0 8 rfl rfl
theorem d_5_1_10 : decode prog_5_method_1_code 10 = .ok (.putfield 9, 3) := D_181 W_prog_5_method_1_code_0 10 rfl rfl rfl
theorem d_5_1_13 : decode prog_5_method_1_code 13 = .ok (.aload_n 0, 1) := D_42 W_prog_5_method_1_code_0 13 rfl rfl
theorem d_5_1_14 : decode prog_5_method_1_code 14 = .ok (.sipush 3000, 3) := D_17 W_prog_5_method_1_code_0 14 rfl rfl rfl
theorem d_5_1_17 : decode prog_5_method_1_code 17 = .ok (.newarray .int, 2) := D_188_10 W_prog_5_method_1_code_0 17 rfl rfl
theorem d_5_1_19 : decode prog_5_method_1_code 19 = .ok (.putfield 15, 3) := D_181 W_prog_5_method_1_code_0 19 rfl rfl rfl
theorem d_5_1_22 : decode prog_5_method_1_code 22 = .ok (.aload_n 0, 1) := D_42 W_prog_5_method_1_code_0 22 rfl rfl
theorem d_5_1_23 : decode prog_5_method_1_code 23 = .ok (.sipush 3000, 3) := D_17 W_prog_5_method_1_code_0 23 rfl rfl rfl
theorem d_5_1_26 : decode prog_5_method_1_code 26 = .ok (.newarray .int, 2) := D_188_10 W_prog_5_method_1_code_0 26 rfl rfl
theorem d_5_1_28 : decode prog_5_method_1_code 28 = .ok (.putfield 18, 3) := D_181 W_prog_5_method_1_code_0 28 rfl rfl rfl
theorem d_5_1_31 : decode prog_5_method_1_code 31 = .ok (.aload_n 0, 1) := D_42 W_prog_5_method_1_code_0 31 rfl rfl
theorem W_prog_5_method_1_code_32 : chW prog_5_method_1_code 32 [17, 11, 184, 188, 10, 181, 0, 21, 42, 17, 11, 184, 188, 10, 181, 0, 24, 42, 17, 11, 184, 188, 10, 181, 0, 27, 42, 17, 11, 184, 188, 10, 181, 0, 30, 42] := chW_of (by decide +kernel)
theorem d_5_1_32 : decode prog_5_method_1_code 32 = .ok (.sipush 3000, 3) := D_17 W_prog_5_method_1_code_32 0 rfl rfl rfl
theorem d_5_1_35 : decode prog_5_method_1_code 35 = .ok (.newarray .int, 2) := D_188_10 W_prog_5_method_1_code_32 3 rfl rfl
theorem d_5_1_37 : decode prog_5_method_1_code 37 = .ok (.putfield 21, 3) := D_181 W_prog_5_method_1_code_32 5 rfl rfl rfl
theorem d_5_1_40 : decode prog_5_method_1_code 40 = .ok (.aload_n 0, 1) := D_42 W_prog_5_method_1_code_32 8 rfl rfl
theorem d_5_1_41 : decode prog_5_method_1_code 41 = .ok (.sipush 3000, 3) := D_17 W_prog_5_method_1_code_32 9 rfl rfl rfl
theorem d_5_1_44 : decode prog_5_method_1_code 44 = .ok (.newarray .int, 2) := D_188_10 W_prog_5_method_1_code_32 12 rfl rfl
theorem d_5_1_46 : decode prog_5_method_1_code 46 = .ok (.putfield 24, 3) := D_181 W_prog_5_method_1_code_32 14 rfl rfl rfl
theorem d_5_1_49 : decode prog_5_method_1_code 49 = .ok (.aload_n 0, 1) := D_42 W_prog_5_method_1_code_32 17 rfl rfl
theorem d_5_1_50 : decode prog_5_method_1_code 50 = .ok (.sipush 3000, 3) := D_17 W_prog_5_method_1_code_32 18 rfl rfl rfl
theorem d_5_1_53 : decode prog_5_method_1_code 53 = .ok (.newarray .int, 2) := D_188_10 W_prog_5_method_1_code_32 21 rfl rfl
theorem d_5_1_55 : decode prog_5_method_1_code 55 = .ok (.putfield 27, 3) := D_181 W_prog_5_method_1_code_32 23 rfl rfl rfl
theorem d_5_1_58 : decode prog_5_method_1_code 58 = .ok (.aload_n 0, 1) := D_42 W_prog_5_method_1_code_32 26 rfl rfl
theorem d_5_1_59 : decode prog_5_method_1_code 59 = .ok (.sipush 3000, 3) := D_17 W_prog_5_method_1_code_32 27 rfl rfl rfl
theorem d_5_1_62 : decode prog_5_method_1_code 62 = .ok (.newarray .int, 2) := D_188_10 W_prog_5_method_1_code_32 30 rfl rfl
theorem W_prog_5_method_1_code_64 : chW prog_5_method_1_code 64 [181, 0, 30, 42, 17, 11, 184, 188, 10, 181, 0, 33, 42, 17, 5, 220, 188, 10, 181, 0, 36, 42, 17, 5, 220, 188, 10, 181, 0, 39, 42, 17, 5, 220, 188, 10] := chW_of (by decide +kernel)
theorem d_5_1_64 : decode prog_5_method_1_code 64 = .ok (.putfield 30, 3) := D_181 W_prog_5_method_1_code_64 0 rfl rfl rfl
theorem d_5_1_67 : decode prog_5_method_1_code 67 = .ok (.aload_n 0, 1) := D_42 W_prog_5_method_1_code_64 3 rfl rfl
theorem d_5_1_68 : decode prog_5_method_1_code 68 = .ok (.sipush 3000, 3) := D_17 W_prog_5_method_1_code_64 4 rfl rfl rfl
theorem d_5_1_71 : decode prog_5_method_1_code 71 = .ok (.newarray .int, 2) := D_188_10 W_prog_5_method_1_code_64 7 rfl rfl
theorem d_5_1_73 : decode prog_5_method_1_code 73 = .ok (.putfield 33, 3) := D_181 W_prog_5_method_1_code_64 9 rfl rfl rfl
theorem d_5_1_76 : decode prog_5_method_1_code 76 = .ok (.aload_n 0, 1) := D_42 W_prog_5_method_1_code_64 12 rfl rfl
theorem d_5_1_77 : decode prog_5_method_1_code 77 = .ok (.sipush 1500, 3) := D_17 W_prog_5_method_1_code_64 13 rfl rfl rfl
theorem d_5_1_80 : decode prog_5_method_1_code 80 = .ok (.newarray .int, 2) := D_188_10 W_prog_5_method_1_code_64 16 rfl rfl
theorem d_5_1_82 : decode prog_5_method_1_code 82 = .ok (.putfield 36, 3) := D_181 W_prog_5_method_1_code_64 18 rfl rfl rfl
theorem d_5_1_85 : decode prog_5_method_1_code 85 = .ok (.aload_n 0, 1) := D_42 W_prog_5_method_1_code_64 21 rfl rfl
theorem d_5_1_86 : decode prog_5_method_1_code 86 = .ok (.sipush 1500, 3) := D_17 W_prog_5_method_1_code_64 22 rfl rfl rfl
theorem d_5_1_89 : decode prog_5_method_1_code 89 = .ok (.newarray .int, 2) := D_188_10 W_prog_5_method_1_code_64 25 rfl rfl
theorem d_5_1_91 : decode prog_5_method_1_code 91 = .ok (.putfield 39, 3) := D_181 W_prog_5_method_1_code_64 27 rfl rfl rfl
theorem d_5_1_94 : decode prog_5_method_1_code 94 = .ok (.aload_n 0, 1) := D_42 W_prog_5_method_1_code_64 30 rfl rfl
theorem d_5_1_95 : decode prog_5_method_1_code 95 = .ok (.sipush 1500, 3) := D_17 W_prog_5_method_1_code_64 31 rfl rfl rfl
theorem W_prog_5_method_1_code_96 : chW prog_5_method_1_code 96 [5, 220, 188, 10, 181, 0, 42, 42, 187, 0, 45, 89, 183, 0, 47, 181, 0, 48, 42, 16, 6, 188, 11, 181, 0, 52, 42, 16, 6, 188, 10, 181, 0, 56, 177] := chW_of (by decide +kernel)
theorem d_5_1_98 : decode prog_5_method_1_code 98 = .ok (.newarray .int, 2) := D_188_10 W_prog_5_method_1_code_96 2 rfl rfl
theorem d_5_1_100 : decode prog_5_method_1_code 100 = .ok (.putfield 42, 3) := D_181 W_prog_5_method_1_code_96 4 rfl rfl rfl
theorem d_5_1_103 : decode prog_5_method_1_code 103 = .ok (.aload_n 0, 1) := D_42 W_prog_5_method_1_code_96 7 rfl rfl
theorem d_5_1_104 : decode prog_5_method_1_code 104 = .ok (.new 45, 3) := D_187 W_prog_5_method_1_code_96 8 rfl rfl rfl
theorem d_5_1_107 : decode prog_5_method_1_code 107 = .ok (.dup, 1) := D_89 W_prog_5_method_1_code_96 11 rfl rfl
theorem d_5_1_108 : decode prog_5_method_1_code 108 = .ok (.invokespecial 47, 3) := D_183 W_prog_5_method_1_code_96 12 rfl rfl rfl
theorem d_5_1_111 : decode prog_5_method_1_code 111 = .ok (.putfield 48, 3) := D_181 W_prog_5_method_1_code_96 15 rfl rfl rfl
theorem d_5_1_114 : decode prog_5_method_1_code 114 = .ok (.aload_n 0, 1) := D_42 W_prog_5_method_1_code_96 18 rfl rfl
theorem d_5_1_115 : decode prog_5_method_1_code 115 = .ok (.bipush 6, 2) := D_16 W_prog_5_method_1_code_96 19 rfl rfl rfl
theorem d_5_1_117 : decode prog_5_method_1_code 117 = .ok (.newarray .long, 2) := D_188_11 W_prog_5_method_1_code_96 21 rfl rfl
theorem d_5_1_119 : decode prog_5_method_1_code 119 = .ok (.putfield 52, 3) := D_181 W_prog_5_method_1_code_96 23 rfl rfl rfl
theorem d_5_1_122 : decode prog_5_method_1_code 122 = .ok (.aload_n 0, 1) := D_42 W_prog_5_method_1_code_96 26 rfl rfl
theorem d_5_1_123 : decode prog_5_method_1_code 123 = .ok (.bipush 6, 2) := D_16 W_prog_5_method_1_code_96 27 rfl rfl rfl
theorem d_5_1_125 : decode prog_5_method_1_code 125 = .ok (.newarray .int, 2) := D_188_10 W_prog_5_method_1_code_96 29 rfl rfl
theorem d_5_1_127 : decode prog_5_method_1_code 127 = .ok (.putfield 56, 3) := D_181 W_prog_5_method_1_code_96 31 rfl rfl rfl
theorem W_prog_5_method_1_code_128 : chW prog_5_method_1_code 128 [0, 56, 177] := chW_of (by decide +kernel)
theorem d_5_1_130 : decode prog_5_method_1_code 130 = .ok (.return_, 1) := D_177 W_prog_5_method_1_code_128 2 rfl rfl
abbrev Q_Event_init (K : zK) (D : va_G) (ca : Nat → ClassId) (ad : Nat → Int → Nat → Nat) (a : Nat) (r : Int) (F : zF) (B : zB) (K9 : zK) (A : Nat → Prop) : Array Value → State → Outcome → State → Prop := va_Qv (S := (Nat → Int → Nat → Nat) × List Nat) (fun u => zG ad K.2 u.1 K9.2 ∧ u.1 1 r 0 = a) (fun u => zPo D ca u.1 lnC K9.2 u.2 F B A) A
def f_Event_init (Ki : zK) (F : zF) (B : zB) : zOm := if 0 ≤ Ki.2 1 then some (Ki.2 1, (zinF F 1 (Ki.2 1) [0, 0, 0, 0, 0, 0, 0, 0, 0, 0, 0, 0, 0, 0]), (zinB B 1 (Ki.2 1) (fun _ _ => 0)), (Ki.1, zinN Ki.2 1)) else none
set_option maxHeartbeats 4000000 in
set_option maxRecDepth 100000 in
theorem c_Event_init {l : Launch} {D : va_G} {ca : Nat → ClassId} {ad : Nat → Int → Nat → Nat} {L : List Nat} {aS vS : Nat → Nat} {sz a : Nat} {Ki : zK} {F : zF} {B : zB} {r : Int} {F9 : zF} {B9 : zB} {K9 : zK} (hf : f_Event_init Ki F B = some (r, F9, B9, K9)) : Met l ({ cls := "StaveHouse$Event", name := "<init>", desc := "()V" } : Jvm.MethodName) (Cond.code ({ cls := "StaveHouse$Event", name := "<init>", desc := "()V" } : Jvm.MethodName) prog_3_method_1_code 1 (Option.none : Option Jvm.ClassFile.FieldType) :: wAll) ({ frames := 1, cells := 2, slots := 12, locals := 12 } : Room) (va_Pc [.ref a] (zPreX D ca ad lnC Ki.2 L aS vS F B a (.inr (1, rg 14 (fun j => defaultValue (tyX1 j)))) sz)) (Q_Event_init Ki D ca ad a r F9 B9 K9 (zA (a :: L) sz)) 2 12 (zA (a :: L) sz) := by
  refine zMetX (Qc := Q_Event_init Ki D ca ad a r F9 B9 K9) (lv := [(0, .ref a)]) (by decide) (Nat.le_of_ble_eq_true rfl) rfl (fun A p e s m below meth c ls X hnm hZ hS hl => ?_)
  obtain ⟨hx, hb, hr, hml, hown, hts, hlk, hK, hA, hL, hX⟩ := id X
  replace hnm : meth.name = "<init>" := hnm
  have hG : zG ad Ki.2 ad Ki.2 := zG.rf
  replace hf : (if 0 ≤ Ki.2 1 then some (Ki.2 1, (zinF F 1 (Ki.2 1) [0, 0, 0, 0, 0, 0, 0, 0, 0, 0, 0, 0, 0, 0]), (zinB B 1 (Ki.2 1) (fun _ _ => 0)), (Ki.1, zinN Ki.2 1)) else none) = some (r, F9, B9, K9) := hf
  refine lv_aload_n hx hb d_3_1_0 rfl (lv_at hl 0 rfl) ?_
  refine W.objInit hx hb hown (hts _ k_2_19) (hts _ k_1_30) (hts _ k_1_31) rfl (by rw [hml]; exact hl.1) rfl d_3_1_1 (Nat.le_of_ble_eq_true rfl) (Nat.le_of_ble_eq_true rfl) ?_
  refine W.eq (g2 := F0 m 4 ls []) rfl ?_
  refine lv_aload_n hx hb d_3_1_4 rfl (lv_at hl 0 rfl) ?_
  refine lv_bipush (v := iI 6) hx hb d_3_1_5 (by decide) ?_
  refine zxnewa (atype := .int) hx hb hts (ty := .int) rfl k_1_57 hK 0 rfl (fun _ _ => gu_int) hZ hS hA (a0 := (6, .inl (zAr (fun _ => 0)))) (fun _ => rfl) (by decide) (N' := 6) (by decide) (Nat.le_of_ble_eq_true rfl) (Nat.le_of_ble_eq_true rfl) (Nat.le_of_ble_eq_true rfl) d_3_1_7 (fun q1 H1 hZ1 hS1 => ?_)
  replace hZ1 : zHx D ca ad lnC Ki.2 L F B [(a, .inr (1, rg 14 (fun j => defaultValue (tyX1 j)))), (q1, .inl (ca 0, 6, .inl (zAr (fun _ => 0))))] A H1 := hZ1
  refine W.widen (k := 1) (n := 6) (Nat.le_of_ble_eq_true rfl) (Nat.le_of_ble_eq_true rfl) ?_
  refine zxputF hx hb hts inW_1 tyX1 tyX1_ok nmX1 hown hK hZ1 hS1 0 rfl rfl (k := 12) (by decide) k_2_57 rfl hnm rfl rfl rfl d_3_1_9 (fun H2 locs2 hZ2 hS2 => ?_)
  replace hZ2 : zHx D ca ad lnC Ki.2 L F B [(a, .inr (1, rg 14 (va_up (fun j => defaultValue (tyX1 j)) 12 (.ref q1)))), (q1, .inl (ca 0, 6, .inl (zAr (fun _ => 0))))] A H2 := hZ2
  clear hZ1 hS1
  refine lv_aload_n hx hb d_3_1_12 rfl (lv_at hl 0 rfl) ?_
  refine lv_bipush (v := iI 6) hx hb d_3_1_13 (by decide) ?_
  refine zxnewa (atype := .int) hx hb hts (ty := .int) rfl k_1_57 hK 0 rfl (fun _ _ => gu_int) hZ2 hS2 hA (a0 := (6, .inl (zAr (fun _ => 0)))) (fun _ => rfl) (by decide) (N' := 6) (by decide) (Nat.le_of_ble_eq_true rfl) (Nat.le_of_ble_eq_true rfl) (Nat.le_of_ble_eq_true rfl) d_3_1_15 (fun q3 H3 hZ3 hS3 => ?_)
  replace hZ3 : zHx D ca ad lnC Ki.2 L F B [(a, .inr (1, rg 14 (va_up (fun j => defaultValue (tyX1 j)) 12 (.ref q1)))), (q1, .inl (ca 0, 6, .inl (zAr (fun _ => 0)))), (q3, .inl (ca 0, 6, .inl (zAr (fun _ => 0))))] A H3 := hZ3
  clear hZ2 hS2
  refine W.widen (k := 2) (n := 12) (Nat.le_of_ble_eq_true rfl) (Nat.le_of_ble_eq_true rfl) ?_
  refine zxputF hx hb hts inW_1 tyX1 tyX1_ok nmX1 hown hK hZ3 hS3 0 rfl rfl (k := 13) (by decide) k_2_63 rfl hnm rfl rfl rfl d_3_1_17 (fun H4 locs4 hZ4 hS4 => ?_)
  replace hZ4 : zHx D ca ad lnC Ki.2 L F B [(a, .inr (1, rg 14 (va_up (va_up (fun j => defaultValue (tyX1 j)) 12 (.ref q1)) 13 (.ref q3)))), (q1, .inl (ca 0, 6, .inl (zAr (fun _ => 0)))), (q3, .inl (ca 0, 6, .inl (zAr (fun _ => 0))))] A H4 := hZ4
  clear hZ3 hS3
  obtain ⟨g6, hf⟩ := gif hf
  obtain ⟨ad5, L5, hZ5, hG5, hq5⟩ : ∃ ad' L', zH D ca ad' lnC (zinN Ki.2 1) L' (zinF F 1 (Ki.2 1) [0, 0, 0, 0, 0, 0, 0, 0, 0, 0, 0, 0, 0, 0]) (zinB B 1 (Ki.2 1) (fun _ _ => 0)) A H4 ∧ zG ad Ki.2 ad' (zinN Ki.2 1) ∧ ad' 1 (Ki.2 1) 0 = a := ⟨_, _, ztake2 (c := 1) (n := 14) (l := [(0, a), (13, q1), (14, q3)]) (fi := [0, 0, 0, 0, 0, 0, 0, 0, 0, 0, 0, 0, 0, 0]) (b := (fun _ _ => 0)) (a := a) (r2 := []) (r3 := [(12, 0), (13, 0)]) (r4 := []) hZ4 g6 (by decide +kernel) (by decide +kernel) (by decide +kernel) rfl (show 0 ∈ ([0, 13, 14] : List Nat) by decide) (show zAll [(12, 0), (13, 0)] (fun x : Nat × Nat => x.1 + 1 ∈ ([0, 13, 14] : List Nat)) from (And.intro (by decide) (And.intro (by decide) trivial))) (show zAll [] (fun x : Nat × Nat => x.1 + 1 ∈ ([0, 13, 14] : List Nat)) from trivial) rfl rfl (List.mem_of_getElem? (i := 0) rfl) (And.intro rfl (And.intro rfl (And.intro rfl (And.intro rfl (And.intro rfl (And.intro rfl (And.intro rfl (And.intro rfl (And.intro rfl (And.intro rfl (And.intro rfl (And.intro rfl (And.intro rfl (And.intro rfl trivial)))))))))))))) (And.intro (List.mem_of_getElem? (i := 1) rfl) (And.intro (List.mem_of_getElem? (i := 2) rfl) trivial)) trivial trivial (And.intro (fun h => absurd h (by decide)) (And.intro (fun h => absurd h (by decide)) trivial)), hG.tr zinA_G, zinA_new⟩
  cases hf
  exact W.vret hx hb hr (fun t ht hW => ⟨⟨(ad5, L5), rfl, ⟨hG5, hq5⟩, by rw [ht]; exact hZ5, va_K.moved hW.alike hK⟩, hS4.F ht⟩) hS4.2.2 d_3_1_20 hlk

theorem m_Event_init {Ki : zK} {F : zF} {B : zB} {r : Int} {F9 : zF} {B9 : zB} {K9 : zK} (hf : f_Event_init Ki F B = some (r, F9, B9, K9)) : zKle Ki K9 := by
  replace hf : (if 0 ≤ Ki.2 1 then some (Ki.2 1, (zinF F 1 (Ki.2 1) [0, 0, 0, 0, 0, 0, 0, 0, 0, 0, 0, 0, 0, 0]), (zinB B 1 (Ki.2 1) (fun _ _ => 0)), (Ki.1, zinN Ki.2 1)) else none) = some (r, F9, B9, K9) := hf
  obtain ⟨g6, hf⟩ := gif hf
  cases hf
  exact zKle_in

theorem w_Event_init {Ki : zK} {F : zF} {B : zB} {r : Int} {F9 : zF} {B9 : zB} {K9 : zK} (hf : f_Event_init Ki F B = some (r, F9, B9, K9)) : cwN K9.2 = cwN Ki.2 + 3 ∧ swN K9.2 = swN Ki.2 + 26 := by
  replace hf : (if 0 ≤ Ki.2 1 then some (Ki.2 1, (zinF F 1 (Ki.2 1) [0, 0, 0, 0, 0, 0, 0, 0, 0, 0, 0, 0, 0, 0]), (zinB B 1 (Ki.2 1) (fun _ _ => 0)), (Ki.1, zinN Ki.2 1)) else none) = some (r, F9, B9, K9) := hf
  obtain ⟨g6, hf⟩ := gif hf
  cases hf
  have e : ((Ki.2 1) + 1).toNat = (Ki.2 1).toNat + 1 := by omega
  simp only [cwN, swN, zinN, reduceIte, Nat.reduceEqDiff, e]
  generalize (Ki.2 1).toNat = x1
  generalize (Ki.2 2).toNat = x2
  generalize (Ki.2 4).toNat = x4
  generalize (Ki.2 5).toNat = x5
  generalize (Ki.2 6).toNat = x6
  generalize (Ki.2 8).toNat = x8
  generalize (Ki.2 9).toNat = x9
  clear e
  omega

abbrev Q_Tokens_init (K : zK) (D : va_G) (ca : Nat → ClassId) (ad : Nat → Int → Nat → Nat) (a : Nat) (r : Int) (F : zF) (B : zB) (K9 : zK) (A : Nat → Prop) : Array Value → State → Outcome → State → Prop := va_Qv (S := (Nat → Int → Nat → Nat) × List Nat) (fun u => zG ad K.2 u.1 K9.2 ∧ u.1 10 r 0 = a) (fun u => zPo D ca u.1 lnC K9.2 u.2 F B A) A
def f_Tokens_init (Ki : zK) (F : zF) (B : zB) : zOm := if 0 ≤ Ki.2 10 then some (Ki.2 10, (zinF F 10 (Ki.2 10) [0, 0, 0, 0, 0, 0, 0, 0, 0]), (zinB B 10 (Ki.2 10) (fun _ _ => 0)), (Ki.1, zinN Ki.2 10)) else none
set_option maxHeartbeats 4000000 in
set_option maxRecDepth 100000 in
theorem c_Tokens_init {l : Launch} {D : va_G} {ca : Nat → ClassId} {ad : Nat → Int → Nat → Nat} {L : List Nat} {aS vS : Nat → Nat} {sz a : Nat} {Ki : zK} {F : zF} {B : zB} {r : Int} {F9 : zF} {B9 : zB} {K9 : zK} (hf : f_Tokens_init Ki F B = some (r, F9, B9, K9)) : Met l ({ cls := "StaveHouse$Tokens", name := "<init>", desc := "()V" } : Jvm.MethodName) (Cond.code ({ cls := "StaveHouse$Tokens", name := "<init>", desc := "()V" } : Jvm.MethodName) prog_12_method_1_code 1 (Option.none : Option Jvm.ClassFile.FieldType) :: wAll) ({ frames := 1, cells := 3, slots := 9003, locals := 12 } : Room) (va_Pc [.ref a] (zPreX D ca ad lnC Ki.2 L aS vS F B a (.inr (10, rg 9 (fun j => defaultValue (tyX10 j)))) sz)) (Q_Tokens_init Ki D ca ad a r F9 B9 K9 (zA (a :: L) sz)) 3 9003 (zA (a :: L) sz) := by
  refine zMetX (Qc := Q_Tokens_init Ki D ca ad a r F9 B9 K9) (lv := [(0, .ref a)]) (by decide) (Nat.le_of_ble_eq_true rfl) rfl (fun A p e s m below meth c ls X hnm hZ hS hl => ?_)
  obtain ⟨hx, hb, hr, hml, hown, hts, hlk, hK, hA, hL, hX⟩ := id X
  replace hnm : meth.name = "<init>" := hnm
  have hG : zG ad Ki.2 ad Ki.2 := zG.rf
  replace hf : (if 0 ≤ Ki.2 10 then some (Ki.2 10, (zinF F 10 (Ki.2 10) [0, 0, 0, 0, 0, 0, 0, 0, 0]), (zinB B 10 (Ki.2 10) (fun _ _ => 0)), (Ki.1, zinN Ki.2 10)) else none) = some (r, F9, B9, K9) := hf
  refine lv_aload_n hx hb d_12_1_0 rfl (lv_at hl 0 rfl) ?_
  refine W.objInit hx hb hown (hts _ k_1_71) (hts _ k_1_30) (hts _ k_1_31) rfl (by rw [hml]; exact hl.1) rfl d_12_1_1 (Nat.le_of_ble_eq_true rfl) (Nat.le_of_ble_eq_true rfl) ?_
  refine W.eq (g2 := F0 m 4 ls []) rfl ?_
  refine lv_aload_n hx hb d_12_1_4 rfl (lv_at hl 0 rfl) ?_
  refine lv_sipush (v := iI 3001) hx hb d_12_1_5 (by decide) ?_
  refine zxnewa (atype := .int) hx hb hts (ty := .int) rfl k_1_57 hK 0 rfl (fun _ _ => gu_int) hZ hS hA (a0 := (3001, .inl (zAr (fun _ => 0)))) (fun _ => rfl) (by decide) (N' := 3001) (by decide) (Nat.le_of_ble_eq_true rfl) (Nat.le_of_ble_eq_true rfl) (Nat.le_of_ble_eq_true rfl) d_12_1_8 (fun q1 H1 hZ1 hS1 => ?_)
  replace hZ1 : zHx D ca ad lnC Ki.2 L F B [(a, .inr (10, rg 9 (fun j => defaultValue (tyX10 j)))), (q1, .inl (ca 0, 3001, .inl (zAr (fun _ => 0))))] A H1 := hZ1
  refine W.widen (k := 1) (n := 3001) (Nat.le_of_ble_eq_true rfl) (Nat.le_of_ble_eq_true rfl) ?_
  refine zxputF hx hb hts inW_10 tyX10 tyX10_ok nmX10 hown hK hZ1 hS1 0 rfl rfl (k := 5) (by decide) k_1_82 rfl hnm rfl rfl rfl d_12_1_10 (fun H2 locs2 hZ2 hS2 => ?_)
  replace hZ2 : zHx D ca ad lnC Ki.2 L F B [(a, .inr (10, rg 9 (va_up (fun j => defaultValue (tyX10 j)) 5 (.ref q1)))), (q1, .inl (ca 0, 3001, .inl (zAr (fun _ => 0))))] A H2 := hZ2
  clear hZ1 hS1
  refine lv_aload_n hx hb d_12_1_13 rfl (lv_at hl 0 rfl) ?_
  refine lv_sipush (v := iI 3001) hx hb d_12_1_14 (by decide) ?_
  refine zxnewa (atype := .int) hx hb hts (ty := .int) rfl k_1_57 hK 0 rfl (fun _ _ => gu_int) hZ2 hS2 hA (a0 := (3001, .inl (zAr (fun _ => 0)))) (fun _ => rfl) (by decide) (N' := 3001) (by decide) (Nat.le_of_ble_eq_true rfl) (Nat.le_of_ble_eq_true rfl) (Nat.le_of_ble_eq_true rfl) d_12_1_17 (fun q3 H3 hZ3 hS3 => ?_)
  replace hZ3 : zHx D ca ad lnC Ki.2 L F B [(a, .inr (10, rg 9 (va_up (fun j => defaultValue (tyX10 j)) 5 (.ref q1)))), (q1, .inl (ca 0, 3001, .inl (zAr (fun _ => 0)))), (q3, .inl (ca 0, 3001, .inl (zAr (fun _ => 0))))] A H3 := hZ3
  clear hZ2 hS2
  refine W.widen (k := 2) (n := 6002) (Nat.le_of_ble_eq_true rfl) (Nat.le_of_ble_eq_true rfl) ?_
  refine zxputF hx hb hts inW_10 tyX10 tyX10_ok nmX10 hown hK hZ3 hS3 0 rfl rfl (k := 6) (by decide) k_1_83 rfl hnm rfl rfl rfl d_12_1_19 (fun H4 locs4 hZ4 hS4 => ?_)
  replace hZ4 : zHx D ca ad lnC Ki.2 L F B [(a, .inr (10, rg 9 (va_up (va_up (fun j => defaultValue (tyX10 j)) 5 (.ref q1)) 6 (.ref q3)))), (q1, .inl (ca 0, 3001, .inl (zAr (fun _ => 0)))), (q3, .inl (ca 0, 3001, .inl (zAr (fun _ => 0))))] A H4 := hZ4
  clear hZ3 hS3
  refine lv_aload_n hx hb d_12_1_22 rfl (lv_at hl 0 rfl) ?_
  refine lv_sipush (v := iI 3001) hx hb d_12_1_23 (by decide) ?_
  refine zxnewa (atype := .long) hx hb hts (ty := .long) rfl k_1_105 hK 1 rfl (fun _ _ => gu_long) hZ4 hS4 hA (a0 := (3001, .inr (.inl (zLr (fun _ => 0))))) (fun _ => rfl) (by decide) (N' := 3001) (by decide) (Nat.le_of_ble_eq_true rfl) (Nat.le_of_ble_eq_true rfl) (Nat.le_of_ble_eq_true rfl) d_12_1_26 (fun q5 H5 hZ5 hS5 => ?_)
  replace hZ5 : zHx D ca ad lnC Ki.2 L F B [(a, .inr (10, rg 9 (va_up (va_up (fun j => defaultValue (tyX10 j)) 5 (.ref q1)) 6 (.ref q3)))), (q1, .inl (ca 0, 3001, .inl (zAr (fun _ => 0)))), (q3, .inl (ca 0, 3001, .inl (zAr (fun _ => 0)))), (q5, .inl (ca 1, 3001, .inr (.inl (zLr (fun _ => 0)))))] A H5 := hZ5
  clear hZ4 hS4
  refine W.widen (k := 3) (n := 9003) (Nat.le_of_ble_eq_true rfl) (Nat.le_of_ble_eq_true rfl) ?_
  refine zxputF hx hb hts inW_10 tyX10 tyX10_ok nmX10 hown hK hZ5 hS5 0 rfl rfl (k := 7) (by decide) k_1_84 rfl hnm rfl rfl rfl d_12_1_28 (fun H6 locs6 hZ6 hS6 => ?_)
  replace hZ6 : zHx D ca ad lnC Ki.2 L F B [(a, .inr (10, rg 9 (va_up (va_up (va_up (fun j => defaultValue (tyX10 j)) 5 (.ref q1)) 6 (.ref q3)) 7 (.ref q5)))), (q1, .inl (ca 0, 3001, .inl (zAr (fun _ => 0)))), (q3, .inl (ca 0, 3001, .inl (zAr (fun _ => 0)))), (q5, .inl (ca 1, 3001, .inr (.inl (zLr (fun _ => 0)))))] A H6 := hZ6
  clear hZ5 hS5
  obtain ⟨g8, hf⟩ := gif hf
  obtain ⟨ad7, L7, hZ7, hG7, hq7⟩ : ∃ ad' L', zH D ca ad' lnC (zinN Ki.2 10) L' (zinF F 10 (Ki.2 10) [0, 0, 0, 0, 0, 0, 0, 0, 0]) (zinB B 10 (Ki.2 10) (fun _ _ => 0)) A H6 ∧ zG ad Ki.2 ad' (zinN Ki.2 10) ∧ ad' 10 (Ki.2 10) 0 = a := ⟨_, _, ztake2 (c := 10) (n := 9) (l := [(0, a), (6, q1), (7, q3), (8, q5)]) (fi := [0, 0, 0, 0, 0, 0, 0, 0, 0]) (b := (fun _ _ => 0)) (a := a) (r2 := []) (r3 := [(5, 0), (6, 0), (7, 1)]) (r4 := []) hZ6 g8 (by decide +kernel) (by decide +kernel) (by decide +kernel) rfl (show 0 ∈ ([0, 6, 7, 8] : List Nat) by decide) (show zAll [(5, 0), (6, 0), (7, 1)] (fun x : Nat × Nat => x.1 + 1 ∈ ([0, 6, 7, 8] : List Nat)) from (And.intro (by decide) (And.intro (by decide) (And.intro (by decide) trivial)))) (show zAll [] (fun x : Nat × Nat => x.1 + 1 ∈ ([0, 6, 7, 8] : List Nat)) from trivial) rfl rfl (List.mem_of_getElem? (i := 0) rfl) (And.intro rfl (And.intro rfl (And.intro rfl (And.intro rfl (And.intro rfl (And.intro rfl (And.intro rfl (And.intro rfl (And.intro rfl trivial))))))))) (And.intro (List.mem_of_getElem? (i := 1) rfl) (And.intro (List.mem_of_getElem? (i := 2) rfl) (And.intro (List.mem_of_getElem? (i := 3) rfl) trivial))) trivial trivial (And.intro (fun h => absurd h (by decide)) (And.intro (fun h => absurd h (by decide)) (And.intro (fun h => absurd h (by decide)) trivial))), hG.tr zinA_G, zinA_new⟩
  cases hf
  exact W.vret hx hb hr (fun t ht hW => ⟨⟨(ad7, L7), rfl, ⟨hG7, hq7⟩, by rw [ht]; exact hZ7, va_K.moved hW.alike hK⟩, hS6.F ht⟩) hS6.2.2 d_12_1_31 hlk

abbrev Q_Walker_init (K : zK) (D : va_G) (ca : Nat → ClassId) (ad : Nat → Int → Nat → Nat) (a : Nat) (r : Int) (F : zF) (B : zB) (K9 : zK) (A : Nat → Prop) : Array Value → State → Outcome → State → Prop := va_Qv (S := (Nat → Int → Nat → Nat) × List Nat) (fun u => zG ad K.2 u.1 K9.2 ∧ u.1 11 r 0 = a) (fun u => zPo D ca u.1 lnC K9.2 u.2 F B A) A
def f_Walker_init (Ki : zK) (F : zF) (B : zB) : zOm := if 0 ≤ Ki.2 11 then if (-1 : Int) < Ki.2 3 then if (-1 : Int) < Ki.2 4 then some (Ki.2 11, (zinF F 11 (Ki.2 11) [(-1), (-1), 0, 0, 0, 0, 0, 0, 0, 0, 0, 0, 0, 0, 0, 0, 0, 0, 0]), (zinB B 11 (Ki.2 11) (fun _ _ => 0)), (Ki.1, zinN Ki.2 11)) else none else none else none
set_option maxHeartbeats 4000000 in
set_option maxRecDepth 100000 in
theorem c_Walker_init {l : Launch} {D : va_G} {ca : Nat → ClassId} {ad : Nat → Int → Nat → Nat} {L : List Nat} {aS vS : Nat → Nat} {sz a : Nat} {Ki : zK} {F : zF} {B : zB} {r : Int} {F9 : zF} {B9 : zB} {K9 : zK} (hf : f_Walker_init Ki F B = some (r, F9, B9, K9)) : Met l ({ cls := "StaveHouse$Walker", name := "<init>", desc := "()V" } : Jvm.MethodName) (Cond.code ({ cls := "StaveHouse$Walker", name := "<init>", desc := "()V" } : Jvm.MethodName) prog_13_method_1_code 1 (Option.none : Option Jvm.ClassFile.FieldType) :: wAll) ({ frames := 1, cells := 4, slots := 196, locals := 12 } : Room) (va_Pc [.ref a] (zPreX D ca ad lnC Ki.2 L aS vS F B a (.inr (11, rg 19 (fun j => defaultValue (tyX11 j)))) sz)) (Q_Walker_init Ki D ca ad a r F9 B9 K9 (zA (a :: L) sz)) 4 196 (zA (a :: L) sz) := by
  refine zMetX (Qc := Q_Walker_init Ki D ca ad a r F9 B9 K9) (lv := [(0, .ref a)]) (by decide) (Nat.le_of_ble_eq_true rfl) rfl (fun A p e s m below meth c ls X hnm hZ hS hl => ?_)
  obtain ⟨hx, hb, hr, hml, hown, hts, hlk, hK, hA, hL, hX⟩ := id X
  replace hnm : meth.name = "<init>" := hnm
  have hG : zG ad Ki.2 ad Ki.2 := zG.rf
  replace hf : (if 0 ≤ Ki.2 11 then if (-1 : Int) < Ki.2 3 then if (-1 : Int) < Ki.2 4 then some (Ki.2 11, (zinF F 11 (Ki.2 11) [(-1), (-1), 0, 0, 0, 0, 0, 0, 0, 0, 0, 0, 0, 0, 0, 0, 0, 0, 0]), (zinB B 11 (Ki.2 11) (fun _ _ => 0)), (Ki.1, zinN Ki.2 11)) else none else none else none) = some (r, F9, B9, K9) := hf
  refine lv_aload_n hx hb d_13_1_0 rfl (lv_at hl 0 rfl) ?_
  refine W.objInit hx hb hown (hts _ k_1_189) (hts _ k_1_30) (hts _ k_1_31) rfl (by rw [hml]; exact hl.1) rfl d_13_1_1 (Nat.le_of_ble_eq_true rfl) (Nat.le_of_ble_eq_true rfl) ?_
  refine W.eq (g2 := F0 m 4 ls []) rfl ?_
  refine lv_aload_n hx hb d_13_1_4 rfl (lv_at hl 0 rfl) ?_
  refine lv_iconst (v := iI 4) hx hb d_13_1_5 rfl ?_
  refine zxnewa (atype := .int) hx hb hts (ty := .int) rfl k_1_57 hK 0 rfl (fun _ _ => gu_int) hZ hS hA (a0 := (4, .inl (zAr (fun _ => 0)))) (fun _ => rfl) (by decide) (N' := 4) (by decide) (Nat.le_of_ble_eq_true rfl) (Nat.le_of_ble_eq_true rfl) (Nat.le_of_ble_eq_true rfl) d_13_1_6 (fun q1 H1 hZ1 hS1 => ?_)
  replace hZ1 : zHx D ca ad lnC Ki.2 L F B [(a, .inr (11, rg 19 (fun j => defaultValue (tyX11 j)))), (q1, .inl (ca 0, 4, .inl (zAr (fun _ => 0))))] A H1 := hZ1
  refine W.widen (k := 1) (n := 4) (Nat.le_of_ble_eq_true rfl) (Nat.le_of_ble_eq_true rfl) ?_
  refine zxputF hx hb hts inW_11 tyX11 tyX11_ok nmX11 hown hK hZ1 hS1 0 rfl rfl (k := 14) (by decide) k_1_204 rfl hnm rfl rfl rfl d_13_1_8 (fun H2 locs2 hZ2 hS2 => ?_)
  replace hZ2 : zHx D ca ad lnC Ki.2 L F B [(a, .inr (11, rg 19 (va_up (fun j => defaultValue (tyX11 j)) 14 (.ref q1)))), (q1, .inl (ca 0, 4, .inl (zAr (fun _ => 0))))] A H2 := hZ2
  clear hZ1 hS1
  refine lv_aload_n hx hb d_13_1_11 rfl (lv_at hl 0 rfl) ?_
  refine lv_bipush (v := iI 64) hx hb d_13_1_12 (by decide) ?_
  refine zxnewa (atype := .int) hx hb hts (ty := .int) rfl k_1_57 hK 0 rfl (fun _ _ => gu_int) hZ2 hS2 hA (a0 := (64, .inl (zAr (fun _ => 0)))) (fun _ => rfl) (by decide) (N' := 64) (by decide) (Nat.le_of_ble_eq_true rfl) (Nat.le_of_ble_eq_true rfl) (Nat.le_of_ble_eq_true rfl) d_13_1_14 (fun q3 H3 hZ3 hS3 => ?_)
  replace hZ3 : zHx D ca ad lnC Ki.2 L F B [(a, .inr (11, rg 19 (va_up (fun j => defaultValue (tyX11 j)) 14 (.ref q1)))), (q1, .inl (ca 0, 4, .inl (zAr (fun _ => 0)))), (q3, .inl (ca 0, 64, .inl (zAr (fun _ => 0))))] A H3 := hZ3
  clear hZ2 hS2
  refine W.widen (k := 2) (n := 68) (Nat.le_of_ble_eq_true rfl) (Nat.le_of_ble_eq_true rfl) ?_
  refine zxputF hx hb hts inW_11 tyX11 tyX11_ok nmX11 hown hK hZ3 hS3 0 rfl rfl (k := 15) (by decide) k_1_205 rfl hnm rfl rfl rfl d_13_1_16 (fun H4 locs4 hZ4 hS4 => ?_)
  replace hZ4 : zHx D ca ad lnC Ki.2 L F B [(a, .inr (11, rg 19 (va_up (va_up (fun j => defaultValue (tyX11 j)) 14 (.ref q1)) 15 (.ref q3)))), (q1, .inl (ca 0, 4, .inl (zAr (fun _ => 0)))), (q3, .inl (ca 0, 64, .inl (zAr (fun _ => 0))))] A H4 := hZ4
  clear hZ3 hS3
  refine lv_aload_n hx hb d_13_1_19 rfl (lv_at hl 0 rfl) ?_
  refine lv_bipush (v := iI 64) hx hb d_13_1_20 (by decide) ?_
  refine zxnewa (atype := .int) hx hb hts (ty := .int) rfl k_1_57 hK 0 rfl (fun _ _ => gu_int) hZ4 hS4 hA (a0 := (64, .inl (zAr (fun _ => 0)))) (fun _ => rfl) (by decide) (N' := 64) (by decide) (Nat.le_of_ble_eq_true rfl) (Nat.le_of_ble_eq_true rfl) (Nat.le_of_ble_eq_true rfl) d_13_1_22 (fun q5 H5 hZ5 hS5 => ?_)
  replace hZ5 : zHx D ca ad lnC Ki.2 L F B [(a, .inr (11, rg 19 (va_up (va_up (fun j => defaultValue (tyX11 j)) 14 (.ref q1)) 15 (.ref q3)))), (q1, .inl (ca 0, 4, .inl (zAr (fun _ => 0)))), (q3, .inl (ca 0, 64, .inl (zAr (fun _ => 0)))), (q5, .inl (ca 0, 64, .inl (zAr (fun _ => 0))))] A H5 := hZ5
  clear hZ4 hS4
  refine W.widen (k := 3) (n := 132) (Nat.le_of_ble_eq_true rfl) (Nat.le_of_ble_eq_true rfl) ?_
  refine zxputF hx hb hts inW_11 tyX11 tyX11_ok nmX11 hown hK hZ5 hS5 0 rfl rfl (k := 16) (by decide) k_1_206 rfl hnm rfl rfl rfl d_13_1_24 (fun H6 locs6 hZ6 hS6 => ?_)
  replace hZ6 : zHx D ca ad lnC Ki.2 L F B [(a, .inr (11, rg 19 (va_up (va_up (va_up (fun j => defaultValue (tyX11 j)) 14 (.ref q1)) 15 (.ref q3)) 16 (.ref q5)))), (q1, .inl (ca 0, 4, .inl (zAr (fun _ => 0)))), (q3, .inl (ca 0, 64, .inl (zAr (fun _ => 0)))), (q5, .inl (ca 0, 64, .inl (zAr (fun _ => 0))))] A H6 := hZ6
  clear hZ5 hS5
  refine lv_aload_n hx hb d_13_1_27 rfl (lv_at hl 0 rfl) ?_
  refine lv_bipush (v := iI 64) hx hb d_13_1_28 (by decide) ?_
  refine zxnewa (atype := .int) hx hb hts (ty := .int) rfl k_1_57 hK 0 rfl (fun _ _ => gu_int) hZ6 hS6 hA (a0 := (64, .inl (zAr (fun _ => 0)))) (fun _ => rfl) (by decide) (N' := 64) (by decide) (Nat.le_of_ble_eq_true rfl) (Nat.le_of_ble_eq_true rfl) (Nat.le_of_ble_eq_true rfl) d_13_1_30 (fun q7 H7 hZ7 hS7 => ?_)
  replace hZ7 : zHx D ca ad lnC Ki.2 L F B [(a, .inr (11, rg 19 (va_up (va_up (va_up (fun j => defaultValue (tyX11 j)) 14 (.ref q1)) 15 (.ref q3)) 16 (.ref q5)))), (q1, .inl (ca 0, 4, .inl (zAr (fun _ => 0)))), (q3, .inl (ca 0, 64, .inl (zAr (fun _ => 0)))), (q5, .inl (ca 0, 64, .inl (zAr (fun _ => 0)))), (q7, .inl (ca 0, 64, .inl (zAr (fun _ => 0))))] A H7 := hZ7
  clear hZ6 hS6
  refine W.widen (k := 4) (n := 196) (Nat.le_of_ble_eq_true rfl) (Nat.le_of_ble_eq_true rfl) ?_
  refine zxputF hx hb hts inW_11 tyX11 tyX11_ok nmX11 hown hK hZ7 hS7 0 rfl rfl (k := 17) (by decide) k_1_207 rfl hnm rfl rfl rfl d_13_1_32 (fun H8 locs8 hZ8 hS8 => ?_)
  replace hZ8 : zHx D ca ad lnC Ki.2 L F B [(a, .inr (11, rg 19 (va_up (va_up (va_up (va_up (fun j => defaultValue (tyX11 j)) 14 (.ref q1)) 15 (.ref q3)) 16 (.ref q5)) 17 (.ref q7)))), (q1, .inl (ca 0, 4, .inl (zAr (fun _ => 0)))), (q3, .inl (ca 0, 64, .inl (zAr (fun _ => 0)))), (q5, .inl (ca 0, 64, .inl (zAr (fun _ => 0)))), (q7, .inl (ca 0, 64, .inl (zAr (fun _ => 0))))] A H8 := hZ8
  clear hZ7 hS7
  obtain ⟨g10, hf⟩ := gif hf
  obtain ⟨g11, hf⟩ := gif hf
  obtain ⟨g12, hf⟩ := gif hf
  obtain ⟨ad9, L9, hZ9, hG9, hq9⟩ : ∃ ad' L', zH D ca ad' lnC (zinN Ki.2 11) L' (zinF F 11 (Ki.2 11) [(-1), (-1), 0, 0, 0, 0, 0, 0, 0, 0, 0, 0, 0, 0, 0, 0, 0, 0, 0]) (zinB B 11 (Ki.2 11) (fun _ _ => 0)) A H8 ∧ zG ad Ki.2 ad' (zinN Ki.2 11) ∧ ad' 11 (Ki.2 11) 0 = a := ⟨_, _, ztake2 (c := 11) (n := 19) (l := [(0, a), (15, q1), (16, q3), (17, q5), (18, q7)]) (fi := [(-1), (-1), 0, 0, 0, 0, 0, 0, 0, 0, 0, 0, 0, 0, 0, 0, 0, 0, 0]) (b := (fun _ _ => 0)) (a := a) (r2 := [(0, 3), (1, 4)]) (r3 := [(14, 0), (15, 0), (16, 0), (17, 0)]) (r4 := []) hZ8 g10 (by decide +kernel) (by decide +kernel) (by decide +kernel) rfl (show 0 ∈ ([0, 15, 16, 17, 18] : List Nat) by decide) (show zAll [(14, 0), (15, 0), (16, 0), (17, 0)] (fun x : Nat × Nat => x.1 + 1 ∈ ([0, 15, 16, 17, 18] : List Nat)) from (And.intro (by decide) (And.intro (by decide) (And.intro (by decide) (And.intro (by decide) trivial))))) (show zAll [] (fun x : Nat × Nat => x.1 + 1 ∈ ([0, 15, 16, 17, 18] : List Nat)) from trivial) rfl rfl (List.mem_of_getElem? (i := 0) rfl) (And.intro rfl (And.intro rfl (And.intro rfl (And.intro rfl (And.intro rfl (And.intro rfl (And.intro rfl (And.intro rfl (And.intro rfl (And.intro rfl (And.intro rfl (And.intro rfl (And.intro rfl (And.intro rfl (And.intro rfl (And.intro rfl (And.intro rfl (And.intro rfl (And.intro rfl trivial))))))))))))))))))) (And.intro (List.mem_of_getElem? (i := 1) rfl) (And.intro (List.mem_of_getElem? (i := 2) rfl) (And.intro (List.mem_of_getElem? (i := 3) rfl) (And.intro (List.mem_of_getElem? (i := 4) rfl) trivial)))) trivial (And.intro g11 (And.intro g12 trivial)) (And.intro (fun h => absurd h (by decide)) (And.intro (fun h => absurd h (by decide)) (And.intro (fun h => absurd h (by decide)) (And.intro (fun h => absurd h (by decide)) trivial)))), hG.tr zinA_G, zinA_new⟩
  cases hf
  exact W.vret hx hb hr (fun t ht hW => ⟨⟨(ad9, L9), rfl, ⟨hG9, hq9⟩, by rw [ht]; exact hZ9, va_K.moved hW.alike hK⟩, hS8.F ht⟩) hS8.2.2 d_13_1_35 hlk

abbrev Q_Piece_init (K : zK) (D : va_G) (ca : Nat → ClassId) (ad : Nat → Int → Nat → Nat) (a : Nat) (r : Int) (F : zF) (B : zB) (K9 : zK) (A : Nat → Prop) : Array Value → State → Outcome → State → Prop := va_Qv (S := (Nat → Int → Nat → Nat) × List Nat) (fun u => zG ad K.2 u.1 K9.2 ∧ u.1 6 r 0 = a) (fun u => zPo D ca u.1 lnC K9.2 u.2 F B A) A
def f_Piece_init (Ki : zK) (F : zF) (B : zB) : zOm := if 0 ≤ Ki.2 6 then if (-1 : Int) < Ki.2 2 then if (-1 : Int) < Ki.2 5 then if (-1 : Int) < Ki.2 9 then if (-1 : Int) < Ki.2 4 then some (Ki.2 6, (zinF F 6 (Ki.2 6) [0, 0, 0, 0, 0, 0, 0, 0, (-1), (-1), 0, 0, (-1), 0]), (zinB B 6 (Ki.2 6) (fun k _ => if k = 0 then -1 else 0)), (Ki.1, zinN Ki.2 6)) else none else none else none else none else none
set_option maxHeartbeats 4000000 in
set_option maxRecDepth 100000 in
theorem c_Piece_init {l : Launch} {D : va_G} {ca : Nat → ClassId} {ad : Nat → Int → Nat → Nat} {L : List Nat} {aS vS : Nat → Nat} {sz a : Nat} {Ki : zK} {F : zF} {B : zB} {r : Int} {F9 : zF} {B9 : zB} {K9 : zK} (hf : f_Piece_init Ki F B = some (r, F9, B9, K9)) : Met l ({ cls := "StaveHouse$Piece", name := "<init>", desc := "()V" } : Jvm.MethodName) (Cond.code ({ cls := "StaveHouse$Piece", name := "<init>", desc := "()V" } : Jvm.MethodName) prog_8_method_1_code 1 (Option.none : Option Jvm.ClassFile.FieldType) :: wAll) ({ frames := 1, cells := 1, slots := 4, locals := 12 } : Room) (va_Pc [.ref a] (zPreX D ca ad lnC Ki.2 L aS vS F B a (.inr (6, rg 14 (fun j => defaultValue (tyX6 j)))) sz)) (Q_Piece_init Ki D ca ad a r F9 B9 K9 (zA (a :: L) sz)) 1 4 (zA (a :: L) sz) := by
  refine zMetX (Qc := Q_Piece_init Ki D ca ad a r F9 B9 K9) (lv := [(0, .ref a)]) (by decide) (Nat.le_of_ble_eq_true rfl) rfl (fun A p e s m below meth c ls X hnm hZ hS hl => ?_)
  obtain ⟨hx, hb, hr, hml, hown, hts, hlk, hK, hA, hL, hX⟩ := id X
  replace hnm : meth.name = "<init>" := hnm
  have hG : zG ad Ki.2 ad Ki.2 := zG.rf
  replace hf : (if 0 ≤ Ki.2 6 then if (-1 : Int) < Ki.2 2 then if (-1 : Int) < Ki.2 5 then if (-1 : Int) < Ki.2 9 then if (-1 : Int) < Ki.2 4 then some (Ki.2 6, (zinF F 6 (Ki.2 6) [0, 0, 0, 0, 0, 0, 0, 0, (-1), (-1), 0, 0, (-1), 0]), (zinB B 6 (Ki.2 6) (fun k _ => if k = 0 then -1 else 0)), (Ki.1, zinN Ki.2 6)) else none else none else none else none else none) = some (r, F9, B9, K9) := hf
  refine lv_aload_n hx hb d_8_1_0 rfl (lv_at hl 0 rfl) ?_
  refine W.objInit hx hb hown (hts _ k_2_182) (hts _ k_1_30) (hts _ k_1_31) rfl (by rw [hml]; exact hl.1) rfl d_8_1_1 (Nat.le_of_ble_eq_true rfl) (Nat.le_of_ble_eq_true rfl) ?_
  refine W.eq (g2 := F0 m 4 ls []) rfl ?_
  refine lv_aload_n hx hb d_8_1_4 rfl (lv_at hl 0 rfl) ?_
  refine lv_iconst (v := iI 4) hx hb d_8_1_5 rfl ?_
  refine zxnewq hx hb hts hown k_2_183 (hX.2.1 _ (List.mem_of_getElem? (i := 1) rfl) :) hK 6 rfl hZ hS hA (by decide) (N' := 4) (by decide) (Nat.le_of_ble_eq_true rfl) (Nat.le_of_ble_eq_true rfl) (Nat.le_of_ble_eq_true rfl) d_8_1_6 (fun q1 H1 hZ1 hS1 => ?_)
  replace hZ1 : zHx D ca ad lnC Ki.2 L F B [(a, .inr (6, rg 14 (fun j => defaultValue (tyX6 j)))), (q1, .inl (ca 6, 4, .inr (.inr (.inr (.inr (fun _ => none))))))] A H1 := hZ1
  refine W.widen (k := 1) (n := 4) (Nat.le_of_ble_eq_true rfl) (Nat.le_of_ble_eq_true rfl) ?_
  refine zxputF hx hb hts inW_6 tyX6 tyX6_ok nmX6 hown hK hZ1 hS1 0 rfl rfl (k := 0) (by decide) k_2_185 rfl hnm rfl rfl rfl d_8_1_9 (fun H2 locs2 hZ2 hS2 => ?_)
  replace hZ2 : zHx D ca ad lnC Ki.2 L F B [(a, .inr (6, rg 14 (va_up (fun j => defaultValue (tyX6 j)) 0 (.ref q1)))), (q1, .inl (ca 6, 4, .inr (.inr (.inr (.inr (fun _ => none))))))] A H2 := hZ2
  clear hZ1 hS1
  obtain ⟨g4, hf⟩ := gif hf
  obtain ⟨g5, hf⟩ := gif hf
  obtain ⟨g6, hf⟩ := gif hf
  obtain ⟨g7, hf⟩ := gif hf
  obtain ⟨g8, hf⟩ := gif hf
  obtain ⟨ad3, L3, hZ3, hG3, hq3⟩ : ∃ ad' L', zH D ca ad' lnC (zinN Ki.2 6) L' (zinF F 6 (Ki.2 6) [0, 0, 0, 0, 0, 0, 0, 0, (-1), (-1), 0, 0, (-1), 0]) (zinB B 6 (Ki.2 6) (fun k _ => if k = 0 then -1 else 0)) A H2 ∧ zG ad Ki.2 ad' (zinN Ki.2 6) ∧ ad' 6 (Ki.2 6) 0 = a := ⟨_, _, ztake2 (c := 6) (n := 14) (l := [(0, a), (1, q1)]) (fi := [0, 0, 0, 0, 0, 0, 0, 0, (-1), (-1), 0, 0, (-1), 0]) (b := (fun k _ => if k = 0 then -1 else 0)) (a := a) (r2 := [(8, 2), (9, 5), (12, 9)]) (r3 := [(0, 14)]) (r4 := []) hZ2 g4 (by decide +kernel) (by decide +kernel) (by decide +kernel) rfl (show 0 ∈ ([0, 1] : List Nat) by decide) (show zAll [(0, 14)] (fun x : Nat × Nat => x.1 + 1 ∈ ([0, 1] : List Nat)) from (And.intro (by decide) trivial)) (show zAll [] (fun x : Nat × Nat => x.1 + 1 ∈ ([0, 1] : List Nat)) from trivial) rfl rfl (List.mem_of_getElem? (i := 0) rfl) (And.intro rfl (And.intro rfl (And.intro rfl (And.intro rfl (And.intro rfl (And.intro rfl (And.intro rfl (And.intro rfl (And.intro rfl (And.intro rfl (And.intro rfl (And.intro rfl (And.intro rfl (And.intro rfl trivial)))))))))))))) (And.intro (List.mem_of_getElem? (i := 1) rfl) trivial) trivial (And.intro g5 (And.intro g6 (And.intro g7 trivial))) (And.intro (fun _ _ => g8) trivial), hG.tr zinA_G, zinA_new⟩
  cases hf
  exact W.vret hx hb hr (fun t ht hW => ⟨⟨(ad3, L3), rfl, ⟨hG3, hq3⟩, by rw [ht]; exact hZ3, va_K.moved hW.alike hK⟩, hS2.F ht⟩) hS2.2.2 d_8_1_12 hlk

theorem m_Piece_init {Ki : zK} {F : zF} {B : zB} {r : Int} {F9 : zF} {B9 : zB} {K9 : zK} (hf : f_Piece_init Ki F B = some (r, F9, B9, K9)) : zKle Ki K9 := by
  replace hf : (if 0 ≤ Ki.2 6 then if (-1 : Int) < Ki.2 2 then if (-1 : Int) < Ki.2 5 then if (-1 : Int) < Ki.2 9 then if (-1 : Int) < Ki.2 4 then some (Ki.2 6, (zinF F 6 (Ki.2 6) [0, 0, 0, 0, 0, 0, 0, 0, (-1), (-1), 0, 0, (-1), 0]), (zinB B 6 (Ki.2 6) (fun k _ => if k = 0 then -1 else 0)), (Ki.1, zinN Ki.2 6)) else none else none else none else none else none) = some (r, F9, B9, K9) := hf
  obtain ⟨g4, hf⟩ := gif hf
  obtain ⟨g5, hf⟩ := gif hf
  obtain ⟨g6, hf⟩ := gif hf
  obtain ⟨g7, hf⟩ := gif hf
  obtain ⟨g8, hf⟩ := gif hf
  cases hf
  exact zKle_in

theorem w_Piece_init {Ki : zK} {F : zF} {B : zB} {r : Int} {F9 : zF} {B9 : zB} {K9 : zK} (hf : f_Piece_init Ki F B = some (r, F9, B9, K9)) : cwN K9.2 = cwN Ki.2 + 2 ∧ swN K9.2 = swN Ki.2 + 18 := by
  replace hf : (if 0 ≤ Ki.2 6 then if (-1 : Int) < Ki.2 2 then if (-1 : Int) < Ki.2 5 then if (-1 : Int) < Ki.2 9 then if (-1 : Int) < Ki.2 4 then some (Ki.2 6, (zinF F 6 (Ki.2 6) [0, 0, 0, 0, 0, 0, 0, 0, (-1), (-1), 0, 0, (-1), 0]), (zinB B 6 (Ki.2 6) (fun k _ => if k = 0 then -1 else 0)), (Ki.1, zinN Ki.2 6)) else none else none else none else none else none) = some (r, F9, B9, K9) := hf
  obtain ⟨g4, hf⟩ := gif hf
  obtain ⟨g5, hf⟩ := gif hf
  obtain ⟨g6, hf⟩ := gif hf
  obtain ⟨g7, hf⟩ := gif hf
  obtain ⟨g8, hf⟩ := gif hf
  cases hf
  have e : ((Ki.2 6) + 1).toNat = (Ki.2 6).toNat + 1 := by omega
  simp only [cwN, swN, zinN, reduceIte, Nat.reduceEqDiff, e]
  generalize (Ki.2 1).toNat = x1
  generalize (Ki.2 2).toNat = x2
  generalize (Ki.2 4).toNat = x4
  generalize (Ki.2 5).toNat = x5
  generalize (Ki.2 6).toNat = x6
  generalize (Ki.2 8).toNat = x8
  generalize (Ki.2 9).toNat = x9
  clear e
  omega

abbrev Q_Layout_init (K : zK) (D : va_G) (ca : Nat → ClassId) (ad : Nat → Int → Nat → Nat) (a : Nat) (r : Int) (F : zF) (B : zB) (K9 : zK) (A : Nat → Prop) : Array Value → State → Outcome → State → Prop := va_Qv (S := (Nat → Int → Nat → Nat) × List Nat) (fun u => zG ad K.2 u.1 K9.2 ∧ u.1 2 r 0 = a) (fun u => zPo D ca u.1 lnC K9.2 u.2 F B A) A
def f_Layout_init (Ki : zK) (F : zF) (B : zB) : zOm := if 0 ≤ Ki.2 2 then some (Ki.2 2, (zinF F 2 (Ki.2 2) [0, 0, 0, 0, 0, 0, 0, 0, 0, 0, 0, 0, 0]), (zinB B 2 (Ki.2 2) (fun _ _ => 0)), (Ki.1, zinN Ki.2 2)) else none
set_option maxHeartbeats 4000000 in
set_option maxRecDepth 100000 in
theorem c_Layout_init {l : Launch} {D : va_G} {ca : Nat → ClassId} {ad : Nat → Int → Nat → Nat} {L : List Nat} {aS vS : Nat → Nat} {sz a : Nat} {Ki : zK} {F : zF} {B : zB} {r : Int} {F9 : zF} {B9 : zB} {K9 : zK} (hf : f_Layout_init Ki F B = some (r, F9, B9, K9)) : Met l ({ cls := "StaveHouse$Layout", name := "<init>", desc := "()V" } : Jvm.MethodName) (Cond.code ({ cls := "StaveHouse$Layout", name := "<init>", desc := "()V" } : Jvm.MethodName) prog_4_method_1_code 1 (Option.none : Option Jvm.ClassFile.FieldType) :: wAll) ({ frames := 1, cells := 11, slots := 10308, locals := 12 } : Room) (va_Pc [.ref a] (zPreX D ca ad lnC Ki.2 L aS vS F B a (.inr (2, rg 13 (fun j => defaultValue (tyX2 j)))) sz)) (Q_Layout_init Ki D ca ad a r F9 B9 K9 (zA (a :: L) sz)) 11 10308 (zA (a :: L) sz) := by
  refine zMetX (Qc := Q_Layout_init Ki D ca ad a r F9 B9 K9) (lv := [(0, .ref a)]) (by decide) (Nat.le_of_ble_eq_true rfl) rfl (fun A p e s m below meth c ls X hnm hZ hS hl => ?_)
  obtain ⟨hx, hb, hr, hml, hown, hts, hlk, hK, hA, hL, hX⟩ := id X
  replace hnm : meth.name = "<init>" := hnm
  have hG : zG ad Ki.2 ad Ki.2 := zG.rf
  replace hf : (if 0 ≤ Ki.2 2 then some (Ki.2 2, (zinF F 2 (Ki.2 2) [0, 0, 0, 0, 0, 0, 0, 0, 0, 0, 0, 0, 0]), (zinB B 2 (Ki.2 2) (fun _ _ => 0)), (Ki.1, zinN Ki.2 2)) else none) = some (r, F9, B9, K9) := hf
  refine lv_aload_n hx hb d_4_1_0 rfl (lv_at hl 0 rfl) ?_
  refine W.objInit hx hb hown (hts _ k_6_214) (hts _ k_1_30) (hts _ k_1_31) rfl (by rw [hml]; exact hl.1) rfl d_4_1_1 (Nat.le_of_ble_eq_true rfl) (Nat.le_of_ble_eq_true rfl) ?_
  refine W.eq (g2 := F0 m 4 ls []) rfl ?_
  refine lv_aload_n hx hb d_4_1_4 rfl (lv_at hl 0 rfl) ?_
  refine lv_sipush (v := iI 3200) hx hb d_4_1_5 (by decide) ?_
  refine zxnewa (atype := .long) hx hb hts (ty := .long) rfl k_1_105 hK 1 rfl (fun _ _ => gu_long) hZ hS hA (a0 := (3200, .inr (.inl (zLr (fun _ => 0))))) (fun _ => rfl) (by decide) (N' := 3200) (by decide) (Nat.le_of_ble_eq_true rfl) (Nat.le_of_ble_eq_true rfl) (Nat.le_of_ble_eq_true rfl) d_4_1_8 (fun q1 H1 hZ1 hS1 => ?_)
  replace hZ1 : zHx D ca ad lnC Ki.2 L F B [(a, .inr (2, rg 13 (fun j => defaultValue (tyX2 j)))), (q1, .inl (ca 1, 3200, .inr (.inl (zLr (fun _ => 0)))))] A H1 := hZ1
  refine W.widen (k := 1) (n := 3200) (Nat.le_of_ble_eq_true rfl) (Nat.le_of_ble_eq_true rfl) ?_
  refine zxputF hx hb hts inW_2 tyX2 tyX2_ok nmX2 hown hK hZ1 hS1 0 rfl rfl (k := 1) (by decide) k_6_218 rfl hnm rfl rfl rfl d_4_1_10 (fun H2 locs2 hZ2 hS2 => ?_)
  replace hZ2 : zHx D ca ad lnC Ki.2 L F B [(a, .inr (2, rg 13 (va_up (fun j => defaultValue (tyX2 j)) 1 (.ref q1)))), (q1, .inl (ca 1, 3200, .inr (.inl (zLr (fun _ => 0)))))] A H2 := hZ2
  clear hZ1 hS1
  refine lv_aload_n hx hb d_4_1_13 rfl (lv_at hl 0 rfl) ?_
  refine lv_sipush (v := iI 3200) hx hb d_4_1_14 (by decide) ?_
  refine zxnewa (atype := .int) hx hb hts (ty := .int) rfl k_1_57 hK 0 rfl (fun _ _ => gu_int) hZ2 hS2 hA (a0 := (3200, .inl (zAr (fun _ => 0)))) (fun _ => rfl) (by decide) (N' := 3200) (by decide) (Nat.le_of_ble_eq_true rfl) (Nat.le_of_ble_eq_true rfl) (Nat.le_of_ble_eq_true rfl) d_4_1_17 (fun q3 H3 hZ3 hS3 => ?_)
  replace hZ3 : zHx D ca ad lnC Ki.2 L F B [(a, .inr (2, rg 13 (va_up (fun j => defaultValue (tyX2 j)) 1 (.ref q1)))), (q1, .inl (ca 1, 3200, .inr (.inl (zLr (fun _ => 0))))), (q3, .inl (ca 0, 3200, .inl (zAr (fun _ => 0))))] A H3 := hZ3
  clear hZ2 hS2
  refine W.widen (k := 2) (n := 6400) (Nat.le_of_ble_eq_true rfl) (Nat.le_of_ble_eq_true rfl) ?_
  refine zxputF hx hb hts inW_2 tyX2 tyX2_ok nmX2 hown hK hZ3 hS3 0 rfl rfl (k := 2) (by decide) k_6_219 rfl hnm rfl rfl rfl d_4_1_19 (fun H4 locs4 hZ4 hS4 => ?_)
  replace hZ4 : zHx D ca ad lnC Ki.2 L F B [(a, .inr (2, rg 13 (va_up (va_up (fun j => defaultValue (tyX2 j)) 1 (.ref q1)) 2 (.ref q3)))), (q1, .inl (ca 1, 3200, .inr (.inl (zLr (fun _ => 0))))), (q3, .inl (ca 0, 3200, .inl (zAr (fun _ => 0))))] A H4 := hZ4
  clear hZ3 hS3
  refine lv_aload_n hx hb d_4_1_22 rfl (lv_at hl 0 rfl) ?_
  refine lv_sipush (v := iI 3200) hx hb d_4_1_23 (by decide) ?_
  refine zxnewa (atype := .int) hx hb hts (ty := .int) rfl k_1_57 hK 0 rfl (fun _ _ => gu_int) hZ4 hS4 hA (a0 := (3200, .inl (zAr (fun _ => 0)))) (fun _ => rfl) (by decide) (N' := 3200) (by decide) (Nat.le_of_ble_eq_true rfl) (Nat.le_of_ble_eq_true rfl) (Nat.le_of_ble_eq_true rfl) d_4_1_26 (fun q5 H5 hZ5 hS5 => ?_)
  replace hZ5 : zHx D ca ad lnC Ki.2 L F B [(a, .inr (2, rg 13 (va_up (va_up (fun j => defaultValue (tyX2 j)) 1 (.ref q1)) 2 (.ref q3)))), (q1, .inl (ca 1, 3200, .inr (.inl (zLr (fun _ => 0))))), (q3, .inl (ca 0, 3200, .inl (zAr (fun _ => 0)))), (q5, .inl (ca 0, 3200, .inl (zAr (fun _ => 0))))] A H5 := hZ5
  clear hZ4 hS4
  refine W.widen (k := 3) (n := 9600) (Nat.le_of_ble_eq_true rfl) (Nat.le_of_ble_eq_true rfl) ?_
  refine zxputF hx hb hts inW_2 tyX2 tyX2_ok nmX2 hown hK hZ5 hS5 0 rfl rfl (k := 3) (by decide) k_6_220 rfl hnm rfl rfl rfl d_4_1_28 (fun H6 locs6 hZ6 hS6 => ?_)
  replace hZ6 : zHx D ca ad lnC Ki.2 L F B [(a, .inr (2, rg 13 (va_up (va_up (va_up (fun j => defaultValue (tyX2 j)) 1 (.ref q1)) 2 (.ref q3)) 3 (.ref q5)))), (q1, .inl (ca 1, 3200, .inr (.inl (zLr (fun _ => 0))))), (q3, .inl (ca 0, 3200, .inl (zAr (fun _ => 0)))), (q5, .inl (ca 0, 3200, .inl (zAr (fun _ => 0))))] A H6 := hZ6
  clear hZ5 hS5
  refine lv_aload_n hx hb d_4_1_31 rfl (lv_at hl 0 rfl) ?_
  refine lv_bipush (v := iI 101) hx hb d_4_1_32 (by decide) ?_
  refine zxnewa (atype := .int) hx hb hts (ty := .int) rfl k_1_57 hK 0 rfl (fun _ _ => gu_int) hZ6 hS6 hA (a0 := (101, .inl (zAr (fun _ => 0)))) (fun _ => rfl) (by decide) (N' := 101) (by decide) (Nat.le_of_ble_eq_true rfl) (Nat.le_of_ble_eq_true rfl) (Nat.le_of_ble_eq_true rfl) d_4_1_34 (fun q7 H7 hZ7 hS7 => ?_)
  replace hZ7 : zHx D ca ad lnC Ki.2 L F B [(a, .inr (2, rg 13 (va_up (va_up (va_up (fun j => defaultValue (tyX2 j)) 1 (.ref q1)) 2 (.ref q3)) 3 (.ref q5)))), (q1, .inl (ca 1, 3200, .inr (.inl (zLr (fun _ => 0))))), (q3, .inl (ca 0, 3200, .inl (zAr (fun _ => 0)))), (q5, .inl (ca 0, 3200, .inl (zAr (fun _ => 0)))), (q7, .inl (ca 0, 101, .inl (zAr (fun _ => 0))))] A H7 := hZ7
  clear hZ6 hS6
  refine W.widen (k := 4) (n := 9701) (Nat.le_of_ble_eq_true rfl) (Nat.le_of_ble_eq_true rfl) ?_
  refine zxputF hx hb hts inW_2 tyX2 tyX2_ok nmX2 hown hK hZ7 hS7 0 rfl rfl (k := 5) (by decide) k_6_222 rfl hnm rfl rfl rfl d_4_1_36 (fun H8 locs8 hZ8 hS8 => ?_)
  replace hZ8 : zHx D ca ad lnC Ki.2 L F B [(a, .inr (2, rg 13 (va_up (va_up (va_up (va_up (fun j => defaultValue (tyX2 j)) 1 (.ref q1)) 2 (.ref q3)) 3 (.ref q5)) 5 (.ref q7)))), (q1, .inl (ca 1, 3200, .inr (.inl (zLr (fun _ => 0))))), (q3, .inl (ca 0, 3200, .inl (zAr (fun _ => 0)))), (q5, .inl (ca 0, 3200, .inl (zAr (fun _ => 0)))), (q7, .inl (ca 0, 101, .inl (zAr (fun _ => 0))))] A H8 := hZ8
  clear hZ7 hS7
  refine lv_aload_n hx hb d_4_1_39 rfl (lv_at hl 0 rfl) ?_
  refine lv_bipush (v := iI 100) hx hb d_4_1_40 (by decide) ?_
  refine zxnewa (atype := .int) hx hb hts (ty := .int) rfl k_1_57 hK 0 rfl (fun _ _ => gu_int) hZ8 hS8 hA (a0 := (100, .inl (zAr (fun _ => 0)))) (fun _ => rfl) (by decide) (N' := 100) (by decide) (Nat.le_of_ble_eq_true rfl) (Nat.le_of_ble_eq_true rfl) (Nat.le_of_ble_eq_true rfl) d_4_1_42 (fun q9 H9 hZ9 hS9 => ?_)
  replace hZ9 : zHx D ca ad lnC Ki.2 L F B [(a, .inr (2, rg 13 (va_up (va_up (va_up (va_up (fun j => defaultValue (tyX2 j)) 1 (.ref q1)) 2 (.ref q3)) 3 (.ref q5)) 5 (.ref q7)))), (q1, .inl (ca 1, 3200, .inr (.inl (zLr (fun _ => 0))))), (q3, .inl (ca 0, 3200, .inl (zAr (fun _ => 0)))), (q5, .inl (ca 0, 3200, .inl (zAr (fun _ => 0)))), (q7, .inl (ca 0, 101, .inl (zAr (fun _ => 0)))), (q9, .inl (ca 0, 100, .inl (zAr (fun _ => 0))))] A H9 := hZ9
  clear hZ8 hS8
  refine W.widen (k := 5) (n := 9801) (Nat.le_of_ble_eq_true rfl) (Nat.le_of_ble_eq_true rfl) ?_
  refine zxputF hx hb hts inW_2 tyX2 tyX2_ok nmX2 hown hK hZ9 hS9 0 rfl rfl (k := 6) (by decide) k_6_223 rfl hnm rfl rfl rfl d_4_1_44 (fun H10 locs10 hZ10 hS10 => ?_)
  replace hZ10 : zHx D ca ad lnC Ki.2 L F B [(a, .inr (2, rg 13 (va_up (va_up (va_up (va_up (va_up (fun j => defaultValue (tyX2 j)) 1 (.ref q1)) 2 (.ref q3)) 3 (.ref q5)) 5 (.ref q7)) 6 (.ref q9)))), (q1, .inl (ca 1, 3200, .inr (.inl (zLr (fun _ => 0))))), (q3, .inl (ca 0, 3200, .inl (zAr (fun _ => 0)))), (q5, .inl (ca 0, 3200, .inl (zAr (fun _ => 0)))), (q7, .inl (ca 0, 101, .inl (zAr (fun _ => 0)))), (q9, .inl (ca 0, 100, .inl (zAr (fun _ => 0))))] A H10 := hZ10
  clear hZ9 hS9
  refine lv_aload_n hx hb d_4_1_47 rfl (lv_at hl 0 rfl) ?_
  refine lv_bipush (v := iI 101) hx hb d_4_1_48 (by decide) ?_
  refine zxnewa (atype := .int) hx hb hts (ty := .int) rfl k_1_57 hK 0 rfl (fun _ _ => gu_int) hZ10 hS10 hA (a0 := (101, .inl (zAr (fun _ => 0)))) (fun _ => rfl) (by decide) (N' := 101) (by decide) (Nat.le_of_ble_eq_true rfl) (Nat.le_of_ble_eq_true rfl) (Nat.le_of_ble_eq_true rfl) d_4_1_50 (fun q11 H11 hZ11 hS11 => ?_)
  replace hZ11 : zHx D ca ad lnC Ki.2 L F B [(a, .inr (2, rg 13 (va_up (va_up (va_up (va_up (va_up (fun j => defaultValue (tyX2 j)) 1 (.ref q1)) 2 (.ref q3)) 3 (.ref q5)) 5 (.ref q7)) 6 (.ref q9)))), (q1, .inl (ca 1, 3200, .inr (.inl (zLr (fun _ => 0))))), (q3, .inl (ca 0, 3200, .inl (zAr (fun _ => 0)))), (q5, .inl (ca 0, 3200, .inl (zAr (fun _ => 0)))), (q7, .inl (ca 0, 101, .inl (zAr (fun _ => 0)))), (q9, .inl (ca 0, 100, .inl (zAr (fun _ => 0)))), (q11, .inl (ca 0, 101, .inl (zAr (fun _ => 0))))] A H11 := hZ11
  clear hZ10 hS10
  refine W.widen (k := 6) (n := 9902) (Nat.le_of_ble_eq_true rfl) (Nat.le_of_ble_eq_true rfl) ?_
  refine zxputF hx hb hts inW_2 tyX2 tyX2_ok nmX2 hown hK hZ11 hS11 0 rfl rfl (k := 7) (by decide) k_6_224 rfl hnm rfl rfl rfl d_4_1_52 (fun H12 locs12 hZ12 hS12 => ?_)
  replace hZ12 : zHx D ca ad lnC Ki.2 L F B [(a, .inr (2, rg 13 (va_up (va_up (va_up (va_up (va_up (va_up (fun j => defaultValue (tyX2 j)) 1 (.ref q1)) 2 (.ref q3)) 3 (.ref q5)) 5 (.ref q7)) 6 (.ref q9)) 7 (.ref q11)))), (q1, .inl (ca 1, 3200, .inr (.inl (zLr (fun _ => 0))))), (q3, .inl (ca 0, 3200, .inl (zAr (fun _ => 0)))), (q5, .inl (ca 0, 3200, .inl (zAr (fun _ => 0)))), (q7, .inl (ca 0, 101, .inl (zAr (fun _ => 0)))), (q9, .inl (ca 0, 100, .inl (zAr (fun _ => 0)))), (q11, .inl (ca 0, 101, .inl (zAr (fun _ => 0))))] A H12 := hZ12
  clear hZ11 hS11
  refine lv_aload_n hx hb d_4_1_55 rfl (lv_at hl 0 rfl) ?_
  refine lv_bipush (v := iI 100) hx hb d_4_1_56 (by decide) ?_
  refine zxnewa (atype := .int) hx hb hts (ty := .int) rfl k_1_57 hK 0 rfl (fun _ _ => gu_int) hZ12 hS12 hA (a0 := (100, .inl (zAr (fun _ => 0)))) (fun _ => rfl) (by decide) (N' := 100) (by decide) (Nat.le_of_ble_eq_true rfl) (Nat.le_of_ble_eq_true rfl) (Nat.le_of_ble_eq_true rfl) d_4_1_58 (fun q13 H13 hZ13 hS13 => ?_)
  replace hZ13 : zHx D ca ad lnC Ki.2 L F B [(a, .inr (2, rg 13 (va_up (va_up (va_up (va_up (va_up (va_up (fun j => defaultValue (tyX2 j)) 1 (.ref q1)) 2 (.ref q3)) 3 (.ref q5)) 5 (.ref q7)) 6 (.ref q9)) 7 (.ref q11)))), (q1, .inl (ca 1, 3200, .inr (.inl (zLr (fun _ => 0))))), (q3, .inl (ca 0, 3200, .inl (zAr (fun _ => 0)))), (q5, .inl (ca 0, 3200, .inl (zAr (fun _ => 0)))), (q7, .inl (ca 0, 101, .inl (zAr (fun _ => 0)))), (q9, .inl (ca 0, 100, .inl (zAr (fun _ => 0)))), (q11, .inl (ca 0, 101, .inl (zAr (fun _ => 0)))), (q13, .inl (ca 0, 100, .inl (zAr (fun _ => 0))))] A H13 := hZ13
  clear hZ12 hS12
  refine W.widen (k := 7) (n := 10002) (Nat.le_of_ble_eq_true rfl) (Nat.le_of_ble_eq_true rfl) ?_
  refine zxputF hx hb hts inW_2 tyX2 tyX2_ok nmX2 hown hK hZ13 hS13 0 rfl rfl (k := 8) (by decide) k_6_225 rfl hnm rfl rfl rfl d_4_1_60 (fun H14 locs14 hZ14 hS14 => ?_)
  replace hZ14 : zHx D ca ad lnC Ki.2 L F B [(a, .inr (2, rg 13 (va_up (va_up (va_up (va_up (va_up (va_up (va_up (fun j => defaultValue (tyX2 j)) 1 (.ref q1)) 2 (.ref q3)) 3 (.ref q5)) 5 (.ref q7)) 6 (.ref q9)) 7 (.ref q11)) 8 (.ref q13)))), (q1, .inl (ca 1, 3200, .inr (.inl (zLr (fun _ => 0))))), (q3, .inl (ca 0, 3200, .inl (zAr (fun _ => 0)))), (q5, .inl (ca 0, 3200, .inl (zAr (fun _ => 0)))), (q7, .inl (ca 0, 101, .inl (zAr (fun _ => 0)))), (q9, .inl (ca 0, 100, .inl (zAr (fun _ => 0)))), (q11, .inl (ca 0, 101, .inl (zAr (fun _ => 0)))), (q13, .inl (ca 0, 100, .inl (zAr (fun _ => 0))))] A H14 := hZ14
  clear hZ13 hS13
  refine lv_aload_n hx hb d_4_1_63 rfl (lv_at hl 0 rfl) ?_
  refine lv_bipush (v := iI 100) hx hb d_4_1_64 (by decide) ?_
  refine zxnewa (atype := .long) hx hb hts (ty := .long) rfl k_1_105 hK 1 rfl (fun _ _ => gu_long) hZ14 hS14 hA (a0 := (100, .inr (.inl (zLr (fun _ => 0))))) (fun _ => rfl) (by decide) (N' := 100) (by decide) (Nat.le_of_ble_eq_true rfl) (Nat.le_of_ble_eq_true rfl) (Nat.le_of_ble_eq_true rfl) d_4_1_66 (fun q15 H15 hZ15 hS15 => ?_)
  replace hZ15 : zHx D ca ad lnC Ki.2 L F B [(a, .inr (2, rg 13 (va_up (va_up (va_up (va_up (va_up (va_up (va_up (fun j => defaultValue (tyX2 j)) 1 (.ref q1)) 2 (.ref q3)) 3 (.ref q5)) 5 (.ref q7)) 6 (.ref q9)) 7 (.ref q11)) 8 (.ref q13)))), (q1, .inl (ca 1, 3200, .inr (.inl (zLr (fun _ => 0))))), (q3, .inl (ca 0, 3200, .inl (zAr (fun _ => 0)))), (q5, .inl (ca 0, 3200, .inl (zAr (fun _ => 0)))), (q7, .inl (ca 0, 101, .inl (zAr (fun _ => 0)))), (q9, .inl (ca 0, 100, .inl (zAr (fun _ => 0)))), (q11, .inl (ca 0, 101, .inl (zAr (fun _ => 0)))), (q13, .inl (ca 0, 100, .inl (zAr (fun _ => 0)))), (q15, .inl (ca 1, 100, .inr (.inl (zLr (fun _ => 0)))))] A H15 := hZ15
  clear hZ14 hS14
  refine W.widen (k := 8) (n := 10102) (Nat.le_of_ble_eq_true rfl) (Nat.le_of_ble_eq_true rfl) ?_
  refine zxputF hx hb hts inW_2 tyX2 tyX2_ok nmX2 hown hK hZ15 hS15 0 rfl rfl (k := 9) (by decide) k_6_226 rfl hnm rfl rfl rfl d_4_1_68 (fun H16 locs16 hZ16 hS16 => ?_)
  replace hZ16 : zHx D ca ad lnC Ki.2 L F B [(a, .inr (2, rg 13 (va_up (va_up (va_up (va_up (va_up (va_up (va_up (va_up (fun j => defaultValue (tyX2 j)) 1 (.ref q1)) 2 (.ref q3)) 3 (.ref q5)) 5 (.ref q7)) 6 (.ref q9)) 7 (.ref q11)) 8 (.ref q13)) 9 (.ref q15)))), (q1, .inl (ca 1, 3200, .inr (.inl (zLr (fun _ => 0))))), (q3, .inl (ca 0, 3200, .inl (zAr (fun _ => 0)))), (q5, .inl (ca 0, 3200, .inl (zAr (fun _ => 0)))), (q7, .inl (ca 0, 101, .inl (zAr (fun _ => 0)))), (q9, .inl (ca 0, 100, .inl (zAr (fun _ => 0)))), (q11, .inl (ca 0, 101, .inl (zAr (fun _ => 0)))), (q13, .inl (ca 0, 100, .inl (zAr (fun _ => 0)))), (q15, .inl (ca 1, 100, .inr (.inl (zLr (fun _ => 0)))))] A H16 := hZ16
  clear hZ15 hS15
  refine lv_aload_n hx hb d_4_1_71 rfl (lv_at hl 0 rfl) ?_
  refine lv_bipush (v := iI 101) hx hb d_4_1_72 (by decide) ?_
  refine zxnewa (atype := .long) hx hb hts (ty := .long) rfl k_1_105 hK 1 rfl (fun _ _ => gu_long) hZ16 hS16 hA (a0 := (101, .inr (.inl (zLr (fun _ => 0))))) (fun _ => rfl) (by decide) (N' := 101) (by decide) (Nat.le_of_ble_eq_true rfl) (Nat.le_of_ble_eq_true rfl) (Nat.le_of_ble_eq_true rfl) d_4_1_74 (fun q17 H17 hZ17 hS17 => ?_)
  replace hZ17 : zHx D ca ad lnC Ki.2 L F B [(a, .inr (2, rg 13 (va_up (va_up (va_up (va_up (va_up (va_up (va_up (va_up (fun j => defaultValue (tyX2 j)) 1 (.ref q1)) 2 (.ref q3)) 3 (.ref q5)) 5 (.ref q7)) 6 (.ref q9)) 7 (.ref q11)) 8 (.ref q13)) 9 (.ref q15)))), (q1, .inl (ca 1, 3200, .inr (.inl (zLr (fun _ => 0))))), (q3, .inl (ca 0, 3200, .inl (zAr (fun _ => 0)))), (q5, .inl (ca 0, 3200, .inl (zAr (fun _ => 0)))), (q7, .inl (ca 0, 101, .inl (zAr (fun _ => 0)))), (q9, .inl (ca 0, 100, .inl (zAr (fun _ => 0)))), (q11, .inl (ca 0, 101, .inl (zAr (fun _ => 0)))), (q13, .inl (ca 0, 100, .inl (zAr (fun _ => 0)))), (q15, .inl (ca 1, 100, .inr (.inl (zLr (fun _ => 0))))), (q17, .inl (ca 1, 101, .inr (.inl (zLr (fun _ => 0)))))] A H17 := hZ17
  clear hZ16 hS16
  refine W.widen (k := 9) (n := 10203) (Nat.le_of_ble_eq_true rfl) (Nat.le_of_ble_eq_true rfl) ?_
  refine zxputF hx hb hts inW_2 tyX2 tyX2_ok nmX2 hown hK hZ17 hS17 0 rfl rfl (k := 10) (by decide) k_6_227 rfl hnm rfl rfl rfl d_4_1_76 (fun H18 locs18 hZ18 hS18 => ?_)
  replace hZ18 : zHx D ca ad lnC Ki.2 L F B [(a, .inr (2, rg 13 (va_up (va_up (va_up (va_up (va_up (va_up (va_up (va_up (va_up (fun j => defaultValue (tyX2 j)) 1 (.ref q1)) 2 (.ref q3)) 3 (.ref q5)) 5 (.ref q7)) 6 (.ref q9)) 7 (.ref q11)) 8 (.ref q13)) 9 (.ref q15)) 10 (.ref q17)))), (q1, .inl (ca 1, 3200, .inr (.inl (zLr (fun _ => 0))))), (q3, .inl (ca 0, 3200, .inl (zAr (fun _ => 0)))), (q5, .inl (ca 0, 3200, .inl (zAr (fun _ => 0)))), (q7, .inl (ca 0, 101, .inl (zAr (fun _ => 0)))), (q9, .inl (ca 0, 100, .inl (zAr (fun _ => 0)))), (q11, .inl (ca 0, 101, .inl (zAr (fun _ => 0)))), (q13, .inl (ca 0, 100, .inl (zAr (fun _ => 0)))), (q15, .inl (ca 1, 100, .inr (.inl (zLr (fun _ => 0))))), (q17, .inl (ca 1, 101, .inr (.inl (zLr (fun _ => 0)))))] A H18 := hZ18
  clear hZ17 hS17
  refine lv_aload_n hx hb d_4_1_79 rfl (lv_at hl 0 rfl) ?_
  refine lv_bipush (v := iI 101) hx hb d_4_1_80 (by decide) ?_
  refine zxnewa (atype := .int) hx hb hts (ty := .int) rfl k_1_57 hK 0 rfl (fun _ _ => gu_int) hZ18 hS18 hA (a0 := (101, .inl (zAr (fun _ => 0)))) (fun _ => rfl) (by decide) (N' := 101) (by decide) (Nat.le_of_ble_eq_true rfl) (Nat.le_of_ble_eq_true rfl) (Nat.le_of_ble_eq_true rfl) d_4_1_82 (fun q19 H19 hZ19 hS19 => ?_)
  replace hZ19 : zHx D ca ad lnC Ki.2 L F B [(a, .inr (2, rg 13 (va_up (va_up (va_up (va_up (va_up (va_up (va_up (va_up (va_up (fun j => defaultValue (tyX2 j)) 1 (.ref q1)) 2 (.ref q3)) 3 (.ref q5)) 5 (.ref q7)) 6 (.ref q9)) 7 (.ref q11)) 8 (.ref q13)) 9 (.ref q15)) 10 (.ref q17)))), (q1, .inl (ca 1, 3200, .inr (.inl (zLr (fun _ => 0))))), (q3, .inl (ca 0, 3200, .inl (zAr (fun _ => 0)))), (q5, .inl (ca 0, 3200, .inl (zAr (fun _ => 0)))), (q7, .inl (ca 0, 101, .inl (zAr (fun _ => 0)))), (q9, .inl (ca 0, 100, .inl (zAr (fun _ => 0)))), (q11, .inl (ca 0, 101, .inl (zAr (fun _ => 0)))), (q13, .inl (ca 0, 100, .inl (zAr (fun _ => 0)))), (q15, .inl (ca 1, 100, .inr (.inl (zLr (fun _ => 0))))), (q17, .inl (ca 1, 101, .inr (.inl (zLr (fun _ => 0))))), (q19, .inl (ca 0, 101, .inl (zAr (fun _ => 0))))] A H19 := hZ19
  clear hZ18 hS18
  refine W.widen (k := 10) (n := 10304) (Nat.le_of_ble_eq_true rfl) (Nat.le_of_ble_eq_true rfl) ?_
  refine zxputF hx hb hts inW_2 tyX2 tyX2_ok nmX2 hown hK hZ19 hS19 0 rfl rfl (k := 11) (by decide) k_6_228 rfl hnm rfl rfl rfl d_4_1_84 (fun H20 locs20 hZ20 hS20 => ?_)
  replace hZ20 : zHx D ca ad lnC Ki.2 L F B [(a, .inr (2, rg 13 (va_up (va_up (va_up (va_up (va_up (va_up (va_up (va_up (va_up (va_up (fun j => defaultValue (tyX2 j)) 1 (.ref q1)) 2 (.ref q3)) 3 (.ref q5)) 5 (.ref q7)) 6 (.ref q9)) 7 (.ref q11)) 8 (.ref q13)) 9 (.ref q15)) 10 (.ref q17)) 11 (.ref q19)))), (q1, .inl (ca 1, 3200, .inr (.inl (zLr (fun _ => 0))))), (q3, .inl (ca 0, 3200, .inl (zAr (fun _ => 0)))), (q5, .inl (ca 0, 3200, .inl (zAr (fun _ => 0)))), (q7, .inl (ca 0, 101, .inl (zAr (fun _ => 0)))), (q9, .inl (ca 0, 100, .inl (zAr (fun _ => 0)))), (q11, .inl (ca 0, 101, .inl (zAr (fun _ => 0)))), (q13, .inl (ca 0, 100, .inl (zAr (fun _ => 0)))), (q15, .inl (ca 1, 100, .inr (.inl (zLr (fun _ => 0))))), (q17, .inl (ca 1, 101, .inr (.inl (zLr (fun _ => 0))))), (q19, .inl (ca 0, 101, .inl (zAr (fun _ => 0))))] A H20 := hZ20
  clear hZ19 hS19
  refine lv_aload_n hx hb d_4_1_87 rfl (lv_at hl 0 rfl) ?_
  refine lv_iconst (v := iI 4) hx hb d_4_1_88 rfl ?_
  refine zxnewa (atype := .int) hx hb hts (ty := .int) rfl k_1_57 hK 0 rfl (fun _ _ => gu_int) hZ20 hS20 hA (a0 := (4, .inl (zAr (fun _ => 0)))) (fun _ => rfl) (by decide) (N' := 4) (by decide) (Nat.le_of_ble_eq_true rfl) (Nat.le_of_ble_eq_true rfl) (Nat.le_of_ble_eq_true rfl) d_4_1_89 (fun q21 H21 hZ21 hS21 => ?_)
  replace hZ21 : zHx D ca ad lnC Ki.2 L F B [(a, .inr (2, rg 13 (va_up (va_up (va_up (va_up (va_up (va_up (va_up (va_up (va_up (va_up (fun j => defaultValue (tyX2 j)) 1 (.ref q1)) 2 (.ref q3)) 3 (.ref q5)) 5 (.ref q7)) 6 (.ref q9)) 7 (.ref q11)) 8 (.ref q13)) 9 (.ref q15)) 10 (.ref q17)) 11 (.ref q19)))), (q1, .inl (ca 1, 3200, .inr (.inl (zLr (fun _ => 0))))), (q3, .inl (ca 0, 3200, .inl (zAr (fun _ => 0)))), (q5, .inl (ca 0, 3200, .inl (zAr (fun _ => 0)))), (q7, .inl (ca 0, 101, .inl (zAr (fun _ => 0)))), (q9, .inl (ca 0, 100, .inl (zAr (fun _ => 0)))), (q11, .inl (ca 0, 101, .inl (zAr (fun _ => 0)))), (q13, .inl (ca 0, 100, .inl (zAr (fun _ => 0)))), (q15, .inl (ca 1, 100, .inr (.inl (zLr (fun _ => 0))))), (q17, .inl (ca 1, 101, .inr (.inl (zLr (fun _ => 0))))), (q19, .inl (ca 0, 101, .inl (zAr (fun _ => 0)))), (q21, .inl (ca 0, 4, .inl (zAr (fun _ => 0))))] A H21 := hZ21
  clear hZ20 hS20
  refine W.widen (k := 11) (n := 10308) (Nat.le_of_ble_eq_true rfl) (Nat.le_of_ble_eq_true rfl) ?_
  refine zxputF hx hb hts inW_2 tyX2 tyX2_ok nmX2 hown hK hZ21 hS21 0 rfl rfl (k := 12) (by decide) k_6_229 rfl hnm rfl rfl rfl d_4_1_91 (fun H22 locs22 hZ22 hS22 => ?_)
  replace hZ22 : zHx D ca ad lnC Ki.2 L F B [(a, .inr (2, rg 13 (va_up (va_up (va_up (va_up (va_up (va_up (va_up (va_up (va_up (va_up (va_up (fun j => defaultValue (tyX2 j)) 1 (.ref q1)) 2 (.ref q3)) 3 (.ref q5)) 5 (.ref q7)) 6 (.ref q9)) 7 (.ref q11)) 8 (.ref q13)) 9 (.ref q15)) 10 (.ref q17)) 11 (.ref q19)) 12 (.ref q21)))), (q1, .inl (ca 1, 3200, .inr (.inl (zLr (fun _ => 0))))), (q3, .inl (ca 0, 3200, .inl (zAr (fun _ => 0)))), (q5, .inl (ca 0, 3200, .inl (zAr (fun _ => 0)))), (q7, .inl (ca 0, 101, .inl (zAr (fun _ => 0)))), (q9, .inl (ca 0, 100, .inl (zAr (fun _ => 0)))), (q11, .inl (ca 0, 101, .inl (zAr (fun _ => 0)))), (q13, .inl (ca 0, 100, .inl (zAr (fun _ => 0)))), (q15, .inl (ca 1, 100, .inr (.inl (zLr (fun _ => 0))))), (q17, .inl (ca 1, 101, .inr (.inl (zLr (fun _ => 0))))), (q19, .inl (ca 0, 101, .inl (zAr (fun _ => 0)))), (q21, .inl (ca 0, 4, .inl (zAr (fun _ => 0))))] A H22 := hZ22
  clear hZ21 hS21
  obtain ⟨g24, hf⟩ := gif hf
  obtain ⟨ad23, L23, hZ23, hG23, hq23⟩ : ∃ ad' L', zH D ca ad' lnC (zinN Ki.2 2) L' (zinF F 2 (Ki.2 2) [0, 0, 0, 0, 0, 0, 0, 0, 0, 0, 0, 0, 0]) (zinB B 2 (Ki.2 2) (fun _ _ => 0)) A H22 ∧ zG ad Ki.2 ad' (zinN Ki.2 2) ∧ ad' 2 (Ki.2 2) 0 = a := ⟨_, _, ztake2 (c := 2) (n := 13) (l := [(0, a), (2, q1), (3, q3), (4, q5), (6, q7), (7, q9), (8, q11), (9, q13), (10, q15), (11, q17), (12, q19), (13, q21)]) (fi := [0, 0, 0, 0, 0, 0, 0, 0, 0, 0, 0, 0, 0]) (b := (fun _ _ => 0)) (a := a) (r2 := []) (r3 := [(1, 1), (2, 0), (3, 0), (5, 0), (6, 0), (7, 0), (8, 0), (9, 1), (10, 1), (11, 0), (12, 0)]) (r4 := []) hZ22 g24 (by decide +kernel) (by decide +kernel) (by decide +kernel) rfl (show 0 ∈ ([0, 2, 3, 4, 6, 7, 8, 9, 10, 11, 12, 13] : List Nat) by decide) (show zAll [(1, 1), (2, 0), (3, 0), (5, 0), (6, 0), (7, 0), (8, 0), (9, 1), (10, 1), (11, 0), (12, 0)] (fun x : Nat × Nat => x.1 + 1 ∈ ([0, 2, 3, 4, 6, 7, 8, 9, 10, 11, 12, 13] : List Nat)) from (And.intro (by decide) (And.intro (by decide) (And.intro (by decide) (And.intro (by decide) (And.intro (by decide) (And.intro (by decide) (And.intro (by decide) (And.intro (by decide) (And.intro (by decide) (And.intro (by decide) (And.intro (by decide) trivial)))))))))))) (show zAll [] (fun x : Nat × Nat => x.1 + 1 ∈ ([0, 2, 3, 4, 6, 7, 8, 9, 10, 11, 12, 13] : List Nat)) from trivial) rfl rfl (List.mem_of_getElem? (i := 0) rfl) (And.intro rfl (And.intro rfl (And.intro rfl (And.intro rfl (And.intro rfl (And.intro rfl (And.intro rfl (And.intro rfl (And.intro rfl (And.intro rfl (And.intro rfl (And.intro rfl (And.intro rfl trivial))))))))))))) (And.intro (List.mem_of_getElem? (i := 1) rfl) (And.intro (List.mem_of_getElem? (i := 2) rfl) (And.intro (List.mem_of_getElem? (i := 3) rfl) (And.intro (List.mem_of_getElem? (i := 4) rfl) (And.intro (List.mem_of_getElem? (i := 5) rfl) (And.intro (List.mem_of_getElem? (i := 6) rfl) (And.intro (List.mem_of_getElem? (i := 7) rfl) (And.intro (List.mem_of_getElem? (i := 8) rfl) (And.intro (List.mem_of_getElem? (i := 9) rfl) (And.intro (List.mem_of_getElem? (i := 10) rfl) (And.intro (List.mem_of_getElem? (i := 11) rfl) trivial))))))))))) trivial trivial (And.intro (fun h => absurd h (by decide)) (And.intro (fun h => absurd h (by decide)) (And.intro (fun h => absurd h (by decide)) (And.intro (fun h => absurd h (by decide)) (And.intro (fun h => absurd h (by decide)) (And.intro (fun h => absurd h (by decide)) (And.intro (fun h => absurd h (by decide)) (And.intro (fun h => absurd h (by decide)) (And.intro (fun h => absurd h (by decide)) (And.intro (fun h => absurd h (by decide)) (And.intro (fun h => absurd h (by decide)) trivial))))))))))), hG.tr zinA_G, zinA_new⟩
  cases hf
  exact W.vret hx hb hr (fun t ht hW => ⟨⟨(ad23, L23), rfl, ⟨hG23, hq23⟩, by rw [ht]; exact hZ23, va_K.moved hW.alike hK⟩, hS22.F ht⟩) hS22.2.2 d_4_1_94 hlk

theorem m_Layout_init {Ki : zK} {F : zF} {B : zB} {r : Int} {F9 : zF} {B9 : zB} {K9 : zK} (hf : f_Layout_init Ki F B = some (r, F9, B9, K9)) : zKle Ki K9 := by
  replace hf : (if 0 ≤ Ki.2 2 then some (Ki.2 2, (zinF F 2 (Ki.2 2) [0, 0, 0, 0, 0, 0, 0, 0, 0, 0, 0, 0, 0]), (zinB B 2 (Ki.2 2) (fun _ _ => 0)), (Ki.1, zinN Ki.2 2)) else none) = some (r, F9, B9, K9) := hf
  obtain ⟨g24, hf⟩ := gif hf
  cases hf
  exact zKle_in

theorem w_Layout_init {Ki : zK} {F : zF} {B : zB} {r : Int} {F9 : zF} {B9 : zB} {K9 : zK} (hf : f_Layout_init Ki F B = some (r, F9, B9, K9)) : cwN K9.2 = cwN Ki.2 + 12 ∧ swN K9.2 = swN Ki.2 + 10321 := by
  replace hf : (if 0 ≤ Ki.2 2 then some (Ki.2 2, (zinF F 2 (Ki.2 2) [0, 0, 0, 0, 0, 0, 0, 0, 0, 0, 0, 0, 0]), (zinB B 2 (Ki.2 2) (fun _ _ => 0)), (Ki.1, zinN Ki.2 2)) else none) = some (r, F9, B9, K9) := hf
  obtain ⟨g24, hf⟩ := gif hf
  cases hf
  have e : ((Ki.2 2) + 1).toNat = (Ki.2 2).toNat + 1 := by omega
  simp only [cwN, swN, zinN, reduceIte, Nat.reduceEqDiff, e]
  generalize (Ki.2 1).toNat = x1
  generalize (Ki.2 2).toNat = x2
  generalize (Ki.2 4).toNat = x4
  generalize (Ki.2 5).toNat = x5
  generalize (Ki.2 6).toNat = x6
  generalize (Ki.2 8).toNat = x8
  generalize (Ki.2 9).toNat = x9
  clear e
  omega

abbrev Q_Study_init (K : zK) (D : va_G) (ca : Nat → ClassId) (ad : Nat → Int → Nat → Nat) (a : Nat) (r : Int) (F : zF) (B : zB) (K9 : zK) (A : Nat → Prop) : Array Value → State → Outcome → State → Prop := va_Qv (S := (Nat → Int → Nat → Nat) × List Nat) (fun u => zG ad K.2 u.1 K9.2 ∧ u.1 9 r 0 = a) (fun u => zPo D ca u.1 lnC K9.2 u.2 F B A) A
def f_Study_init (Ki : zK) (F : zF) (B : zB) : zOm := if 0 ≤ Ki.2 9 then some (Ki.2 9, (zinF F 9 (Ki.2 9) [0, 0, 0, 0, 0, 0, 0, 0, 0, 0, 0]), (zinB B 9 (Ki.2 9) (fun _ _ => 0)), (Ki.1, zinN Ki.2 9)) else none
set_option maxHeartbeats 4000000 in
set_option maxRecDepth 100000 in
theorem c_Study_init {l : Launch} {D : va_G} {ca : Nat → ClassId} {ad : Nat → Int → Nat → Nat} {L : List Nat} {aS vS : Nat → Nat} {sz a : Nat} {Ki : zK} {F : zF} {B : zB} {r : Int} {F9 : zF} {B9 : zB} {K9 : zK} (hf : f_Study_init Ki F B = some (r, F9, B9, K9)) : Met l ({ cls := "StaveHouse$Study", name := "<init>", desc := "()V" } : Jvm.MethodName) (Cond.code ({ cls := "StaveHouse$Study", name := "<init>", desc := "()V" } : Jvm.MethodName) prog_11_method_1_code 1 (Option.none : Option Jvm.ClassFile.FieldType) :: wAll) ({ frames := 1, cells := 17, slots := 5235, locals := 12 } : Room) (va_Pc [.ref a] (zPreX D ca ad lnC Ki.2 L aS vS F B a (.inr (9, rg 11 (fun j => defaultValue (tyX9 j)))) sz)) (Q_Study_init Ki D ca ad a r F9 B9 K9 (zA (a :: L) sz)) 17 5235 (zA (a :: L) sz) := by
  refine zMetX (Qc := Q_Study_init Ki D ca ad a r F9 B9 K9) (lv := [(0, .ref a)]) (by decide) (Nat.le_of_ble_eq_true rfl) rfl (fun A p e s m below meth c ls X hnm hZ hS hl => ?_)
  obtain ⟨hx, hb, hr, hml, hown, hts, hlk, hK, hA, hL, hX⟩ := id X
  replace hnm : meth.name = "<init>" := hnm
  have hG : zG ad Ki.2 ad Ki.2 := zG.rf
  replace hf : (if 0 ≤ Ki.2 9 then some (Ki.2 9, (zinF F 9 (Ki.2 9) [0, 0, 0, 0, 0, 0, 0, 0, 0, 0, 0]), (zinB B 9 (Ki.2 9) (fun _ _ => 0)), (Ki.1, zinN Ki.2 9)) else none) = some (r, F9, B9, K9) := hf
  refine lv_aload_n hx hb d_11_1_0 rfl (lv_at hl 0 rfl) ?_
  refine W.objInit hx hb hown (hts _ k_5_195) (hts _ k_1_30) (hts _ k_1_31) rfl (by rw [hml]; exact hl.1) rfl d_11_1_1 (Nat.le_of_ble_eq_true rfl) (Nat.le_of_ble_eq_true rfl) ?_
  refine W.eq (g2 := F0 m 4 ls []) rfl ?_
  refine lv_aload_n hx hb d_11_1_4 rfl (lv_at hl 0 rfl) ?_
  refine lv_sipush (v := iI 800) hx hb d_11_1_5 (by decide) ?_
  refine zxnewa (atype := .long) hx hb hts (ty := .long) rfl k_1_105 hK 1 rfl (fun _ _ => gu_long) hZ hS hA (a0 := (800, .inr (.inl (zLr (fun _ => 0))))) (fun _ => rfl) (by decide) (N' := 800) (by decide) (Nat.le_of_ble_eq_true rfl) (Nat.le_of_ble_eq_true rfl) (Nat.le_of_ble_eq_true rfl) d_11_1_8 (fun q1 H1 hZ1 hS1 => ?_)
  replace hZ1 : zHx D ca ad lnC Ki.2 L F B [(a, .inr (9, rg 11 (fun j => defaultValue (tyX9 j)))), (q1, .inl (ca 1, 800, .inr (.inl (zLr (fun _ => 0)))))] A H1 := hZ1
  refine W.widen (k := 1) (n := 800) (Nat.le_of_ble_eq_true rfl) (Nat.le_of_ble_eq_true rfl) ?_
  refine zxputF hx hb hts inW_9 tyX9 tyX9_ok nmX9 hown hK hZ1 hS1 0 rfl rfl (k := 1) (by decide) k_5_199 rfl hnm rfl rfl rfl d_11_1_10 (fun H2 locs2 hZ2 hS2 => ?_)
  replace hZ2 : zHx D ca ad lnC Ki.2 L F B [(a, .inr (9, rg 11 (va_up (fun j => defaultValue (tyX9 j)) 1 (.ref q1)))), (q1, .inl (ca 1, 800, .inr (.inl (zLr (fun _ => 0)))))] A H2 := hZ2
  clear hZ1 hS1
  refine lv_aload_n hx hb d_11_1_13 rfl (lv_at hl 0 rfl) ?_
  refine lv_iconst (v := iI 4) hx hb d_11_1_14 rfl ?_
  refine lv_sipush (v := iI 300) hx hb d_11_1_15 (by decide) ?_
  refine zxmna (ty := .int) hx hb hts hown (nm := "[[I") (by decide +kernel) k_5_196 (hX.2.2.1 _ (List.mem_of_getElem? (i := 0) rfl) :) k_1_57 hK 8 0 rfl rfl ra_int hZ2 hS2 hA (a0 := (300, .inl (zAr (fun _ => 0)))) (fun _ => rfl) (by decide) (by decide) (N' := 4) (K' := 300) (by decide) (by decide) (Nat.le_of_ble_eq_true rfl) (Nat.le_of_ble_eq_true rfl) (Nat.le_of_ble_eq_true rfl) rfl rfl (Nat.le_of_ble_eq_true rfl) (Nat.le_of_ble_eq_true rfl) d_11_1_18 (g := fun q j => some (q + 1 + j)) (fun _ _ _ => rfl) (fun q3 H3 hZ3 hS3 => ?_)
  replace hZ3 : zHx D ca ad lnC Ki.2 L F B [(a, .inr (9, rg 11 (va_up (fun j => defaultValue (tyX9 j)) 1 (.ref q1)))), (q1, .inl (ca 1, 800, .inr (.inl (zLr (fun _ => 0))))), (q3, .inl (ca 8, 4, .inr (.inr (.inr (.inr (fun j => some (q3 + 1 + j))))))), (q3 + 1 + 0, .inl (ca 0, 300, .inl (zAr (fun _ => 0)))), (q3 + 1 + 1, .inl (ca 0, 300, .inl (zAr (fun _ => 0)))), (q3 + 1 + 2, .inl (ca 0, 300, .inl (zAr (fun _ => 0)))), (q3 + 1 + 3, .inl (ca 0, 300, .inl (zAr (fun _ => 0))))] A H3 := hZ3
  clear hZ2 hS2
  refine W.widen (k := 6) (n := 2004) (Nat.le_of_ble_eq_true rfl) (Nat.le_of_ble_eq_true rfl) ?_
  refine zxputF hx hb hts inW_9 tyX9 tyX9_ok nmX9 hown hK hZ3 hS3 0 rfl rfl (k := 3) (by decide) k_5_203 rfl hnm rfl rfl rfl d_11_1_22 (fun H4 locs4 hZ4 hS4 => ?_)
  replace hZ4 : zHx D ca ad lnC Ki.2 L F B [(a, .inr (9, rg 11 (va_up (va_up (fun j => defaultValue (tyX9 j)) 1 (.ref q1)) 3 (.ref q3)))), (q1, .inl (ca 1, 800, .inr (.inl (zLr (fun _ => 0))))), (q3, .inl (ca 8, 4, .inr (.inr (.inr (.inr (fun j => some (q3 + 1 + j))))))), (q3 + 1 + 0, .inl (ca 0, 300, .inl (zAr (fun _ => 0)))), (q3 + 1 + 1, .inl (ca 0, 300, .inl (zAr (fun _ => 0)))), (q3 + 1 + 2, .inl (ca 0, 300, .inl (zAr (fun _ => 0)))), (q3 + 1 + 3, .inl (ca 0, 300, .inl (zAr (fun _ => 0))))] A H4 := hZ4
  clear hZ3 hS3
  refine lv_aload_n hx hb d_11_1_25 rfl (lv_at hl 0 rfl) ?_
  refine lv_iconst (v := iI 4) hx hb d_11_1_26 rfl ?_
  refine lv_sipush (v := iI 800) hx hb d_11_1_27 (by decide) ?_
  refine zxmna (ty := .int) hx hb hts hown (nm := "[[I") (by decide +kernel) k_5_196 (hX.2.2.1 _ (List.mem_of_getElem? (i := 0) rfl) :) k_1_57 hK 8 0 rfl rfl ra_int hZ4 hS4 hA (a0 := (800, .inl (zAr (fun _ => 0)))) (fun _ => rfl) (by decide) (by decide) (N' := 4) (K' := 800) (by decide) (by decide) (Nat.le_of_ble_eq_true rfl) (Nat.le_of_ble_eq_true rfl) (Nat.le_of_ble_eq_true rfl) rfl rfl (Nat.le_of_ble_eq_true rfl) (Nat.le_of_ble_eq_true rfl) d_11_1_30 (g := fun q j => some (q + 1 + j)) (fun _ _ _ => rfl) (fun q5 H5 hZ5 hS5 => ?_)
  replace hZ5 : zHx D ca ad lnC Ki.2 L F B [(a, .inr (9, rg 11 (va_up (va_up (fun j => defaultValue (tyX9 j)) 1 (.ref q1)) 3 (.ref q3)))), (q1, .inl (ca 1, 800, .inr (.inl (zLr (fun _ => 0))))), (q3, .inl (ca 8, 4, .inr (.inr (.inr (.inr (fun j => some (q3 + 1 + j))))))), (q3 + 1 + 0, .inl (ca 0, 300, .inl (zAr (fun _ => 0)))), (q3 + 1 + 1, .inl (ca 0, 300, .inl (zAr (fun _ => 0)))), (q3 + 1 + 2, .inl (ca 0, 300, .inl (zAr (fun _ => 0)))), (q3 + 1 + 3, .inl (ca 0, 300, .inl (zAr (fun _ => 0)))), (q5, .inl (ca 8, 4, .inr (.inr (.inr (.inr (fun j => some (q5 + 1 + j))))))), (q5 + 1 + 0, .inl (ca 0, 800, .inl (zAr (fun _ => 0)))), (q5 + 1 + 1, .inl (ca 0, 800, .inl (zAr (fun _ => 0)))), (q5 + 1 + 2, .inl (ca 0, 800, .inl (zAr (fun _ => 0)))), (q5 + 1 + 3, .inl (ca 0, 800, .inl (zAr (fun _ => 0))))] A H5 := hZ5
  clear hZ4 hS4
  refine W.widen (k := 11) (n := 5208) (Nat.le_of_ble_eq_true rfl) (Nat.le_of_ble_eq_true rfl) ?_
  refine zxputF hx hb hts inW_9 tyX9 tyX9_ok nmX9 hown hK hZ5 hS5 0 rfl rfl (k := 4) (by decide) k_5_205 rfl hnm rfl rfl rfl d_11_1_34 (fun H6 locs6 hZ6 hS6 => ?_)
  replace hZ6 : zHx D ca ad lnC Ki.2 L F B [(a, .inr (9, rg 11 (va_up (va_up (va_up (fun j => defaultValue (tyX9 j)) 1 (.ref q1)) 3 (.ref q3)) 4 (.ref q5)))), (q1, .inl (ca 1, 800, .inr (.inl (zLr (fun _ => 0))))), (q3, .inl (ca 8, 4, .inr (.inr (.inr (.inr (fun j => some (q3 + 1 + j))))))), (q3 + 1 + 0, .inl (ca 0, 300, .inl (zAr (fun _ => 0)))), (q3 + 1 + 1, .inl (ca 0, 300, .inl (zAr (fun _ => 0)))), (q3 + 1 + 2, .inl (ca 0, 300, .inl (zAr (fun _ => 0)))), (q3 + 1 + 3, .inl (ca 0, 300, .inl (zAr (fun _ => 0)))), (q5, .inl (ca 8, 4, .inr (.inr (.inr (.inr (fun j => some (q5 + 1 + j))))))), (q5 + 1 + 0, .inl (ca 0, 800, .inl (zAr (fun _ => 0)))), (q5 + 1 + 1, .inl (ca 0, 800, .inl (zAr (fun _ => 0)))), (q5 + 1 + 2, .inl (ca 0, 800, .inl (zAr (fun _ => 0)))), (q5 + 1 + 3, .inl (ca 0, 800, .inl (zAr (fun _ => 0))))] A H6 := hZ6
  clear hZ5 hS5
  refine lv_aload_n hx hb d_11_1_37 rfl (lv_at hl 0 rfl) ?_
  refine lv_iconst (v := iI 4) hx hb d_11_1_38 rfl ?_
  refine zxnewa (atype := .int) hx hb hts (ty := .int) rfl k_1_57 hK 0 rfl (fun _ _ => gu_int) hZ6 hS6 hA (a0 := (4, .inl (zAr (fun _ => 0)))) (fun _ => rfl) (by decide) (N' := 4) (by decide) (Nat.le_of_ble_eq_true rfl) (Nat.le_of_ble_eq_true rfl) (Nat.le_of_ble_eq_true rfl) d_11_1_39 (fun q7 H7 hZ7 hS7 => ?_)
  replace hZ7 : zHx D ca ad lnC Ki.2 L F B [(a, .inr (9, rg 11 (va_up (va_up (va_up (fun j => defaultValue (tyX9 j)) 1 (.ref q1)) 3 (.ref q3)) 4 (.ref q5)))), (q1, .inl (ca 1, 800, .inr (.inl (zLr (fun _ => 0))))), (q3, .inl (ca 8, 4, .inr (.inr (.inr (.inr (fun j => some (q3 + 1 + j))))))), (q3 + 1 + 0, .inl (ca 0, 300, .inl (zAr (fun _ => 0)))), (q3 + 1 + 1, .inl (ca 0, 300, .inl (zAr (fun _ => 0)))), (q3 + 1 + 2, .inl (ca 0, 300, .inl (zAr (fun _ => 0)))), (q3 + 1 + 3, .inl (ca 0, 300, .inl (zAr (fun _ => 0)))), (q5, .inl (ca 8, 4, .inr (.inr (.inr (.inr (fun j => some (q5 + 1 + j))))))), (q5 + 1 + 0, .inl (ca 0, 800, .inl (zAr (fun _ => 0)))), (q5 + 1 + 1, .inl (ca 0, 800, .inl (zAr (fun _ => 0)))), (q5 + 1 + 2, .inl (ca 0, 800, .inl (zAr (fun _ => 0)))), (q5 + 1 + 3, .inl (ca 0, 800, .inl (zAr (fun _ => 0)))), (q7, .inl (ca 0, 4, .inl (zAr (fun _ => 0))))] A H7 := hZ7
  clear hZ6 hS6
  refine W.widen (k := 12) (n := 5212) (Nat.le_of_ble_eq_true rfl) (Nat.le_of_ble_eq_true rfl) ?_
  refine zxputF hx hb hts inW_9 tyX9 tyX9_ok nmX9 hown hK hZ7 hS7 0 rfl rfl (k := 5) (by decide) k_5_206 rfl hnm rfl rfl rfl d_11_1_41 (fun H8 locs8 hZ8 hS8 => ?_)
  replace hZ8 : zHx D ca ad lnC Ki.2 L F B [(a, .inr (9, rg 11 (va_up (va_up (va_up (va_up (fun j => defaultValue (tyX9 j)) 1 (.ref q1)) 3 (.ref q3)) 4 (.ref q5)) 5 (.ref q7)))), (q1, .inl (ca 1, 800, .inr (.inl (zLr (fun _ => 0))))), (q3, .inl (ca 8, 4, .inr (.inr (.inr (.inr (fun j => some (q3 + 1 + j))))))), (q3 + 1 + 0, .inl (ca 0, 300, .inl (zAr (fun _ => 0)))), (q3 + 1 + 1, .inl (ca 0, 300, .inl (zAr (fun _ => 0)))), (q3 + 1 + 2, .inl (ca 0, 300, .inl (zAr (fun _ => 0)))), (q3 + 1 + 3, .inl (ca 0, 300, .inl (zAr (fun _ => 0)))), (q5, .inl (ca 8, 4, .inr (.inr (.inr (.inr (fun j => some (q5 + 1 + j))))))), (q5 + 1 + 0, .inl (ca 0, 800, .inl (zAr (fun _ => 0)))), (q5 + 1 + 1, .inl (ca 0, 800, .inl (zAr (fun _ => 0)))), (q5 + 1 + 2, .inl (ca 0, 800, .inl (zAr (fun _ => 0)))), (q5 + 1 + 3, .inl (ca 0, 800, .inl (zAr (fun _ => 0)))), (q7, .inl (ca 0, 4, .inl (zAr (fun _ => 0))))] A H8 := hZ8
  clear hZ7 hS7
  refine lv_aload_n hx hb d_11_1_44 rfl (lv_at hl 0 rfl) ?_
  refine lv_iconst (v := iI 4) hx hb d_11_1_45 rfl ?_
  refine zxnewa (atype := .int) hx hb hts (ty := .int) rfl k_1_57 hK 0 rfl (fun _ _ => gu_int) hZ8 hS8 hA (a0 := (4, .inl (zAr (fun _ => 0)))) (fun _ => rfl) (by decide) (N' := 4) (by decide) (Nat.le_of_ble_eq_true rfl) (Nat.le_of_ble_eq_true rfl) (Nat.le_of_ble_eq_true rfl) d_11_1_46 (fun q9 H9 hZ9 hS9 => ?_)
  replace hZ9 : zHx D ca ad lnC Ki.2 L F B [(a, .inr (9, rg 11 (va_up (va_up (va_up (va_up (fun j => defaultValue (tyX9 j)) 1 (.ref q1)) 3 (.ref q3)) 4 (.ref q5)) 5 (.ref q7)))), (q1, .inl (ca 1, 800, .inr (.inl (zLr (fun _ => 0))))), (q3, .inl (ca 8, 4, .inr (.inr (.inr (.inr (fun j => some (q3 + 1 + j))))))), (q3 + 1 + 0, .inl (ca 0, 300, .inl (zAr (fun _ => 0)))), (q3 + 1 + 1, .inl (ca 0, 300, .inl (zAr (fun _ => 0)))), (q3 + 1 + 2, .inl (ca 0, 300, .inl (zAr (fun _ => 0)))), (q3 + 1 + 3, .inl (ca 0, 300, .inl (zAr (fun _ => 0)))), (q5, .inl (ca 8, 4, .inr (.inr (.inr (.inr (fun j => some (q5 + 1 + j))))))), (q5 + 1 + 0, .inl (ca 0, 800, .inl (zAr (fun _ => 0)))), (q5 + 1 + 1, .inl (ca 0, 800, .inl (zAr (fun _ => 0)))), (q5 + 1 + 2, .inl (ca 0, 800, .inl (zAr (fun _ => 0)))), (q5 + 1 + 3, .inl (ca 0, 800, .inl (zAr (fun _ => 0)))), (q7, .inl (ca 0, 4, .inl (zAr (fun _ => 0)))), (q9, .inl (ca 0, 4, .inl (zAr (fun _ => 0))))] A H9 := hZ9
  clear hZ8 hS8
  refine W.widen (k := 13) (n := 5216) (Nat.le_of_ble_eq_true rfl) (Nat.le_of_ble_eq_true rfl) ?_
  refine zxputF hx hb hts inW_9 tyX9 tyX9_ok nmX9 hown hK hZ9 hS9 0 rfl rfl (k := 6) (by decide) k_5_207 rfl hnm rfl rfl rfl d_11_1_48 (fun H10 locs10 hZ10 hS10 => ?_)
  replace hZ10 : zHx D ca ad lnC Ki.2 L F B [(a, .inr (9, rg 11 (va_up (va_up (va_up (va_up (va_up (fun j => defaultValue (tyX9 j)) 1 (.ref q1)) 3 (.ref q3)) 4 (.ref q5)) 5 (.ref q7)) 6 (.ref q9)))), (q1, .inl (ca 1, 800, .inr (.inl (zLr (fun _ => 0))))), (q3, .inl (ca 8, 4, .inr (.inr (.inr (.inr (fun j => some (q3 + 1 + j))))))), (q3 + 1 + 0, .inl (ca 0, 300, .inl (zAr (fun _ => 0)))), (q3 + 1 + 1, .inl (ca 0, 300, .inl (zAr (fun _ => 0)))), (q3 + 1 + 2, .inl (ca 0, 300, .inl (zAr (fun _ => 0)))), (q3 + 1 + 3, .inl (ca 0, 300, .inl (zAr (fun _ => 0)))), (q5, .inl (ca 8, 4, .inr (.inr (.inr (.inr (fun j => some (q5 + 1 + j))))))), (q5 + 1 + 0, .inl (ca 0, 800, .inl (zAr (fun _ => 0)))), (q5 + 1 + 1, .inl (ca 0, 800, .inl (zAr (fun _ => 0)))), (q5 + 1 + 2, .inl (ca 0, 800, .inl (zAr (fun _ => 0)))), (q5 + 1 + 3, .inl (ca 0, 800, .inl (zAr (fun _ => 0)))), (q7, .inl (ca 0, 4, .inl (zAr (fun _ => 0)))), (q9, .inl (ca 0, 4, .inl (zAr (fun _ => 0))))] A H10 := hZ10
  clear hZ9 hS9
  refine lv_aload_n hx hb d_11_1_51 rfl (lv_at hl 0 rfl) ?_
  refine lv_iconst (v := iI 4) hx hb d_11_1_52 rfl ?_
  refine zxnewa (atype := .int) hx hb hts (ty := .int) rfl k_1_57 hK 0 rfl (fun _ _ => gu_int) hZ10 hS10 hA (a0 := (4, .inl (zAr (fun _ => 0)))) (fun _ => rfl) (by decide) (N' := 4) (by decide) (Nat.le_of_ble_eq_true rfl) (Nat.le_of_ble_eq_true rfl) (Nat.le_of_ble_eq_true rfl) d_11_1_53 (fun q11 H11 hZ11 hS11 => ?_)
  replace hZ11 : zHx D ca ad lnC Ki.2 L F B [(a, .inr (9, rg 11 (va_up (va_up (va_up (va_up (va_up (fun j => defaultValue (tyX9 j)) 1 (.ref q1)) 3 (.ref q3)) 4 (.ref q5)) 5 (.ref q7)) 6 (.ref q9)))), (q1, .inl (ca 1, 800, .inr (.inl (zLr (fun _ => 0))))), (q3, .inl (ca 8, 4, .inr (.inr (.inr (.inr (fun j => some (q3 + 1 + j))))))), (q3 + 1 + 0, .inl (ca 0, 300, .inl (zAr (fun _ => 0)))), (q3 + 1 + 1, .inl (ca 0, 300, .inl (zAr (fun _ => 0)))), (q3 + 1 + 2, .inl (ca 0, 300, .inl (zAr (fun _ => 0)))), (q3 + 1 + 3, .inl (ca 0, 300, .inl (zAr (fun _ => 0)))), (q5, .inl (ca 8, 4, .inr (.inr (.inr (.inr (fun j => some (q5 + 1 + j))))))), (q5 + 1 + 0, .inl (ca 0, 800, .inl (zAr (fun _ => 0)))), (q5 + 1 + 1, .inl (ca 0, 800, .inl (zAr (fun _ => 0)))), (q5 + 1 + 2, .inl (ca 0, 800, .inl (zAr (fun _ => 0)))), (q5 + 1 + 3, .inl (ca 0, 800, .inl (zAr (fun _ => 0)))), (q7, .inl (ca 0, 4, .inl (zAr (fun _ => 0)))), (q9, .inl (ca 0, 4, .inl (zAr (fun _ => 0)))), (q11, .inl (ca 0, 4, .inl (zAr (fun _ => 0))))] A H11 := hZ11
  clear hZ10 hS10
  refine W.widen (k := 14) (n := 5220) (Nat.le_of_ble_eq_true rfl) (Nat.le_of_ble_eq_true rfl) ?_
  refine zxputF hx hb hts inW_9 tyX9 tyX9_ok nmX9 hown hK hZ11 hS11 0 rfl rfl (k := 7) (by decide) k_5_208 rfl hnm rfl rfl rfl d_11_1_55 (fun H12 locs12 hZ12 hS12 => ?_)
  replace hZ12 : zHx D ca ad lnC Ki.2 L F B [(a, .inr (9, rg 11 (va_up (va_up (va_up (va_up (va_up (va_up (fun j => defaultValue (tyX9 j)) 1 (.ref q1)) 3 (.ref q3)) 4 (.ref q5)) 5 (.ref q7)) 6 (.ref q9)) 7 (.ref q11)))), (q1, .inl (ca 1, 800, .inr (.inl (zLr (fun _ => 0))))), (q3, .inl (ca 8, 4, .inr (.inr (.inr (.inr (fun j => some (q3 + 1 + j))))))), (q3 + 1 + 0, .inl (ca 0, 300, .inl (zAr (fun _ => 0)))), (q3 + 1 + 1, .inl (ca 0, 300, .inl (zAr (fun _ => 0)))), (q3 + 1 + 2, .inl (ca 0, 300, .inl (zAr (fun _ => 0)))), (q3 + 1 + 3, .inl (ca 0, 300, .inl (zAr (fun _ => 0)))), (q5, .inl (ca 8, 4, .inr (.inr (.inr (.inr (fun j => some (q5 + 1 + j))))))), (q5 + 1 + 0, .inl (ca 0, 800, .inl (zAr (fun _ => 0)))), (q5 + 1 + 1, .inl (ca 0, 800, .inl (zAr (fun _ => 0)))), (q5 + 1 + 2, .inl (ca 0, 800, .inl (zAr (fun _ => 0)))), (q5 + 1 + 3, .inl (ca 0, 800, .inl (zAr (fun _ => 0)))), (q7, .inl (ca 0, 4, .inl (zAr (fun _ => 0)))), (q9, .inl (ca 0, 4, .inl (zAr (fun _ => 0)))), (q11, .inl (ca 0, 4, .inl (zAr (fun _ => 0))))] A H12 := hZ12
  clear hZ11 hS11
  refine lv_aload_n hx hb d_11_1_58 rfl (lv_at hl 0 rfl) ?_
  refine lv_iconst (v := iI 4) hx hb d_11_1_59 rfl ?_
  refine zxnewa (atype := .int) hx hb hts (ty := .int) rfl k_1_57 hK 0 rfl (fun _ _ => gu_int) hZ12 hS12 hA (a0 := (4, .inl (zAr (fun _ => 0)))) (fun _ => rfl) (by decide) (N' := 4) (by decide) (Nat.le_of_ble_eq_true rfl) (Nat.le_of_ble_eq_true rfl) (Nat.le_of_ble_eq_true rfl) d_11_1_60 (fun q13 H13 hZ13 hS13 => ?_)
  replace hZ13 : zHx D ca ad lnC Ki.2 L F B [(a, .inr (9, rg 11 (va_up (va_up (va_up (va_up (va_up (va_up (fun j => defaultValue (tyX9 j)) 1 (.ref q1)) 3 (.ref q3)) 4 (.ref q5)) 5 (.ref q7)) 6 (.ref q9)) 7 (.ref q11)))), (q1, .inl (ca 1, 800, .inr (.inl (zLr (fun _ => 0))))), (q3, .inl (ca 8, 4, .inr (.inr (.inr (.inr (fun j => some (q3 + 1 + j))))))), (q3 + 1 + 0, .inl (ca 0, 300, .inl (zAr (fun _ => 0)))), (q3 + 1 + 1, .inl (ca 0, 300, .inl (zAr (fun _ => 0)))), (q3 + 1 + 2, .inl (ca 0, 300, .inl (zAr (fun _ => 0)))), (q3 + 1 + 3, .inl (ca 0, 300, .inl (zAr (fun _ => 0)))), (q5, .inl (ca 8, 4, .inr (.inr (.inr (.inr (fun j => some (q5 + 1 + j))))))), (q5 + 1 + 0, .inl (ca 0, 800, .inl (zAr (fun _ => 0)))), (q5 + 1 + 1, .inl (ca 0, 800, .inl (zAr (fun _ => 0)))), (q5 + 1 + 2, .inl (ca 0, 800, .inl (zAr (fun _ => 0)))), (q5 + 1 + 3, .inl (ca 0, 800, .inl (zAr (fun _ => 0)))), (q7, .inl (ca 0, 4, .inl (zAr (fun _ => 0)))), (q9, .inl (ca 0, 4, .inl (zAr (fun _ => 0)))), (q11, .inl (ca 0, 4, .inl (zAr (fun _ => 0)))), (q13, .inl (ca 0, 4, .inl (zAr (fun _ => 0))))] A H13 := hZ13
  clear hZ12 hS12
  refine W.widen (k := 15) (n := 5224) (Nat.le_of_ble_eq_true rfl) (Nat.le_of_ble_eq_true rfl) ?_
  refine zxputF hx hb hts inW_9 tyX9 tyX9_ok nmX9 hown hK hZ13 hS13 0 rfl rfl (k := 8) (by decide) k_5_209 rfl hnm rfl rfl rfl d_11_1_62 (fun H14 locs14 hZ14 hS14 => ?_)
  replace hZ14 : zHx D ca ad lnC Ki.2 L F B [(a, .inr (9, rg 11 (va_up (va_up (va_up (va_up (va_up (va_up (va_up (fun j => defaultValue (tyX9 j)) 1 (.ref q1)) 3 (.ref q3)) 4 (.ref q5)) 5 (.ref q7)) 6 (.ref q9)) 7 (.ref q11)) 8 (.ref q13)))), (q1, .inl (ca 1, 800, .inr (.inl (zLr (fun _ => 0))))), (q3, .inl (ca 8, 4, .inr (.inr (.inr (.inr (fun j => some (q3 + 1 + j))))))), (q3 + 1 + 0, .inl (ca 0, 300, .inl (zAr (fun _ => 0)))), (q3 + 1 + 1, .inl (ca 0, 300, .inl (zAr (fun _ => 0)))), (q3 + 1 + 2, .inl (ca 0, 300, .inl (zAr (fun _ => 0)))), (q3 + 1 + 3, .inl (ca 0, 300, .inl (zAr (fun _ => 0)))), (q5, .inl (ca 8, 4, .inr (.inr (.inr (.inr (fun j => some (q5 + 1 + j))))))), (q5 + 1 + 0, .inl (ca 0, 800, .inl (zAr (fun _ => 0)))), (q5 + 1 + 1, .inl (ca 0, 800, .inl (zAr (fun _ => 0)))), (q5 + 1 + 2, .inl (ca 0, 800, .inl (zAr (fun _ => 0)))), (q5 + 1 + 3, .inl (ca 0, 800, .inl (zAr (fun _ => 0)))), (q7, .inl (ca 0, 4, .inl (zAr (fun _ => 0)))), (q9, .inl (ca 0, 4, .inl (zAr (fun _ => 0)))), (q11, .inl (ca 0, 4, .inl (zAr (fun _ => 0)))), (q13, .inl (ca 0, 4, .inl (zAr (fun _ => 0))))] A H14 := hZ14
  clear hZ13 hS13
  refine lv_aload_n hx hb d_11_1_65 rfl (lv_at hl 0 rfl) ?_
  refine lv_iconst (v := iI 4) hx hb d_11_1_66 rfl ?_
  refine zxnewa (atype := .boolean) hx hb hts (ty := .boolean) rfl k_2_126 hK 3 rfl (fun _ _ => gu_bool) hZ14 hS14 hA (a0 := (4, .inl (zAr (fun _ => 0)))) (fun _ => rfl) (by decide) (N' := 4) (by decide) (Nat.le_of_ble_eq_true rfl) (Nat.le_of_ble_eq_true rfl) (Nat.le_of_ble_eq_true rfl) d_11_1_67 (fun q15 H15 hZ15 hS15 => ?_)
  replace hZ15 : zHx D ca ad lnC Ki.2 L F B [(a, .inr (9, rg 11 (va_up (va_up (va_up (va_up (va_up (va_up (va_up (fun j => defaultValue (tyX9 j)) 1 (.ref q1)) 3 (.ref q3)) 4 (.ref q5)) 5 (.ref q7)) 6 (.ref q9)) 7 (.ref q11)) 8 (.ref q13)))), (q1, .inl (ca 1, 800, .inr (.inl (zLr (fun _ => 0))))), (q3, .inl (ca 8, 4, .inr (.inr (.inr (.inr (fun j => some (q3 + 1 + j))))))), (q3 + 1 + 0, .inl (ca 0, 300, .inl (zAr (fun _ => 0)))), (q3 + 1 + 1, .inl (ca 0, 300, .inl (zAr (fun _ => 0)))), (q3 + 1 + 2, .inl (ca 0, 300, .inl (zAr (fun _ => 0)))), (q3 + 1 + 3, .inl (ca 0, 300, .inl (zAr (fun _ => 0)))), (q5, .inl (ca 8, 4, .inr (.inr (.inr (.inr (fun j => some (q5 + 1 + j))))))), (q5 + 1 + 0, .inl (ca 0, 800, .inl (zAr (fun _ => 0)))), (q5 + 1 + 1, .inl (ca 0, 800, .inl (zAr (fun _ => 0)))), (q5 + 1 + 2, .inl (ca 0, 800, .inl (zAr (fun _ => 0)))), (q5 + 1 + 3, .inl (ca 0, 800, .inl (zAr (fun _ => 0)))), (q7, .inl (ca 0, 4, .inl (zAr (fun _ => 0)))), (q9, .inl (ca 0, 4, .inl (zAr (fun _ => 0)))), (q11, .inl (ca 0, 4, .inl (zAr (fun _ => 0)))), (q13, .inl (ca 0, 4, .inl (zAr (fun _ => 0)))), (q15, .inl (ca 3, 4, .inl (zAr (fun _ => 0))))] A H15 := hZ15
  clear hZ14 hS14
  refine W.widen (k := 16) (n := 5228) (Nat.le_of_ble_eq_true rfl) (Nat.le_of_ble_eq_true rfl) ?_
  refine zxputF hx hb hts inW_9 tyX9 tyX9_ok nmX9 hown hK hZ15 hS15 0 rfl rfl (k := 9) (by decide) k_5_210 rfl hnm rfl rfl rfl d_11_1_69 (fun H16 locs16 hZ16 hS16 => ?_)
  replace hZ16 : zHx D ca ad lnC Ki.2 L F B [(a, .inr (9, rg 11 (va_up (va_up (va_up (va_up (va_up (va_up (va_up (va_up (fun j => defaultValue (tyX9 j)) 1 (.ref q1)) 3 (.ref q3)) 4 (.ref q5)) 5 (.ref q7)) 6 (.ref q9)) 7 (.ref q11)) 8 (.ref q13)) 9 (.ref q15)))), (q1, .inl (ca 1, 800, .inr (.inl (zLr (fun _ => 0))))), (q3, .inl (ca 8, 4, .inr (.inr (.inr (.inr (fun j => some (q3 + 1 + j))))))), (q3 + 1 + 0, .inl (ca 0, 300, .inl (zAr (fun _ => 0)))), (q3 + 1 + 1, .inl (ca 0, 300, .inl (zAr (fun _ => 0)))), (q3 + 1 + 2, .inl (ca 0, 300, .inl (zAr (fun _ => 0)))), (q3 + 1 + 3, .inl (ca 0, 300, .inl (zAr (fun _ => 0)))), (q5, .inl (ca 8, 4, .inr (.inr (.inr (.inr (fun j => some (q5 + 1 + j))))))), (q5 + 1 + 0, .inl (ca 0, 800, .inl (zAr (fun _ => 0)))), (q5 + 1 + 1, .inl (ca 0, 800, .inl (zAr (fun _ => 0)))), (q5 + 1 + 2, .inl (ca 0, 800, .inl (zAr (fun _ => 0)))), (q5 + 1 + 3, .inl (ca 0, 800, .inl (zAr (fun _ => 0)))), (q7, .inl (ca 0, 4, .inl (zAr (fun _ => 0)))), (q9, .inl (ca 0, 4, .inl (zAr (fun _ => 0)))), (q11, .inl (ca 0, 4, .inl (zAr (fun _ => 0)))), (q13, .inl (ca 0, 4, .inl (zAr (fun _ => 0)))), (q15, .inl (ca 3, 4, .inl (zAr (fun _ => 0))))] A H16 := hZ16
  clear hZ15 hS15
  refine lv_aload_n hx hb d_11_1_72 rfl (lv_at hl 0 rfl) ?_
  refine lv_bipush (v := iI 7) hx hb d_11_1_73 (by decide) ?_
  refine zxnewa (atype := .int) hx hb hts (ty := .int) rfl k_1_57 hK 0 rfl (fun _ _ => gu_int) hZ16 hS16 hA (a0 := (7, .inl (zAr (fun _ => 0)))) (fun _ => rfl) (by decide) (N' := 7) (by decide) (Nat.le_of_ble_eq_true rfl) (Nat.le_of_ble_eq_true rfl) (Nat.le_of_ble_eq_true rfl) d_11_1_75 (fun q17 H17 hZ17 hS17 => ?_)
  replace hZ17 : zHx D ca ad lnC Ki.2 L F B [(a, .inr (9, rg 11 (va_up (va_up (va_up (va_up (va_up (va_up (va_up (va_up (fun j => defaultValue (tyX9 j)) 1 (.ref q1)) 3 (.ref q3)) 4 (.ref q5)) 5 (.ref q7)) 6 (.ref q9)) 7 (.ref q11)) 8 (.ref q13)) 9 (.ref q15)))), (q1, .inl (ca 1, 800, .inr (.inl (zLr (fun _ => 0))))), (q3, .inl (ca 8, 4, .inr (.inr (.inr (.inr (fun j => some (q3 + 1 + j))))))), (q3 + 1 + 0, .inl (ca 0, 300, .inl (zAr (fun _ => 0)))), (q3 + 1 + 1, .inl (ca 0, 300, .inl (zAr (fun _ => 0)))), (q3 + 1 + 2, .inl (ca 0, 300, .inl (zAr (fun _ => 0)))), (q3 + 1 + 3, .inl (ca 0, 300, .inl (zAr (fun _ => 0)))), (q5, .inl (ca 8, 4, .inr (.inr (.inr (.inr (fun j => some (q5 + 1 + j))))))), (q5 + 1 + 0, .inl (ca 0, 800, .inl (zAr (fun _ => 0)))), (q5 + 1 + 1, .inl (ca 0, 800, .inl (zAr (fun _ => 0)))), (q5 + 1 + 2, .inl (ca 0, 800, .inl (zAr (fun _ => 0)))), (q5 + 1 + 3, .inl (ca 0, 800, .inl (zAr (fun _ => 0)))), (q7, .inl (ca 0, 4, .inl (zAr (fun _ => 0)))), (q9, .inl (ca 0, 4, .inl (zAr (fun _ => 0)))), (q11, .inl (ca 0, 4, .inl (zAr (fun _ => 0)))), (q13, .inl (ca 0, 4, .inl (zAr (fun _ => 0)))), (q15, .inl (ca 3, 4, .inl (zAr (fun _ => 0)))), (q17, .inl (ca 0, 7, .inl (zAr (fun _ => 0))))] A H17 := hZ17
  clear hZ16 hS16
  refine W.widen (k := 17) (n := 5235) (Nat.le_of_ble_eq_true rfl) (Nat.le_of_ble_eq_true rfl) ?_
  refine zxputF hx hb hts inW_9 tyX9 tyX9_ok nmX9 hown hK hZ17 hS17 0 rfl rfl (k := 10) (by decide) k_5_211 rfl hnm rfl rfl rfl d_11_1_77 (fun H18 locs18 hZ18 hS18 => ?_)
  replace hZ18 : zHx D ca ad lnC Ki.2 L F B [(a, .inr (9, rg 11 (va_up (va_up (va_up (va_up (va_up (va_up (va_up (va_up (va_up (fun j => defaultValue (tyX9 j)) 1 (.ref q1)) 3 (.ref q3)) 4 (.ref q5)) 5 (.ref q7)) 6 (.ref q9)) 7 (.ref q11)) 8 (.ref q13)) 9 (.ref q15)) 10 (.ref q17)))), (q1, .inl (ca 1, 800, .inr (.inl (zLr (fun _ => 0))))), (q3, .inl (ca 8, 4, .inr (.inr (.inr (.inr (fun j => some (q3 + 1 + j))))))), (q3 + 1 + 0, .inl (ca 0, 300, .inl (zAr (fun _ => 0)))), (q3 + 1 + 1, .inl (ca 0, 300, .inl (zAr (fun _ => 0)))), (q3 + 1 + 2, .inl (ca 0, 300, .inl (zAr (fun _ => 0)))), (q3 + 1 + 3, .inl (ca 0, 300, .inl (zAr (fun _ => 0)))), (q5, .inl (ca 8, 4, .inr (.inr (.inr (.inr (fun j => some (q5 + 1 + j))))))), (q5 + 1 + 0, .inl (ca 0, 800, .inl (zAr (fun _ => 0)))), (q5 + 1 + 1, .inl (ca 0, 800, .inl (zAr (fun _ => 0)))), (q5 + 1 + 2, .inl (ca 0, 800, .inl (zAr (fun _ => 0)))), (q5 + 1 + 3, .inl (ca 0, 800, .inl (zAr (fun _ => 0)))), (q7, .inl (ca 0, 4, .inl (zAr (fun _ => 0)))), (q9, .inl (ca 0, 4, .inl (zAr (fun _ => 0)))), (q11, .inl (ca 0, 4, .inl (zAr (fun _ => 0)))), (q13, .inl (ca 0, 4, .inl (zAr (fun _ => 0)))), (q15, .inl (ca 3, 4, .inl (zAr (fun _ => 0)))), (q17, .inl (ca 0, 7, .inl (zAr (fun _ => 0))))] A H18 := hZ18
  clear hZ17 hS17
  obtain ⟨g20, hf⟩ := gif hf
  have hZ21 := hZ18.repl (v := fun j => some ((([(0, a), (2, q1), (4, q3), (261, q3 + 1 + 0), (262, q3 + 1 + 1), (263, q3 + 1 + 2), (264, q3 + 1 + 3), (5, q5), (281, q5 + 1 + 0), (282, q5 + 1 + 1), (283, q5 + 1 + 2), (284, q5 + 1 + 3), (6, q7), (7, q9), (8, q11), (9, q13), (10, q15), (11, q17)] : List (Nat × Nat)).lookup (260 + j + 1)).getD 0)) 2 rfl (And.intro rfl (And.intro rfl (And.intro rfl (And.intro rfl trivial))))
  replace hZ21 : zHx D ca ad lnC Ki.2 L F B [(a, .inr (9, rg 11 (va_up (va_up (va_up (va_up (va_up (va_up (va_up (va_up (va_up (fun j => defaultValue (tyX9 j)) 1 (.ref q1)) 3 (.ref q3)) 4 (.ref q5)) 5 (.ref q7)) 6 (.ref q9)) 7 (.ref q11)) 8 (.ref q13)) 9 (.ref q15)) 10 (.ref q17)))), (q1, .inl (ca 1, 800, .inr (.inl (zLr (fun _ => 0))))), (q3, .inl (ca 8, 4, .inr (.inr (.inr (.inr (fun j => some ((([(0, a), (2, q1), (4, q3), (261, q3 + 1 + 0), (262, q3 + 1 + 1), (263, q3 + 1 + 2), (264, q3 + 1 + 3), (5, q5), (281, q5 + 1 + 0), (282, q5 + 1 + 1), (283, q5 + 1 + 2), (284, q5 + 1 + 3), (6, q7), (7, q9), (8, q11), (9, q13), (10, q15), (11, q17)] : List (Nat × Nat)).lookup (260 + j + 1)).getD 0))))))), (q3 + 1 + 0, .inl (ca 0, 300, .inl (zAr (fun _ => 0)))), (q3 + 1 + 1, .inl (ca 0, 300, .inl (zAr (fun _ => 0)))), (q3 + 1 + 2, .inl (ca 0, 300, .inl (zAr (fun _ => 0)))), (q3 + 1 + 3, .inl (ca 0, 300, .inl (zAr (fun _ => 0)))), (q5, .inl (ca 8, 4, .inr (.inr (.inr (.inr (fun j => some (q5 + 1 + j))))))), (q5 + 1 + 0, .inl (ca 0, 800, .inl (zAr (fun _ => 0)))), (q5 + 1 + 1, .inl (ca 0, 800, .inl (zAr (fun _ => 0)))), (q5 + 1 + 2, .inl (ca 0, 800, .inl (zAr (fun _ => 0)))), (q5 + 1 + 3, .inl (ca 0, 800, .inl (zAr (fun _ => 0)))), (q7, .inl (ca 0, 4, .inl (zAr (fun _ => 0)))), (q9, .inl (ca 0, 4, .inl (zAr (fun _ => 0)))), (q11, .inl (ca 0, 4, .inl (zAr (fun _ => 0)))), (q13, .inl (ca 0, 4, .inl (zAr (fun _ => 0)))), (q15, .inl (ca 3, 4, .inl (zAr (fun _ => 0)))), (q17, .inl (ca 0, 7, .inl (zAr (fun _ => 0))))] A H18 := hZ21
  have hZ22 := hZ21.repl (v := fun j => some ((([(0, a), (2, q1), (4, q3), (261, q3 + 1 + 0), (262, q3 + 1 + 1), (263, q3 + 1 + 2), (264, q3 + 1 + 3), (5, q5), (281, q5 + 1 + 0), (282, q5 + 1 + 1), (283, q5 + 1 + 2), (284, q5 + 1 + 3), (6, q7), (7, q9), (8, q11), (9, q13), (10, q15), (11, q17)] : List (Nat × Nat)).lookup (280 + j + 1)).getD 0)) 7 rfl (And.intro rfl (And.intro rfl (And.intro rfl (And.intro rfl trivial))))
  replace hZ22 : zHx D ca ad lnC Ki.2 L F B [(a, .inr (9, rg 11 (va_up (va_up (va_up (va_up (va_up (va_up (va_up (va_up (va_up (fun j => defaultValue (tyX9 j)) 1 (.ref q1)) 3 (.ref q3)) 4 (.ref q5)) 5 (.ref q7)) 6 (.ref q9)) 7 (.ref q11)) 8 (.ref q13)) 9 (.ref q15)) 10 (.ref q17)))), (q1, .inl (ca 1, 800, .inr (.inl (zLr (fun _ => 0))))), (q3, .inl (ca 8, 4, .inr (.inr (.inr (.inr (fun j => some ((([(0, a), (2, q1), (4, q3), (261, q3 + 1 + 0), (262, q3 + 1 + 1), (263, q3 + 1 + 2), (264, q3 + 1 + 3), (5, q5), (281, q5 + 1 + 0), (282, q5 + 1 + 1), (283, q5 + 1 + 2), (284, q5 + 1 + 3), (6, q7), (7, q9), (8, q11), (9, q13), (10, q15), (11, q17)] : List (Nat × Nat)).lookup (260 + j + 1)).getD 0))))))), (q3 + 1 + 0, .inl (ca 0, 300, .inl (zAr (fun _ => 0)))), (q3 + 1 + 1, .inl (ca 0, 300, .inl (zAr (fun _ => 0)))), (q3 + 1 + 2, .inl (ca 0, 300, .inl (zAr (fun _ => 0)))), (q3 + 1 + 3, .inl (ca 0, 300, .inl (zAr (fun _ => 0)))), (q5, .inl (ca 8, 4, .inr (.inr (.inr (.inr (fun j => some ((([(0, a), (2, q1), (4, q3), (261, q3 + 1 + 0), (262, q3 + 1 + 1), (263, q3 + 1 + 2), (264, q3 + 1 + 3), (5, q5), (281, q5 + 1 + 0), (282, q5 + 1 + 1), (283, q5 + 1 + 2), (284, q5 + 1 + 3), (6, q7), (7, q9), (8, q11), (9, q13), (10, q15), (11, q17)] : List (Nat × Nat)).lookup (280 + j + 1)).getD 0))))))), (q5 + 1 + 0, .inl (ca 0, 800, .inl (zAr (fun _ => 0)))), (q5 + 1 + 1, .inl (ca 0, 800, .inl (zAr (fun _ => 0)))), (q5 + 1 + 2, .inl (ca 0, 800, .inl (zAr (fun _ => 0)))), (q5 + 1 + 3, .inl (ca 0, 800, .inl (zAr (fun _ => 0)))), (q7, .inl (ca 0, 4, .inl (zAr (fun _ => 0)))), (q9, .inl (ca 0, 4, .inl (zAr (fun _ => 0)))), (q11, .inl (ca 0, 4, .inl (zAr (fun _ => 0)))), (q13, .inl (ca 0, 4, .inl (zAr (fun _ => 0)))), (q15, .inl (ca 3, 4, .inl (zAr (fun _ => 0)))), (q17, .inl (ca 0, 7, .inl (zAr (fun _ => 0))))] A H18 := hZ22
  obtain ⟨ad19, L19, hZ19, hG19, hq19⟩ : ∃ ad' L', zH D ca ad' lnC (zinN Ki.2 9) L' (zinF F 9 (Ki.2 9) [0, 0, 0, 0, 0, 0, 0, 0, 0, 0, 0]) (zinB B 9 (Ki.2 9) (fun _ _ => 0)) A H18 ∧ zG ad Ki.2 ad' (zinN Ki.2 9) ∧ ad' 9 (Ki.2 9) 0 = a := ⟨_, _, ztake2 (c := 9) (n := 11) (l := [(0, a), (2, q1), (4, q3), (261, q3 + 1 + 0), (262, q3 + 1 + 1), (263, q3 + 1 + 2), (264, q3 + 1 + 3), (5, q5), (281, q5 + 1 + 0), (282, q5 + 1 + 1), (283, q5 + 1 + 2), (284, q5 + 1 + 3), (6, q7), (7, q9), (8, q11), (9, q13), (10, q15), (11, q17)]) (fi := [0, 0, 0, 0, 0, 0, 0, 0, 0, 0, 0]) (b := (fun _ _ => 0)) (a := a) (r2 := []) (r3 := [(1, 1), (5, 0), (6, 0), (7, 0), (8, 0), (9, 3), (10, 0), (260, 0), (261, 0), (262, 0), (263, 0), (280, 0), (281, 0), (282, 0), (283, 0)]) (r4 := [(3, 0), (4, 0)]) hZ22 g20 (by decide +kernel) (by decide +kernel) (by decide +kernel) rfl (show 0 ∈ ([0, 2, 4, 261, 262, 263, 264, 5, 281, 282, 283, 284, 6, 7, 8, 9, 10, 11] : List Nat) by decide) (show zAll [(1, 1), (5, 0), (6, 0), (7, 0), (8, 0), (9, 3), (10, 0), (260, 0), (261, 0), (262, 0), (263, 0), (280, 0), (281, 0), (282, 0), (283, 0)] (fun x : Nat × Nat => x.1 + 1 ∈ ([0, 2, 4, 261, 262, 263, 264, 5, 281, 282, 283, 284, 6, 7, 8, 9, 10, 11] : List Nat)) from (And.intro (by decide) (And.intro (by decide) (And.intro (by decide) (And.intro (by decide) (And.intro (by decide) (And.intro (by decide) (And.intro (by decide) (And.intro (by decide) (And.intro (by decide) (And.intro (by decide) (And.intro (by decide) (And.intro (by decide) (And.intro (by decide) (And.intro (by decide) (And.intro (by decide) trivial)))))))))))))))) (show zAll [(3, 0), (4, 0)] (fun x : Nat × Nat => x.1 + 1 ∈ ([0, 2, 4, 261, 262, 263, 264, 5, 281, 282, 283, 284, 6, 7, 8, 9, 10, 11] : List Nat)) from (And.intro (by decide) (And.intro (by decide) trivial))) rfl rfl (List.mem_of_getElem? (i := 0) rfl) (And.intro rfl (And.intro rfl (And.intro rfl (And.intro rfl (And.intro rfl (And.intro rfl (And.intro rfl (And.intro rfl (And.intro rfl (And.intro rfl (And.intro rfl trivial))))))))))) (And.intro (List.mem_of_getElem? (i := 1) rfl) (And.intro (List.mem_of_getElem? (i := 12) rfl) (And.intro (List.mem_of_getElem? (i := 13) rfl) (And.intro (List.mem_of_getElem? (i := 14) rfl) (And.intro (List.mem_of_getElem? (i := 15) rfl) (And.intro (List.mem_of_getElem? (i := 16) rfl) (And.intro (List.mem_of_getElem? (i := 17) rfl) (And.intro (List.mem_of_getElem? (i := 3) rfl) (And.intro (List.mem_of_getElem? (i := 4) rfl) (And.intro (List.mem_of_getElem? (i := 5) rfl) (And.intro (List.mem_of_getElem? (i := 6) rfl) (And.intro (List.mem_of_getElem? (i := 8) rfl) (And.intro (List.mem_of_getElem? (i := 9) rfl) (And.intro (List.mem_of_getElem? (i := 10) rfl) (And.intro (List.mem_of_getElem? (i := 11) rfl) trivial))))))))))))))) (And.intro (List.mem_of_getElem? (i := 2) rfl) (And.intro (List.mem_of_getElem? (i := 7) rfl) trivial)) trivial (And.intro (fun h => absurd h (by decide)) (And.intro (fun h => absurd h (by decide)) (And.intro (fun h => absurd h (by decide)) (And.intro (fun h => absurd h (by decide)) (And.intro (fun h => absurd h (by decide)) (And.intro (fun h => absurd h (by decide)) (And.intro (fun h => absurd h (by decide)) (And.intro (fun h => absurd h (by decide)) (And.intro (fun h => absurd h (by decide)) (And.intro (fun h => absurd h (by decide)) (And.intro (fun h => absurd h (by decide)) (And.intro (fun h => absurd h (by decide)) (And.intro (fun h => absurd h (by decide)) (And.intro (fun h => absurd h (by decide)) (And.intro (fun h => absurd h (by decide)) trivial))))))))))))))), hG.tr zinA_G, zinA_new⟩
  cases hf
  exact W.vret hx hb hr (fun t ht hW => ⟨⟨(ad19, L19), rfl, ⟨hG19, hq19⟩, by rw [ht]; exact hZ19, va_K.moved hW.alike hK⟩, hS18.F ht⟩) hS18.2.2 d_11_1_80 hlk

theorem m_Study_init {Ki : zK} {F : zF} {B : zB} {r : Int} {F9 : zF} {B9 : zB} {K9 : zK} (hf : f_Study_init Ki F B = some (r, F9, B9, K9)) : zKle Ki K9 := by
  replace hf : (if 0 ≤ Ki.2 9 then some (Ki.2 9, (zinF F 9 (Ki.2 9) [0, 0, 0, 0, 0, 0, 0, 0, 0, 0, 0]), (zinB B 9 (Ki.2 9) (fun _ _ => 0)), (Ki.1, zinN Ki.2 9)) else none) = some (r, F9, B9, K9) := hf
  obtain ⟨g20, hf⟩ := gif hf
  cases hf
  exact zKle_in

theorem w_Study_init {Ki : zK} {F : zF} {B : zB} {r : Int} {F9 : zF} {B9 : zB} {K9 : zK} (hf : f_Study_init Ki F B = some (r, F9, B9, K9)) : cwN K9.2 = cwN Ki.2 + 18 ∧ swN K9.2 = swN Ki.2 + 5246 := by
  replace hf : (if 0 ≤ Ki.2 9 then some (Ki.2 9, (zinF F 9 (Ki.2 9) [0, 0, 0, 0, 0, 0, 0, 0, 0, 0, 0]), (zinB B 9 (Ki.2 9) (fun _ _ => 0)), (Ki.1, zinN Ki.2 9)) else none) = some (r, F9, B9, K9) := hf
  obtain ⟨g20, hf⟩ := gif hf
  cases hf
  have e : ((Ki.2 9) + 1).toNat = (Ki.2 9).toNat + 1 := by omega
  simp only [cwN, swN, zinN, reduceIte, Nat.reduceEqDiff, e]
  generalize (Ki.2 1).toNat = x1
  generalize (Ki.2 2).toNat = x2
  generalize (Ki.2 4).toNat = x4
  generalize (Ki.2 5).toNat = x5
  generalize (Ki.2 6).toNat = x6
  generalize (Ki.2 8).toNat = x8
  generalize (Ki.2 9).toNat = x9
  clear e
  omega

abbrev Q_Performance_init (K : zK) (D : va_G) (ca : Nat → ClassId) (ad : Nat → Int → Nat → Nat) (a : Nat) (r : Int) (F : zF) (B : zB) (K9 : zK) (A : Nat → Prop) : Array Value → State → Outcome → State → Prop := va_Qv (S := (Nat → Int → Nat → Nat) × List Nat) (fun u => zG ad K.2 u.1 K9.2 ∧ u.1 5 r 0 = a) (fun u => zPo D ca u.1 lnC K9.2 u.2 F B A) A
def f_Performance_init (Ki : zK) (F : zF) (B : zB) : zOm := if 0 ≤ Ki.2 5 then some (Ki.2 5, (zinF F 5 (Ki.2 5) [0, 0, 0, 0, 0, 0, 0, 0, 180, 181, 0, 0, 0, 0]), (zinB B 5 (Ki.2 5) (fun _ _ => 0)), (Ki.1, zinN Ki.2 5)) else none
set_option maxHeartbeats 4000000 in
set_option maxRecDepth 100000 in
theorem c_Performance_init {l : Launch} {D : va_G} {ca : Nat → ClassId} {ad : Nat → Int → Nat → Nat} {L : List Nat} {aS vS : Nat → Nat} {sz a : Nat} {Ki : zK} {F : zF} {B : zB} {r : Int} {F9 : zF} {B9 : zB} {K9 : zK} (hf : f_Performance_init Ki F B = some (r, F9, B9, K9)) : Met l ({ cls := "StaveHouse$Performance", name := "<init>", desc := "()V" } : Jvm.MethodName) (Cond.code ({ cls := "StaveHouse$Performance", name := "<init>", desc := "()V" } : Jvm.MethodName) prog_7_method_1_code 1 (Option.none : Option Jvm.ClassFile.FieldType) :: wAll) ({ frames := 1, cells := 13, slots := 23018, locals := 12 } : Room) (va_Pc [.ref a] (zPreX D ca ad lnC Ki.2 L aS vS F B a (.inr (5, rg 14 (fun j => defaultValue (tyX5 j)))) sz)) (Q_Performance_init Ki D ca ad a r F9 B9 K9 (zA (a :: L) sz)) 13 23018 (zA (a :: L) sz) := by
  refine zMetX (Qc := Q_Performance_init Ki D ca ad a r F9 B9 K9) (lv := [(0, .ref a)]) (by decide) (Nat.le_of_ble_eq_true rfl) rfl (fun A p e s m below meth c ls X hnm hZ hS hl => ?_)
  obtain ⟨hx, hb, hr, hml, hown, hts, hlk, hK, hA, hL, hX⟩ := id X
  replace hnm : meth.name = "<init>" := hnm
  have hG : zG ad Ki.2 ad Ki.2 := zG.rf
  replace hf : (if 0 ≤ Ki.2 5 then some (Ki.2 5, (zinF F 5 (Ki.2 5) [0, 0, 0, 0, 0, 0, 0, 0, 180, 181, 0, 0, 0, 0]), (zinB B 5 (Ki.2 5) (fun _ _ => 0)), (Ki.1, zinN Ki.2 5)) else none) = some (r, F9, B9, K9) := hf
  refine lv_aload_n hx hb d_7_1_0 rfl (lv_at hl 0 rfl) ?_
  refine W.objInit hx hb hown (hts _ k_6_61) (hts _ k_1_30) (hts _ k_1_31) rfl (by rw [hml]; exact hl.1) rfl d_7_1_1 (Nat.le_of_ble_eq_true rfl) (Nat.le_of_ble_eq_true rfl) ?_
  refine W.eq (g2 := F0 m 4 ls []) rfl ?_
  refine lv_aload_n hx hb d_7_1_4 rfl (lv_at hl 0 rfl) ?_
  refine lv_sipush (v := iI 1000) hx hb d_7_1_5 (by decide) ?_
  refine zxnewa (atype := .int) hx hb hts (ty := .int) rfl k_1_57 hK 0 rfl (fun _ _ => gu_int) hZ hS hA (a0 := (1000, .inl (zAr (fun _ => 0)))) (fun _ => rfl) (by decide) (N' := 1000) (by decide) (Nat.le_of_ble_eq_true rfl) (Nat.le_of_ble_eq_true rfl) (Nat.le_of_ble_eq_true rfl) d_7_1_8 (fun q1 H1 hZ1 hS1 => ?_)
  replace hZ1 : zHx D ca ad lnC Ki.2 L F B [(a, .inr (5, rg 14 (fun j => defaultValue (tyX5 j)))), (q1, .inl (ca 0, 1000, .inl (zAr (fun _ => 0))))] A H1 := hZ1
  refine W.widen (k := 1) (n := 1000) (Nat.le_of_ble_eq_true rfl) (Nat.le_of_ble_eq_true rfl) ?_
  refine zxputF hx hb hts inW_5 tyX5 tyX5_ok nmX5 hown hK hZ1 hS1 0 rfl rfl (k := 4) (by decide) k_6_71 rfl hnm rfl rfl rfl d_7_1_10 (fun H2 locs2 hZ2 hS2 => ?_)
  replace hZ2 : zHx D ca ad lnC Ki.2 L F B [(a, .inr (5, rg 14 (va_up (fun j => defaultValue (tyX5 j)) 4 (.ref q1)))), (q1, .inl (ca 0, 1000, .inl (zAr (fun _ => 0))))] A H2 := hZ2
  clear hZ1 hS1
  refine lv_aload_n hx hb d_7_1_13 rfl (lv_at hl 0 rfl) ?_
  refine lv_sipush (v := iI 1000) hx hb d_7_1_14 (by decide) ?_
  refine zxnewa (atype := .int) hx hb hts (ty := .int) rfl k_1_57 hK 0 rfl (fun _ _ => gu_int) hZ2 hS2 hA (a0 := (1000, .inl (zAr (fun _ => 0)))) (fun _ => rfl) (by decide) (N' := 1000) (by decide) (Nat.le_of_ble_eq_true rfl) (Nat.le_of_ble_eq_true rfl) (Nat.le_of_ble_eq_true rfl) d_7_1_17 (fun q3 H3 hZ3 hS3 => ?_)
  replace hZ3 : zHx D ca ad lnC Ki.2 L F B [(a, .inr (5, rg 14 (va_up (fun j => defaultValue (tyX5 j)) 4 (.ref q1)))), (q1, .inl (ca 0, 1000, .inl (zAr (fun _ => 0)))), (q3, .inl (ca 0, 1000, .inl (zAr (fun _ => 0))))] A H3 := hZ3
  clear hZ2 hS2
  refine W.widen (k := 2) (n := 2000) (Nat.le_of_ble_eq_true rfl) (Nat.le_of_ble_eq_true rfl) ?_
  refine zxputF hx hb hts inW_5 tyX5 tyX5_ok nmX5 hown hK hZ3 hS3 0 rfl rfl (k := 5) (by decide) k_6_73 rfl hnm rfl rfl rfl d_7_1_19 (fun H4 locs4 hZ4 hS4 => ?_)
  replace hZ4 : zHx D ca ad lnC Ki.2 L F B [(a, .inr (5, rg 14 (va_up (va_up (fun j => defaultValue (tyX5 j)) 4 (.ref q1)) 5 (.ref q3)))), (q1, .inl (ca 0, 1000, .inl (zAr (fun _ => 0)))), (q3, .inl (ca 0, 1000, .inl (zAr (fun _ => 0))))] A H4 := hZ4
  clear hZ3 hS3
  refine lv_aload_n hx hb d_7_1_22 rfl (lv_at hl 0 rfl) ?_
  refine lv_sipush (v := iI 1000) hx hb d_7_1_23 (by decide) ?_
  refine zxnewa (atype := .int) hx hb hts (ty := .int) rfl k_1_57 hK 0 rfl (fun _ _ => gu_int) hZ4 hS4 hA (a0 := (1000, .inl (zAr (fun _ => 0)))) (fun _ => rfl) (by decide) (N' := 1000) (by decide) (Nat.le_of_ble_eq_true rfl) (Nat.le_of_ble_eq_true rfl) (Nat.le_of_ble_eq_true rfl) d_7_1_26 (fun q5 H5 hZ5 hS5 => ?_)
  replace hZ5 : zHx D ca ad lnC Ki.2 L F B [(a, .inr (5, rg 14 (va_up (va_up (fun j => defaultValue (tyX5 j)) 4 (.ref q1)) 5 (.ref q3)))), (q1, .inl (ca 0, 1000, .inl (zAr (fun _ => 0)))), (q3, .inl (ca 0, 1000, .inl (zAr (fun _ => 0)))), (q5, .inl (ca 0, 1000, .inl (zAr (fun _ => 0))))] A H5 := hZ5
  clear hZ4 hS4
  refine W.widen (k := 3) (n := 3000) (Nat.le_of_ble_eq_true rfl) (Nat.le_of_ble_eq_true rfl) ?_
  refine zxputF hx hb hts inW_5 tyX5 tyX5_ok nmX5 hown hK hZ5 hS5 0 rfl rfl (k := 6) (by decide) k_6_75 rfl hnm rfl rfl rfl d_7_1_28 (fun H6 locs6 hZ6 hS6 => ?_)
  replace hZ6 : zHx D ca ad lnC Ki.2 L F B [(a, .inr (5, rg 14 (va_up (va_up (va_up (fun j => defaultValue (tyX5 j)) 4 (.ref q1)) 5 (.ref q3)) 6 (.ref q5)))), (q1, .inl (ca 0, 1000, .inl (zAr (fun _ => 0)))), (q3, .inl (ca 0, 1000, .inl (zAr (fun _ => 0)))), (q5, .inl (ca 0, 1000, .inl (zAr (fun _ => 0))))] A H6 := hZ6
  clear hZ5 hS5
  refine lv_aload_n hx hb d_7_1_31 rfl (lv_at hl 0 rfl) ?_
  refine lv_bipush (v := iI 6) hx hb d_7_1_32 (by decide) ?_
  refine lv_sipush (v := iI 2000) hx hb d_7_1_34 (by decide) ?_
  refine zxmna (ty := .int) hx hb hts hown (nm := "[[I") (by decide +kernel) k_6_62 (hX.2.2.1 _ (List.mem_of_getElem? (i := 0) rfl) :) k_1_57 hK 8 0 rfl rfl ra_int hZ6 hS6 hA (a0 := (2000, .inl (zAr (fun _ => 0)))) (fun _ => rfl) (by decide) (by decide) (N' := 6) (K' := 2000) (by decide) (by decide) (Nat.le_of_ble_eq_true rfl) (Nat.le_of_ble_eq_true rfl) (Nat.le_of_ble_eq_true rfl) rfl rfl (Nat.le_of_ble_eq_true rfl) (Nat.le_of_ble_eq_true rfl) d_7_1_37 (g := fun q j => some (q + 1 + j)) (fun _ _ _ => rfl) (fun q7 H7 hZ7 hS7 => ?_)
  replace hZ7 : zHx D ca ad lnC Ki.2 L F B [(a, .inr (5, rg 14 (va_up (va_up (va_up (fun j => defaultValue (tyX5 j)) 4 (.ref q1)) 5 (.ref q3)) 6 (.ref q5)))), (q1, .inl (ca 0, 1000, .inl (zAr (fun _ => 0)))), (q3, .inl (ca 0, 1000, .inl (zAr (fun _ => 0)))), (q5, .inl (ca 0, 1000, .inl (zAr (fun _ => 0)))), (q7, .inl (ca 8, 6, .inr (.inr (.inr (.inr (fun j => some (q7 + 1 + j))))))), (q7 + 1 + 0, .inl (ca 0, 2000, .inl (zAr (fun _ => 0)))), (q7 + 1 + 1, .inl (ca 0, 2000, .inl (zAr (fun _ => 0)))), (q7 + 1 + 2, .inl (ca 0, 2000, .inl (zAr (fun _ => 0)))), (q7 + 1 + 3, .inl (ca 0, 2000, .inl (zAr (fun _ => 0)))), (q7 + 1 + 4, .inl (ca 0, 2000, .inl (zAr (fun _ => 0)))), (q7 + 1 + 5, .inl (ca 0, 2000, .inl (zAr (fun _ => 0))))] A H7 := hZ7
  clear hZ6 hS6
  refine W.widen (k := 10) (n := 15006) (Nat.le_of_ble_eq_true rfl) (Nat.le_of_ble_eq_true rfl) ?_
  refine zxputF hx hb hts inW_5 tyX5 tyX5_ok nmX5 hown hK hZ7 hS7 0 rfl rfl (k := 7) (by decide) k_6_76 rfl hnm rfl rfl rfl d_7_1_41 (fun H8 locs8 hZ8 hS8 => ?_)
  replace hZ8 : zHx D ca ad lnC Ki.2 L F B [(a, .inr (5, rg 14 (va_up (va_up (va_up (va_up (fun j => defaultValue (tyX5 j)) 4 (.ref q1)) 5 (.ref q3)) 6 (.ref q5)) 7 (.ref q7)))), (q1, .inl (ca 0, 1000, .inl (zAr (fun _ => 0)))), (q3, .inl (ca 0, 1000, .inl (zAr (fun _ => 0)))), (q5, .inl (ca 0, 1000, .inl (zAr (fun _ => 0)))), (q7, .inl (ca 8, 6, .inr (.inr (.inr (.inr (fun j => some (q7 + 1 + j))))))), (q7 + 1 + 0, .inl (ca 0, 2000, .inl (zAr (fun _ => 0)))), (q7 + 1 + 1, .inl (ca 0, 2000, .inl (zAr (fun _ => 0)))), (q7 + 1 + 2, .inl (ca 0, 2000, .inl (zAr (fun _ => 0)))), (q7 + 1 + 3, .inl (ca 0, 2000, .inl (zAr (fun _ => 0)))), (q7 + 1 + 4, .inl (ca 0, 2000, .inl (zAr (fun _ => 0)))), (q7 + 1 + 5, .inl (ca 0, 2000, .inl (zAr (fun _ => 0))))] A H8 := hZ8
  clear hZ7 hS7
  refine lv_aload_n hx hb d_7_1_44 rfl (lv_at hl 0 rfl) ?_
  refine lv_sipush (v := iI 4000) hx hb d_7_1_45 (by decide) ?_
  refine zxnewa (atype := .long) hx hb hts (ty := .long) rfl k_1_105 hK 1 rfl (fun _ _ => gu_long) hZ8 hS8 hA (a0 := (4000, .inr (.inl (zLr (fun _ => 0))))) (fun _ => rfl) (by decide) (N' := 4000) (by decide) (Nat.le_of_ble_eq_true rfl) (Nat.le_of_ble_eq_true rfl) (Nat.le_of_ble_eq_true rfl) d_7_1_48 (fun q9 H9 hZ9 hS9 => ?_)
  replace hZ9 : zHx D ca ad lnC Ki.2 L F B [(a, .inr (5, rg 14 (va_up (va_up (va_up (va_up (fun j => defaultValue (tyX5 j)) 4 (.ref q1)) 5 (.ref q3)) 6 (.ref q5)) 7 (.ref q7)))), (q1, .inl (ca 0, 1000, .inl (zAr (fun _ => 0)))), (q3, .inl (ca 0, 1000, .inl (zAr (fun _ => 0)))), (q5, .inl (ca 0, 1000, .inl (zAr (fun _ => 0)))), (q7, .inl (ca 8, 6, .inr (.inr (.inr (.inr (fun j => some (q7 + 1 + j))))))), (q7 + 1 + 0, .inl (ca 0, 2000, .inl (zAr (fun _ => 0)))), (q7 + 1 + 1, .inl (ca 0, 2000, .inl (zAr (fun _ => 0)))), (q7 + 1 + 2, .inl (ca 0, 2000, .inl (zAr (fun _ => 0)))), (q7 + 1 + 3, .inl (ca 0, 2000, .inl (zAr (fun _ => 0)))), (q7 + 1 + 4, .inl (ca 0, 2000, .inl (zAr (fun _ => 0)))), (q7 + 1 + 5, .inl (ca 0, 2000, .inl (zAr (fun _ => 0)))), (q9, .inl (ca 1, 4000, .inr (.inl (zLr (fun _ => 0)))))] A H9 := hZ9
  clear hZ8 hS8
  refine W.widen (k := 11) (n := 19006) (Nat.le_of_ble_eq_true rfl) (Nat.le_of_ble_eq_true rfl) ?_
  refine zxput hx hb hts inW_5 tyX5 tyX5_ok nmX5 hown hK hZ9 hS9 0 rfl rfl (k := 8) (by decide) k_6_77 rfl rfl rfl d_7_1_50 (fun H10 locs10 hZ10 hS10 => ?_)
  replace hZ10 : zHx D ca ad lnC Ki.2 L F B [(a, .inr (5, rg 14 (va_up (va_up (va_up (va_up (va_up (fun j => defaultValue (tyX5 j)) 4 (.ref q1)) 5 (.ref q3)) 6 (.ref q5)) 7 (.ref q7)) 8 (.ref q9)))), (q1, .inl (ca 0, 1000, .inl (zAr (fun _ => 0)))), (q3, .inl (ca 0, 1000, .inl (zAr (fun _ => 0)))), (q5, .inl (ca 0, 1000, .inl (zAr (fun _ => 0)))), (q7, .inl (ca 8, 6, .inr (.inr (.inr (.inr (fun j => some (q7 + 1 + j))))))), (q7 + 1 + 0, .inl (ca 0, 2000, .inl (zAr (fun _ => 0)))), (q7 + 1 + 1, .inl (ca 0, 2000, .inl (zAr (fun _ => 0)))), (q7 + 1 + 2, .inl (ca 0, 2000, .inl (zAr (fun _ => 0)))), (q7 + 1 + 3, .inl (ca 0, 2000, .inl (zAr (fun _ => 0)))), (q7 + 1 + 4, .inl (ca 0, 2000, .inl (zAr (fun _ => 0)))), (q7 + 1 + 5, .inl (ca 0, 2000, .inl (zAr (fun _ => 0)))), (q9, .inl (ca 1, 4000, .inr (.inl (zLr (fun _ => 0)))))] A H10 := hZ10
  clear hZ9 hS9
  refine lv_aload_n hx hb d_7_1_53 rfl (lv_at hl 0 rfl) ?_
  refine lv_sipush (v := iI 4000) hx hb d_7_1_54 (by decide) ?_
  refine zxnewa (atype := .long) hx hb hts (ty := .long) rfl k_1_105 hK 1 rfl (fun _ _ => gu_long) hZ10 hS10 hA (a0 := (4000, .inr (.inl (zLr (fun _ => 0))))) (fun _ => rfl) (by decide) (N' := 4000) (by decide) (Nat.le_of_ble_eq_true rfl) (Nat.le_of_ble_eq_true rfl) (Nat.le_of_ble_eq_true rfl) d_7_1_57 (fun q11 H11 hZ11 hS11 => ?_)
  replace hZ11 : zHx D ca ad lnC Ki.2 L F B [(a, .inr (5, rg 14 (va_up (va_up (va_up (va_up (va_up (fun j => defaultValue (tyX5 j)) 4 (.ref q1)) 5 (.ref q3)) 6 (.ref q5)) 7 (.ref q7)) 8 (.ref q9)))), (q1, .inl (ca 0, 1000, .inl (zAr (fun _ => 0)))), (q3, .inl (ca 0, 1000, .inl (zAr (fun _ => 0)))), (q5, .inl (ca 0, 1000, .inl (zAr (fun _ => 0)))), (q7, .inl (ca 8, 6, .inr (.inr (.inr (.inr (fun j => some (q7 + 1 + j))))))), (q7 + 1 + 0, .inl (ca 0, 2000, .inl (zAr (fun _ => 0)))), (q7 + 1 + 1, .inl (ca 0, 2000, .inl (zAr (fun _ => 0)))), (q7 + 1 + 2, .inl (ca 0, 2000, .inl (zAr (fun _ => 0)))), (q7 + 1 + 3, .inl (ca 0, 2000, .inl (zAr (fun _ => 0)))), (q7 + 1 + 4, .inl (ca 0, 2000, .inl (zAr (fun _ => 0)))), (q7 + 1 + 5, .inl (ca 0, 2000, .inl (zAr (fun _ => 0)))), (q9, .inl (ca 1, 4000, .inr (.inl (zLr (fun _ => 0))))), (q11, .inl (ca 1, 4000, .inr (.inl (zLr (fun _ => 0)))))] A H11 := hZ11
  clear hZ10 hS10
  refine W.widen (k := 12) (n := 23006) (Nat.le_of_ble_eq_true rfl) (Nat.le_of_ble_eq_true rfl) ?_
  refine zxput hx hb hts inW_5 tyX5 tyX5_ok nmX5 hown hK hZ11 hS11 0 rfl rfl (k := 9) (by decide) k_6_78 rfl rfl rfl d_7_1_59 (fun H12 locs12 hZ12 hS12 => ?_)
  replace hZ12 : zHx D ca ad lnC Ki.2 L F B [(a, .inr (5, rg 14 (va_up (va_up (va_up (va_up (va_up (va_up (fun j => defaultValue (tyX5 j)) 4 (.ref q1)) 5 (.ref q3)) 6 (.ref q5)) 7 (.ref q7)) 8 (.ref q9)) 9 (.ref q11)))), (q1, .inl (ca 0, 1000, .inl (zAr (fun _ => 0)))), (q3, .inl (ca 0, 1000, .inl (zAr (fun _ => 0)))), (q5, .inl (ca 0, 1000, .inl (zAr (fun _ => 0)))), (q7, .inl (ca 8, 6, .inr (.inr (.inr (.inr (fun j => some (q7 + 1 + j))))))), (q7 + 1 + 0, .inl (ca 0, 2000, .inl (zAr (fun _ => 0)))), (q7 + 1 + 1, .inl (ca 0, 2000, .inl (zAr (fun _ => 0)))), (q7 + 1 + 2, .inl (ca 0, 2000, .inl (zAr (fun _ => 0)))), (q7 + 1 + 3, .inl (ca 0, 2000, .inl (zAr (fun _ => 0)))), (q7 + 1 + 4, .inl (ca 0, 2000, .inl (zAr (fun _ => 0)))), (q7 + 1 + 5, .inl (ca 0, 2000, .inl (zAr (fun _ => 0)))), (q9, .inl (ca 1, 4000, .inr (.inl (zLr (fun _ => 0))))), (q11, .inl (ca 1, 4000, .inr (.inl (zLr (fun _ => 0)))))] A H12 := hZ12
  clear hZ11 hS11
  refine lv_aload_n hx hb d_7_1_62 rfl (lv_at hl 0 rfl) ?_
  refine lv_bipush (v := iI 12) hx hb d_7_1_63 (by decide) ?_
  refine zxnewa (atype := .long) hx hb hts (ty := .long) rfl k_1_105 hK 1 rfl (fun _ _ => gu_long) hZ12 hS12 hA (a0 := (12, .inr (.inl (zLr (fun _ => 0))))) (fun _ => rfl) (by decide) (N' := 12) (by decide) (Nat.le_of_ble_eq_true rfl) (Nat.le_of_ble_eq_true rfl) (Nat.le_of_ble_eq_true rfl) d_7_1_65 (fun q13 H13 hZ13 hS13 => ?_)
  replace hZ13 : zHx D ca ad lnC Ki.2 L F B [(a, .inr (5, rg 14 (va_up (va_up (va_up (va_up (va_up (va_up (fun j => defaultValue (tyX5 j)) 4 (.ref q1)) 5 (.ref q3)) 6 (.ref q5)) 7 (.ref q7)) 8 (.ref q9)) 9 (.ref q11)))), (q1, .inl (ca 0, 1000, .inl (zAr (fun _ => 0)))), (q3, .inl (ca 0, 1000, .inl (zAr (fun _ => 0)))), (q5, .inl (ca 0, 1000, .inl (zAr (fun _ => 0)))), (q7, .inl (ca 8, 6, .inr (.inr (.inr (.inr (fun j => some (q7 + 1 + j))))))), (q7 + 1 + 0, .inl (ca 0, 2000, .inl (zAr (fun _ => 0)))), (q7 + 1 + 1, .inl (ca 0, 2000, .inl (zAr (fun _ => 0)))), (q7 + 1 + 2, .inl (ca 0, 2000, .inl (zAr (fun _ => 0)))), (q7 + 1 + 3, .inl (ca 0, 2000, .inl (zAr (fun _ => 0)))), (q7 + 1 + 4, .inl (ca 0, 2000, .inl (zAr (fun _ => 0)))), (q7 + 1 + 5, .inl (ca 0, 2000, .inl (zAr (fun _ => 0)))), (q9, .inl (ca 1, 4000, .inr (.inl (zLr (fun _ => 0))))), (q11, .inl (ca 1, 4000, .inr (.inl (zLr (fun _ => 0))))), (q13, .inl (ca 1, 12, .inr (.inl (zLr (fun _ => 0)))))] A H13 := hZ13
  clear hZ12 hS12
  refine W.widen (k := 13) (n := 23018) (Nat.le_of_ble_eq_true rfl) (Nat.le_of_ble_eq_true rfl) ?_
  refine zxputF hx hb hts inW_5 tyX5 tyX5_ok nmX5 hown hK hZ13 hS13 0 rfl rfl (k := 10) (by decide) k_6_79 rfl hnm rfl rfl rfl d_7_1_67 (fun H14 locs14 hZ14 hS14 => ?_)
  replace hZ14 : zHx D ca ad lnC Ki.2 L F B [(a, .inr (5, rg 14 (va_up (va_up (va_up (va_up (va_up (va_up (va_up (fun j => defaultValue (tyX5 j)) 4 (.ref q1)) 5 (.ref q3)) 6 (.ref q5)) 7 (.ref q7)) 8 (.ref q9)) 9 (.ref q11)) 10 (.ref q13)))), (q1, .inl (ca 0, 1000, .inl (zAr (fun _ => 0)))), (q3, .inl (ca 0, 1000, .inl (zAr (fun _ => 0)))), (q5, .inl (ca 0, 1000, .inl (zAr (fun _ => 0)))), (q7, .inl (ca 8, 6, .inr (.inr (.inr (.inr (fun j => some (q7 + 1 + j))))))), (q7 + 1 + 0, .inl (ca 0, 2000, .inl (zAr (fun _ => 0)))), (q7 + 1 + 1, .inl (ca 0, 2000, .inl (zAr (fun _ => 0)))), (q7 + 1 + 2, .inl (ca 0, 2000, .inl (zAr (fun _ => 0)))), (q7 + 1 + 3, .inl (ca 0, 2000, .inl (zAr (fun _ => 0)))), (q7 + 1 + 4, .inl (ca 0, 2000, .inl (zAr (fun _ => 0)))), (q7 + 1 + 5, .inl (ca 0, 2000, .inl (zAr (fun _ => 0)))), (q9, .inl (ca 1, 4000, .inr (.inl (zLr (fun _ => 0))))), (q11, .inl (ca 1, 4000, .inr (.inl (zLr (fun _ => 0))))), (q13, .inl (ca 1, 12, .inr (.inl (zLr (fun _ => 0)))))] A H14 := hZ14
  clear hZ13 hS13
  obtain ⟨g16, hf⟩ := gif hf
  have hZ17 := hZ14.repl (v := fun j => some ((([(0, a), (5, q1), (6, q3), (7, q5), (8, q7), (341, q7 + 1 + 0), (342, q7 + 1 + 1), (343, q7 + 1 + 2), (344, q7 + 1 + 3), (345, q7 + 1 + 4), (346, q7 + 1 + 5), (181, q9), (182, q11), (11, q13)] : List (Nat × Nat)).lookup (340 + j + 1)).getD 0)) 4 rfl (And.intro rfl (And.intro rfl (And.intro rfl (And.intro rfl (And.intro rfl (And.intro rfl trivial))))))
  replace hZ17 : zHx D ca ad lnC Ki.2 L F B [(a, .inr (5, rg 14 (va_up (va_up (va_up (va_up (va_up (va_up (va_up (fun j => defaultValue (tyX5 j)) 4 (.ref q1)) 5 (.ref q3)) 6 (.ref q5)) 7 (.ref q7)) 8 (.ref q9)) 9 (.ref q11)) 10 (.ref q13)))), (q1, .inl (ca 0, 1000, .inl (zAr (fun _ => 0)))), (q3, .inl (ca 0, 1000, .inl (zAr (fun _ => 0)))), (q5, .inl (ca 0, 1000, .inl (zAr (fun _ => 0)))), (q7, .inl (ca 8, 6, .inr (.inr (.inr (.inr (fun j => some ((([(0, a), (5, q1), (6, q3), (7, q5), (8, q7), (341, q7 + 1 + 0), (342, q7 + 1 + 1), (343, q7 + 1 + 2), (344, q7 + 1 + 3), (345, q7 + 1 + 4), (346, q7 + 1 + 5), (181, q9), (182, q11), (11, q13)] : List (Nat × Nat)).lookup (340 + j + 1)).getD 0))))))), (q7 + 1 + 0, .inl (ca 0, 2000, .inl (zAr (fun _ => 0)))), (q7 + 1 + 1, .inl (ca 0, 2000, .inl (zAr (fun _ => 0)))), (q7 + 1 + 2, .inl (ca 0, 2000, .inl (zAr (fun _ => 0)))), (q7 + 1 + 3, .inl (ca 0, 2000, .inl (zAr (fun _ => 0)))), (q7 + 1 + 4, .inl (ca 0, 2000, .inl (zAr (fun _ => 0)))), (q7 + 1 + 5, .inl (ca 0, 2000, .inl (zAr (fun _ => 0)))), (q9, .inl (ca 1, 4000, .inr (.inl (zLr (fun _ => 0))))), (q11, .inl (ca 1, 4000, .inr (.inl (zLr (fun _ => 0))))), (q13, .inl (ca 1, 12, .inr (.inl (zLr (fun _ => 0)))))] A H14 := hZ17
  obtain ⟨ad15, L15, hZ15, hG15, hq15⟩ : ∃ ad' L', zH D ca ad' lnC (zinN Ki.2 5) L' (zinF F 5 (Ki.2 5) [0, 0, 0, 0, 0, 0, 0, 0, 180, 181, 0, 0, 0, 0]) (zinB B 5 (Ki.2 5) (fun _ _ => 0)) A H14 ∧ zG ad Ki.2 ad' (zinN Ki.2 5) ∧ ad' 5 (Ki.2 5) 0 = a := ⟨_, _, ztake2 (c := 5) (n := 14) (l := [(0, a), (5, q1), (6, q3), (7, q5), (8, q7), (341, q7 + 1 + 0), (342, q7 + 1 + 1), (343, q7 + 1 + 2), (344, q7 + 1 + 3), (345, q7 + 1 + 4), (346, q7 + 1 + 5), (181, q9), (182, q11), (11, q13)]) (fi := [0, 0, 0, 0, 0, 0, 0, 0, 180, 181, 0, 0, 0, 0]) (b := (fun _ _ => 0)) (a := a) (r2 := []) (r3 := [(4, 0), (5, 0), (6, 0), (10, 1), (180, 1), (181, 1), (340, 0), (341, 0), (342, 0), (343, 0), (344, 0), (345, 0)]) (r4 := [(7, 0)]) hZ17 g16 (by decide +kernel) (by decide +kernel) (by decide +kernel) rfl (show 0 ∈ ([0, 5, 6, 7, 8, 341, 342, 343, 344, 345, 346, 181, 182, 11] : List Nat) by decide) (show zAll [(4, 0), (5, 0), (6, 0), (10, 1), (180, 1), (181, 1), (340, 0), (341, 0), (342, 0), (343, 0), (344, 0), (345, 0)] (fun x : Nat × Nat => x.1 + 1 ∈ ([0, 5, 6, 7, 8, 341, 342, 343, 344, 345, 346, 181, 182, 11] : List Nat)) from (And.intro (by decide) (And.intro (by decide) (And.intro (by decide) (And.intro (by decide) (And.intro (by decide) (And.intro (by decide) (And.intro (by decide) (And.intro (by decide) (And.intro (by decide) (And.intro (by decide) (And.intro (by decide) (And.intro (by decide) trivial))))))))))))) (show zAll [(7, 0)] (fun x : Nat × Nat => x.1 + 1 ∈ ([0, 5, 6, 7, 8, 341, 342, 343, 344, 345, 346, 181, 182, 11] : List Nat)) from (And.intro (by decide) trivial)) rfl rfl (List.mem_of_getElem? (i := 0) rfl) (And.intro rfl (And.intro rfl (And.intro rfl (And.intro rfl (And.intro rfl (And.intro rfl (And.intro rfl (And.intro rfl (And.intro rfl (And.intro rfl (And.intro rfl (And.intro rfl (And.intro rfl (And.intro rfl trivial)))))))))))))) (And.intro (List.mem_of_getElem? (i := 1) rfl) (And.intro (List.mem_of_getElem? (i := 2) rfl) (And.intro (List.mem_of_getElem? (i := 3) rfl) (And.intro (List.mem_of_getElem? (i := 13) rfl) (And.intro (List.mem_of_getElem? (i := 11) rfl) (And.intro (List.mem_of_getElem? (i := 12) rfl) (And.intro (List.mem_of_getElem? (i := 5) rfl) (And.intro (List.mem_of_getElem? (i := 6) rfl) (And.intro (List.mem_of_getElem? (i := 7) rfl) (And.intro (List.mem_of_getElem? (i := 8) rfl) (And.intro (List.mem_of_getElem? (i := 9) rfl) (And.intro (List.mem_of_getElem? (i := 10) rfl) trivial)))))))))))) (And.intro (List.mem_of_getElem? (i := 4) rfl) trivial) trivial (And.intro (fun h => absurd h (by decide)) (And.intro (fun h => absurd h (by decide)) (And.intro (fun h => absurd h (by decide)) (And.intro (fun h => absurd h (by decide)) (And.intro (fun h => absurd h (by decide)) (And.intro (fun h => absurd h (by decide)) (And.intro (fun h => absurd h (by decide)) (And.intro (fun h => absurd h (by decide)) (And.intro (fun h => absurd h (by decide)) (And.intro (fun h => absurd h (by decide)) (And.intro (fun h => absurd h (by decide)) (And.intro (fun h => absurd h (by decide)) trivial)))))))))))), hG.tr zinA_G, zinA_new⟩
  cases hf
  exact W.vret hx hb hr (fun t ht hW => ⟨⟨(ad15, L15), rfl, ⟨hG15, hq15⟩, by rw [ht]; exact hZ15, va_K.moved hW.alike hK⟩, hS14.F ht⟩) hS14.2.2 d_7_1_70 hlk

theorem m_Performance_init {Ki : zK} {F : zF} {B : zB} {r : Int} {F9 : zF} {B9 : zB} {K9 : zK} (hf : f_Performance_init Ki F B = some (r, F9, B9, K9)) : zKle Ki K9 := by
  replace hf : (if 0 ≤ Ki.2 5 then some (Ki.2 5, (zinF F 5 (Ki.2 5) [0, 0, 0, 0, 0, 0, 0, 0, 180, 181, 0, 0, 0, 0]), (zinB B 5 (Ki.2 5) (fun _ _ => 0)), (Ki.1, zinN Ki.2 5)) else none) = some (r, F9, B9, K9) := hf
  obtain ⟨g16, hf⟩ := gif hf
  cases hf
  exact zKle_in

theorem w_Performance_init {Ki : zK} {F : zF} {B : zB} {r : Int} {F9 : zF} {B9 : zB} {K9 : zK} (hf : f_Performance_init Ki F B = some (r, F9, B9, K9)) : cwN K9.2 = cwN Ki.2 + 14 ∧ swN K9.2 = swN Ki.2 + 23032 := by
  replace hf : (if 0 ≤ Ki.2 5 then some (Ki.2 5, (zinF F 5 (Ki.2 5) [0, 0, 0, 0, 0, 0, 0, 0, 180, 181, 0, 0, 0, 0]), (zinB B 5 (Ki.2 5) (fun _ _ => 0)), (Ki.1, zinN Ki.2 5)) else none) = some (r, F9, B9, K9) := hf
  obtain ⟨g16, hf⟩ := gif hf
  cases hf
  have e : ((Ki.2 5) + 1).toNat = (Ki.2 5).toNat + 1 := by omega
  simp only [cwN, swN, zinN, reduceIte, Nat.reduceEqDiff, e]
  generalize (Ki.2 1).toNat = x1
  generalize (Ki.2 2).toNat = x2
  generalize (Ki.2 4).toNat = x4
  generalize (Ki.2 5).toNat = x5
  generalize (Ki.2 6).toNat = x6
  generalize (Ki.2 8).toNat = x8
  generalize (Ki.2 9).toNat = x9
  clear e
  omega

abbrev Q_SoundFile_init (K : zK) (D : va_G) (ca : Nat → ClassId) (ad : Nat → Int → Nat → Nat) (a : Nat) (r : Int) (F : zF) (B : zB) (K9 : zK) (A : Nat → Prop) : Array Value → State → Outcome → State → Prop := va_Qv (S := (Nat → Int → Nat → Nat) × List Nat) (fun u => zG ad K.2 u.1 K9.2 ∧ u.1 8 r 0 = a) (fun u => zPo D ca u.1 lnC K9.2 u.2 F B A) A
def f_SoundFile_init (Ki : zK) (F : zF) (B : zB) : zOm := if 0 ≤ Ki.2 8 then if (-1 : Int) < Ki.2 0 then some (Ki.2 8, (zinF F 8 (Ki.2 8) [0, 0, 0, 0, (-1), 0, 0, 0, 0, 0, 0, 0, 0, 0, 0]), (zinB B 8 (Ki.2 8) (fun _ _ => 0)), (Ki.1, zinN Ki.2 8)) else none else none
set_option maxHeartbeats 4000000 in
set_option maxRecDepth 100000 in
theorem c_SoundFile_init {l : Launch} {D : va_G} {ca : Nat → ClassId} {ad : Nat → Int → Nat → Nat} {L : List Nat} {aS vS : Nat → Nat} {sz a : Nat} {Ki : zK} {F : zF} {B : zB} {r : Int} {F9 : zF} {B9 : zB} {K9 : zK} (hf : f_SoundFile_init Ki F B = some (r, F9, B9, K9)) : Met l ({ cls := "StaveHouse$SoundFile", name := "<init>", desc := "()V" } : Jvm.MethodName) (Cond.code ({ cls := "StaveHouse$SoundFile", name := "<init>", desc := "()V" } : Jvm.MethodName) prog_10_method_1_code 1 (Option.none : Option Jvm.ClassFile.FieldType) :: wAll) ({ frames := 1, cells := 9, slots := 2421, locals := 12 } : Room) (va_Pc [.ref a] (zPreX D ca ad lnC Ki.2 L aS vS F B a (.inr (8, rg 15 (fun j => defaultValue (tyX8 j)))) sz)) (Q_SoundFile_init Ki D ca ad a r F9 B9 K9 (zA (a :: L) sz)) 9 2421 (zA (a :: L) sz) := by
  refine zMetX (Qc := Q_SoundFile_init Ki D ca ad a r F9 B9 K9) (lv := [(0, .ref a)]) (by decide) (Nat.le_of_ble_eq_true rfl) rfl (fun A p e s m below meth c ls X hnm hZ hS hl => ?_)
  obtain ⟨hx, hb, hr, hml, hown, hts, hlk, hK, hA, hL, hX⟩ := id X
  replace hnm : meth.name = "<init>" := hnm
  have hG : zG ad Ki.2 ad Ki.2 := zG.rf
  replace hf : (if 0 ≤ Ki.2 8 then if (-1 : Int) < Ki.2 0 then some (Ki.2 8, (zinF F 8 (Ki.2 8) [0, 0, 0, 0, (-1), 0, 0, 0, 0, 0, 0, 0, 0, 0, 0]), (zinB B 8 (Ki.2 8) (fun _ _ => 0)), (Ki.1, zinN Ki.2 8)) else none else none) = some (r, F9, B9, K9) := hf
  refine lv_aload_n hx hb d_10_1_0 rfl (lv_at hl 0 rfl) ?_
  refine W.objInit hx hb hown (hts _ k_7_214) (hts _ k_1_30) (hts _ k_1_31) rfl (by rw [hml]; exact hl.1) rfl d_10_1_1 (Nat.le_of_ble_eq_true rfl) (Nat.le_of_ble_eq_true rfl) ?_
  refine W.eq (g2 := F0 m 4 ls []) rfl ?_
  refine lv_aload_n hx hb d_10_1_4 rfl (lv_at hl 0 rfl) ?_
  refine lv_bipush (v := iI 7) hx hb d_10_1_5 (by decide) ?_
  refine zxnewa (atype := .int) hx hb hts (ty := .int) rfl k_1_57 hK 0 rfl (fun _ _ => gu_int) hZ hS hA (a0 := (7, .inl (zAr (fun _ => 0)))) (fun _ => rfl) (by decide) (N' := 7) (by decide) (Nat.le_of_ble_eq_true rfl) (Nat.le_of_ble_eq_true rfl) (Nat.le_of_ble_eq_true rfl) d_10_1_7 (fun q1 H1 hZ1 hS1 => ?_)
  replace hZ1 : zHx D ca ad lnC Ki.2 L F B [(a, .inr (8, rg 15 (fun j => defaultValue (tyX8 j)))), (q1, .inl (ca 0, 7, .inl (zAr (fun _ => 0))))] A H1 := hZ1
  refine W.widen (k := 1) (n := 7) (Nat.le_of_ble_eq_true rfl) (Nat.le_of_ble_eq_true rfl) ?_
  refine zxputF hx hb hts inW_8 tyX8 tyX8_ok nmX8 hown hK hZ1 hS1 0 rfl rfl (k := 0) (by decide) k_7_217 rfl hnm rfl rfl rfl d_10_1_9 (fun H2 locs2 hZ2 hS2 => ?_)
  replace hZ2 : zHx D ca ad lnC Ki.2 L F B [(a, .inr (8, rg 15 (va_up (fun j => defaultValue (tyX8 j)) 0 (.ref q1)))), (q1, .inl (ca 0, 7, .inl (zAr (fun _ => 0))))] A H2 := hZ2
  clear hZ1 hS1
  refine lv_aload_n hx hb d_10_1_12 rfl (lv_at hl 0 rfl) ?_
  refine lv_bipush (v := iI 6) hx hb d_10_1_13 (by decide) ?_
  refine lv_sipush (v := iI 400) hx hb d_10_1_15 (by decide) ?_
  refine zxmna (ty := .long) hx hb hts hown (nm := "[[J") (by decide +kernel) k_7_215 (hX.2.2.1 _ (List.mem_of_getElem? (i := 1) rfl) :) k_1_105 hK 9 1 rfl rfl ra_long hZ2 hS2 hA (a0 := (400, .inr (.inl (zLr (fun _ => 0))))) (fun _ => rfl) (by decide) (by decide) (N' := 6) (K' := 400) (by decide) (by decide) (Nat.le_of_ble_eq_true rfl) (Nat.le_of_ble_eq_true rfl) (Nat.le_of_ble_eq_true rfl) rfl rfl (Nat.le_of_ble_eq_true rfl) (Nat.le_of_ble_eq_true rfl) d_10_1_18 (g := fun q j => some (q + 1 + j)) (fun _ _ _ => rfl) (fun q3 H3 hZ3 hS3 => ?_)
  replace hZ3 : zHx D ca ad lnC Ki.2 L F B [(a, .inr (8, rg 15 (va_up (fun j => defaultValue (tyX8 j)) 0 (.ref q1)))), (q1, .inl (ca 0, 7, .inl (zAr (fun _ => 0)))), (q3, .inl (ca 9, 6, .inr (.inr (.inr (.inr (fun j => some (q3 + 1 + j))))))), (q3 + 1 + 0, .inl (ca 1, 400, .inr (.inl (zLr (fun _ => 0))))), (q3 + 1 + 1, .inl (ca 1, 400, .inr (.inl (zLr (fun _ => 0))))), (q3 + 1 + 2, .inl (ca 1, 400, .inr (.inl (zLr (fun _ => 0))))), (q3 + 1 + 3, .inl (ca 1, 400, .inr (.inl (zLr (fun _ => 0))))), (q3 + 1 + 4, .inl (ca 1, 400, .inr (.inl (zLr (fun _ => 0))))), (q3 + 1 + 5, .inl (ca 1, 400, .inr (.inl (zLr (fun _ => 0)))))] A H3 := hZ3
  clear hZ2 hS2
  refine W.widen (k := 8) (n := 2413) (Nat.le_of_ble_eq_true rfl) (Nat.le_of_ble_eq_true rfl) ?_
  refine zxputF hx hb hts inW_8 tyX8 tyX8_ok nmX8 hown hK hZ3 hS3 0 rfl rfl (k := 1) (by decide) k_7_220 rfl hnm rfl rfl rfl d_10_1_22 (fun H4 locs4 hZ4 hS4 => ?_)
  replace hZ4 : zHx D ca ad lnC Ki.2 L F B [(a, .inr (8, rg 15 (va_up (va_up (fun j => defaultValue (tyX8 j)) 0 (.ref q1)) 1 (.ref q3)))), (q1, .inl (ca 0, 7, .inl (zAr (fun _ => 0)))), (q3, .inl (ca 9, 6, .inr (.inr (.inr (.inr (fun j => some (q3 + 1 + j))))))), (q3 + 1 + 0, .inl (ca 1, 400, .inr (.inl (zLr (fun _ => 0))))), (q3 + 1 + 1, .inl (ca 1, 400, .inr (.inl (zLr (fun _ => 0))))), (q3 + 1 + 2, .inl (ca 1, 400, .inr (.inl (zLr (fun _ => 0))))), (q3 + 1 + 3, .inl (ca 1, 400, .inr (.inl (zLr (fun _ => 0))))), (q3 + 1 + 4, .inl (ca 1, 400, .inr (.inl (zLr (fun _ => 0))))), (q3 + 1 + 5, .inl (ca 1, 400, .inr (.inl (zLr (fun _ => 0)))))] A H4 := hZ4
  clear hZ3 hS3
  refine lv_aload_n hx hb d_10_1_25 rfl (lv_at hl 0 rfl) ?_
  refine lv_bipush (v := iI 8) hx hb d_10_1_26 (by decide) ?_
  refine zxnewa (atype := .int) hx hb hts (ty := .int) rfl k_1_57 hK 0 rfl (fun _ _ => gu_int) hZ4 hS4 hA (a0 := (8, .inl (zAr (fun _ => 0)))) (fun _ => rfl) (by decide) (N' := 8) (by decide) (Nat.le_of_ble_eq_true rfl) (Nat.le_of_ble_eq_true rfl) (Nat.le_of_ble_eq_true rfl) d_10_1_28 (fun q5 H5 hZ5 hS5 => ?_)
  replace hZ5 : zHx D ca ad lnC Ki.2 L F B [(a, .inr (8, rg 15 (va_up (va_up (fun j => defaultValue (tyX8 j)) 0 (.ref q1)) 1 (.ref q3)))), (q1, .inl (ca 0, 7, .inl (zAr (fun _ => 0)))), (q3, .inl (ca 9, 6, .inr (.inr (.inr (.inr (fun j => some (q3 + 1 + j))))))), (q3 + 1 + 0, .inl (ca 1, 400, .inr (.inl (zLr (fun _ => 0))))), (q3 + 1 + 1, .inl (ca 1, 400, .inr (.inl (zLr (fun _ => 0))))), (q3 + 1 + 2, .inl (ca 1, 400, .inr (.inl (zLr (fun _ => 0))))), (q3 + 1 + 3, .inl (ca 1, 400, .inr (.inl (zLr (fun _ => 0))))), (q3 + 1 + 4, .inl (ca 1, 400, .inr (.inl (zLr (fun _ => 0))))), (q3 + 1 + 5, .inl (ca 1, 400, .inr (.inl (zLr (fun _ => 0))))), (q5, .inl (ca 0, 8, .inl (zAr (fun _ => 0))))] A H5 := hZ5
  clear hZ4 hS4
  refine W.widen (k := 9) (n := 2421) (Nat.le_of_ble_eq_true rfl) (Nat.le_of_ble_eq_true rfl) ?_
  refine zxputF hx hb hts inW_8 tyX8 tyX8_ok nmX8 hown hK hZ5 hS5 0 rfl rfl (k := 3) (by decide) k_7_226 rfl hnm rfl rfl rfl d_10_1_30 (fun H6 locs6 hZ6 hS6 => ?_)
  replace hZ6 : zHx D ca ad lnC Ki.2 L F B [(a, .inr (8, rg 15 (va_up (va_up (va_up (fun j => defaultValue (tyX8 j)) 0 (.ref q1)) 1 (.ref q3)) 3 (.ref q5)))), (q1, .inl (ca 0, 7, .inl (zAr (fun _ => 0)))), (q3, .inl (ca 9, 6, .inr (.inr (.inr (.inr (fun j => some (q3 + 1 + j))))))), (q3 + 1 + 0, .inl (ca 1, 400, .inr (.inl (zLr (fun _ => 0))))), (q3 + 1 + 1, .inl (ca 1, 400, .inr (.inl (zLr (fun _ => 0))))), (q3 + 1 + 2, .inl (ca 1, 400, .inr (.inl (zLr (fun _ => 0))))), (q3 + 1 + 3, .inl (ca 1, 400, .inr (.inl (zLr (fun _ => 0))))), (q3 + 1 + 4, .inl (ca 1, 400, .inr (.inl (zLr (fun _ => 0))))), (q3 + 1 + 5, .inl (ca 1, 400, .inr (.inl (zLr (fun _ => 0))))), (q5, .inl (ca 0, 8, .inl (zAr (fun _ => 0))))] A H6 := hZ6
  clear hZ5 hS5
  obtain ⟨g8, hf⟩ := gif hf
  obtain ⟨g9, hf⟩ := gif hf
  have hZ10 := hZ6.repl (v := fun j => some ((([(0, a), (1, q1), (2, q3), (221, q3 + 1 + 0), (222, q3 + 1 + 1), (223, q3 + 1 + 2), (224, q3 + 1 + 3), (225, q3 + 1 + 4), (226, q3 + 1 + 5), (4, q5)] : List (Nat × Nat)).lookup (220 + j + 1)).getD 0)) 2 rfl (And.intro rfl (And.intro rfl (And.intro rfl (And.intro rfl (And.intro rfl (And.intro rfl trivial))))))
  replace hZ10 : zHx D ca ad lnC Ki.2 L F B [(a, .inr (8, rg 15 (va_up (va_up (va_up (fun j => defaultValue (tyX8 j)) 0 (.ref q1)) 1 (.ref q3)) 3 (.ref q5)))), (q1, .inl (ca 0, 7, .inl (zAr (fun _ => 0)))), (q3, .inl (ca 9, 6, .inr (.inr (.inr (.inr (fun j => some ((([(0, a), (1, q1), (2, q3), (221, q3 + 1 + 0), (222, q3 + 1 + 1), (223, q3 + 1 + 2), (224, q3 + 1 + 3), (225, q3 + 1 + 4), (226, q3 + 1 + 5), (4, q5)] : List (Nat × Nat)).lookup (220 + j + 1)).getD 0))))))), (q3 + 1 + 0, .inl (ca 1, 400, .inr (.inl (zLr (fun _ => 0))))), (q3 + 1 + 1, .inl (ca 1, 400, .inr (.inl (zLr (fun _ => 0))))), (q3 + 1 + 2, .inl (ca 1, 400, .inr (.inl (zLr (fun _ => 0))))), (q3 + 1 + 3, .inl (ca 1, 400, .inr (.inl (zLr (fun _ => 0))))), (q3 + 1 + 4, .inl (ca 1, 400, .inr (.inl (zLr (fun _ => 0))))), (q3 + 1 + 5, .inl (ca 1, 400, .inr (.inl (zLr (fun _ => 0))))), (q5, .inl (ca 0, 8, .inl (zAr (fun _ => 0))))] A H6 := hZ10
  obtain ⟨ad7, L7, hZ7, hG7, hq7⟩ : ∃ ad' L', zH D ca ad' lnC (zinN Ki.2 8) L' (zinF F 8 (Ki.2 8) [0, 0, 0, 0, (-1), 0, 0, 0, 0, 0, 0, 0, 0, 0, 0]) (zinB B 8 (Ki.2 8) (fun _ _ => 0)) A H6 ∧ zG ad Ki.2 ad' (zinN Ki.2 8) ∧ ad' 8 (Ki.2 8) 0 = a := ⟨_, _, ztake2 (c := 8) (n := 15) (l := [(0, a), (1, q1), (2, q3), (221, q3 + 1 + 0), (222, q3 + 1 + 1), (223, q3 + 1 + 2), (224, q3 + 1 + 3), (225, q3 + 1 + 4), (226, q3 + 1 + 5), (4, q5)]) (fi := [0, 0, 0, 0, (-1), 0, 0, 0, 0, 0, 0, 0, 0, 0, 0]) (b := (fun _ _ => 0)) (a := a) (r2 := [(4, 0)]) (r3 := [(0, 0), (3, 0), (220, 1), (221, 1), (222, 1), (223, 1), (224, 1), (225, 1)]) (r4 := [(1, 1)]) hZ10 g8 (by decide +kernel) (by decide +kernel) (by decide +kernel) rfl (show 0 ∈ ([0, 1, 2, 221, 222, 223, 224, 225, 226, 4] : List Nat) by decide) (show zAll [(0, 0), (3, 0), (220, 1), (221, 1), (222, 1), (223, 1), (224, 1), (225, 1)] (fun x : Nat × Nat => x.1 + 1 ∈ ([0, 1, 2, 221, 222, 223, 224, 225, 226, 4] : List Nat)) from (And.intro (by decide) (And.intro (by decide) (And.intro (by decide) (And.intro (by decide) (And.intro (by decide) (And.intro (by decide) (And.intro (by decide) (And.intro (by decide) trivial))))))))) (show zAll [(1, 1)] (fun x : Nat × Nat => x.1 + 1 ∈ ([0, 1, 2, 221, 222, 223, 224, 225, 226, 4] : List Nat)) from (And.intro (by decide) trivial)) rfl rfl (List.mem_of_getElem? (i := 0) rfl) (And.intro rfl (And.intro rfl (And.intro rfl (And.intro rfl (And.intro rfl (And.intro rfl (And.intro rfl (And.intro rfl (And.intro rfl (And.intro rfl (And.intro rfl (And.intro rfl (And.intro rfl (And.intro rfl (And.intro rfl trivial))))))))))))))) (And.intro (List.mem_of_getElem? (i := 1) rfl) (And.intro (List.mem_of_getElem? (i := 9) rfl) (And.intro (List.mem_of_getElem? (i := 3) rfl) (And.intro (List.mem_of_getElem? (i := 4) rfl) (And.intro (List.mem_of_getElem? (i := 5) rfl) (And.intro (List.mem_of_getElem? (i := 6) rfl) (And.intro (List.mem_of_getElem? (i := 7) rfl) (And.intro (List.mem_of_getElem? (i := 8) rfl) trivial)))))))) (And.intro (List.mem_of_getElem? (i := 2) rfl) trivial) (And.intro g9 trivial) (And.intro (fun h => absurd h (by decide)) (And.intro (fun h => absurd h (by decide)) (And.intro (fun h => absurd h (by decide)) (And.intro (fun h => absurd h (by decide)) (And.intro (fun h => absurd h (by decide)) (And.intro (fun h => absurd h (by decide)) (And.intro (fun h => absurd h (by decide)) (And.intro (fun h => absurd h (by decide)) trivial)))))))), hG.tr zinA_G, zinA_new⟩
  cases hf
  exact W.vret hx hb hr (fun t ht hW => ⟨⟨(ad7, L7), rfl, ⟨hG7, hq7⟩, by rw [ht]; exact hZ7, va_K.moved hW.alike hK⟩, hS6.F ht⟩) hS6.2.2 d_10_1_33 hlk

theorem m_SoundFile_init {Ki : zK} {F : zF} {B : zB} {r : Int} {F9 : zF} {B9 : zB} {K9 : zK} (hf : f_SoundFile_init Ki F B = some (r, F9, B9, K9)) : zKle Ki K9 := by
  replace hf : (if 0 ≤ Ki.2 8 then if (-1 : Int) < Ki.2 0 then some (Ki.2 8, (zinF F 8 (Ki.2 8) [0, 0, 0, 0, (-1), 0, 0, 0, 0, 0, 0, 0, 0, 0, 0]), (zinB B 8 (Ki.2 8) (fun _ _ => 0)), (Ki.1, zinN Ki.2 8)) else none else none) = some (r, F9, B9, K9) := hf
  obtain ⟨g8, hf⟩ := gif hf
  obtain ⟨g9, hf⟩ := gif hf
  cases hf
  exact zKle_in

theorem w_SoundFile_init {Ki : zK} {F : zF} {B : zB} {r : Int} {F9 : zF} {B9 : zB} {K9 : zK} (hf : f_SoundFile_init Ki F B = some (r, F9, B9, K9)) : cwN K9.2 = cwN Ki.2 + 10 ∧ swN K9.2 = swN Ki.2 + 2436 := by
  replace hf : (if 0 ≤ Ki.2 8 then if (-1 : Int) < Ki.2 0 then some (Ki.2 8, (zinF F 8 (Ki.2 8) [0, 0, 0, 0, (-1), 0, 0, 0, 0, 0, 0, 0, 0, 0, 0]), (zinB B 8 (Ki.2 8) (fun _ _ => 0)), (Ki.1, zinN Ki.2 8)) else none else none) = some (r, F9, B9, K9) := hf
  obtain ⟨g8, hf⟩ := gif hf
  obtain ⟨g9, hf⟩ := gif hf
  cases hf
  have e : ((Ki.2 8) + 1).toNat = (Ki.2 8).toNat + 1 := by omega
  simp only [cwN, swN, zinN, reduceIte, Nat.reduceEqDiff, e]
  generalize (Ki.2 1).toNat = x1
  generalize (Ki.2 2).toNat = x2
  generalize (Ki.2 4).toNat = x4
  generalize (Ki.2 5).toNat = x5
  generalize (Ki.2 6).toNat = x6
  generalize (Ki.2 8).toNat = x8
  generalize (Ki.2 9).toNat = x9
  clear e
  omega

abbrev Q_Scribe_init (K : zK) (D : va_G) (ca : Nat → ClassId) (ad : Nat → Int → Nat → Nat) (a : Nat) (r : Int) (F : zF) (B : zB) (K9 : zK) (A : Nat → Prop) : Array Value → State → Outcome → State → Prop := va_Qv (S := (Nat → Int → Nat → Nat) × List Nat) (fun u => zG ad K.2 u.1 K9.2 ∧ u.1 7 r 0 = a) (fun u => zPo D ca u.1 lnC K9.2 u.2 F B A) A
def f_Scribe_init (Ki : zK) (F : zF) (B : zB) : zOm := zbindM (f_Event_init Ki F B) (fun r1 F1 B1 K1 => if 0 ≤ K1.2 7 then if (-1 : Int) < K1.2 8 then if (-1 : Int) < K1.2 0 then if r1 < K1.2 1 then if 0 ≤ r1 ∧ r1 < K1.2 1 then some (K1.2 7, (zinF F1 7 (K1.2 7) [(-1), (-1), 0, 0, r1, 0, 0, 0, 0]), (zinB B1 7 (K1.2 7) (fun _ _ => 0)), (K1.1, zinN K1.2 7)) else none else none else none else none else none)
set_option maxHeartbeats 4000000 in
set_option maxRecDepth 100000 in
theorem c_Scribe_init {l : Launch} {D : va_G} {ca : Nat → ClassId} {ad : Nat → Int → Nat → Nat} {L : List Nat} {aS vS : Nat → Nat} {sz a : Nat} {Ki : zK} {F : zF} {B : zB} {r : Int} {F9 : zF} {B9 : zB} {K9 : zK} (hf : f_Scribe_init Ki F B = some (r, F9, B9, K9)) : Met l ({ cls := "StaveHouse$Scribe", name := "<init>", desc := "()V" } : Jvm.MethodName) (Cond.code ({ cls := "StaveHouse$Scribe", name := "<init>", desc := "()V" } : Jvm.MethodName) prog_9_method_1_code 1 (Option.none : Option Jvm.ClassFile.FieldType) :: wAll) ({ frames := 2, cells := 4, slots := 154, locals := 32 } : Room) (va_Pc [.ref a] (zPreX D ca ad lnC Ki.2 L aS vS F B a (.inr (7, rg 9 (fun j => defaultValue (tyX7 j)))) sz)) (Q_Scribe_init Ki D ca ad a r F9 B9 K9 (zA (a :: L) sz)) 4 154 (zA (a :: L) sz) := by
  refine zMetX (Qc := Q_Scribe_init Ki D ca ad a r F9 B9 K9) (lv := [(0, .ref a)]) (by decide) (Nat.le_of_ble_eq_true rfl) rfl (fun A p e s m below meth c ls X hnm hZ hS hl => ?_)
  obtain ⟨hx, hb, hr, hml, hown, hts, hlk, hK, hA, hL, hX⟩ := id X
  replace hnm : meth.name = "<init>" := hnm
  have hG : zG ad Ki.2 ad Ki.2 := zG.rf
  replace hf : (zbindM (f_Event_init Ki F B) (fun r1 F1 B1 K1 => if 0 ≤ K1.2 7 then if (-1 : Int) < K1.2 8 then if (-1 : Int) < K1.2 0 then if r1 < K1.2 1 then if 0 ≤ r1 ∧ r1 < K1.2 1 then some (K1.2 7, (zinF F1 7 (K1.2 7) [(-1), (-1), 0, 0, r1, 0, 0, 0, 0]), (zinB B1 7 (K1.2 7) (fun _ _ => 0)), (K1.1, zinN K1.2 7)) else none else none else none else none else none)) = some (r, F9, B9, K9) := hf
  refine lv_aload_n hx hb d_9_1_0 rfl (lv_at hl 0 rfl) ?_
  refine W.objInit hx hb hown (hts _ k_2_13) (hts _ k_1_30) (hts _ k_1_31) rfl (by rw [hml]; exact hl.1) rfl d_9_1_1 (Nat.le_of_ble_eq_true rfl) (Nat.le_of_ble_eq_true rfl) ?_
  refine W.eq (g2 := F0 m 4 ls []) rfl ?_
  refine lv_aload_n hx hb d_9_1_4 rfl (lv_at hl 0 rfl) ?_
  obtain ⟨r1, F1, B1, K1, hc1, hf⟩ := gbindM hf
  refine zxnew (C := RX1) (T := TX1) (n := 14) (ci := 1) hx hb hts inW_1 tyX1 tyX1_ok hown k_2_14 k_2_15 k_1_8 hK hZ hS hA rfl (Nat.le_of_ble_eq_true rfl) (Nat.le_of_ble_eq_true rfl) d_9_1_5 (fun q1 Hn1 hZn1 hSn1 => ?_)
  refine W.widen (k := 1) (n := 14) (Nat.le_of_ble_eq_true rfl) (Nat.le_of_ble_eq_true rfl) ?_
  refine lv_dup hx hb d_9_1_8 rfl ?_
  refine va_callv (va_runIN (As := []) (rest := .ref q1 :: [.ref a]) ⟨hx, hb, hml, hown, hts⟩ (c_Event_init (l := l) hc1) ⟨va_cnB 0 hts (gdC k_2_18) rfl rfl rfl (hX.1 _ (List.mem_of_getElem? (i := 4) rfl) :) (hts _ k_1_8) (by decide +kernel) ⟨(Nat.le_of_ble_eq_true rfl), (Nat.le_of_ble_eq_true rfl)⟩, rfl, hts _ k_2_17⟩ (zxPS X hZn1 hSn1 [.ref q1]) rfl rfl hl.1 rfl (lv_room (Nat.le_of_ble_eq_true rfl)) d_9_1_9 ⟨(Nat.le_of_ble_eq_true rfl), (Nat.le_of_ble_eq_true rfl)⟩) hSn1 (fun x _ h => zxAin X hZn1 hSn1 x h) (zxAin X hZn1 hSn1) (fun u1 t1 H1 locs1 ht1 hv1 hu1 hB1 hz1 hk1 hS1 => ?_)
  obtain ⟨ad1, L1⟩ := u1
  obtain ⟨hg1, hq1⟩ := hu1
  have hZ1 := zxback hZn1 (zxAin X hZn1 hSn1) hk1 ht1 hB1
  replace hq1 : ad1 1 r1 0 = q1 := hq1
  have X1 := X.grow (fun z hz => hZ1.inA z (List.mem_append.mpr (Or.inr hz)))
  have hG1 := hG.tr hg1
  replace hZ1 : zHx D ca ad1 lnC K1.2 L1 F1 B1 [(a, .inr (7, rg 9 (fun j => defaultValue (tyX7 j))))] A H1 := hZ1
  refine W.widen (k := 3) (n := 26) (Nat.le_of_ble_eq_true rfl) (Nat.le_of_ble_eq_true rfl) ?_
  refine zxputF hx hb hts inW_7 tyX7 tyX7_ok nmX7 hown hK hZ1 hS1 0 rfl rfl (k := 4) (by decide) k_2_102 rfl hnm rfl rfl rfl d_9_1_12 (fun H2 locs2 hZ2 hS2 => ?_)
  replace hZ2 : zHx D ca ad1 lnC K1.2 L1 F1 B1 [(a, .inr (7, rg 9 (va_up (fun j => defaultValue (tyX7 j)) 4 (.ref q1))))] A H2 := hZ2
  clear hZ1 hS1
  refine lv_aload_n hx hb d_9_1_15 rfl (lv_at hl 0 rfl) ?_
  refine lv_sipush (v := iI 128) hx hb d_9_1_16 (by decide) ?_
  refine zxnewa (atype := .boolean) hx hb hts (ty := .boolean) rfl k_2_126 hK 3 rfl (fun _ _ => gu_bool) hZ2 hS2 hA (a0 := (128, .inl (zAr (fun _ => 0)))) (fun _ => rfl) (by decide) (N' := 128) (by decide) (Nat.le_of_ble_eq_true rfl) (Nat.le_of_ble_eq_true rfl) (Nat.le_of_ble_eq_true rfl) d_9_1_19 (fun q3 H3 hZ3 hS3 => ?_)
  replace hZ3 : zHx D ca ad1 lnC K1.2 L1 F1 B1 [(a, .inr (7, rg 9 (va_up (fun j => defaultValue (tyX7 j)) 4 (.ref q1)))), (q3, .inl (ca 3, 128, .inl (zAr (fun _ => 0))))] A H3 := hZ3
  clear hZ2 hS2
  refine W.widen (k := 4) (n := 154) (Nat.le_of_ble_eq_true rfl) (Nat.le_of_ble_eq_true rfl) ?_
  refine zxputF hx hb hts inW_7 tyX7 tyX7_ok nmX7 hown hK hZ3 hS3 0 rfl rfl (k := 8) (by decide) k_2_106 rfl hnm rfl rfl rfl d_9_1_21 (fun H4 locs4 hZ4 hS4 => ?_)
  replace hZ4 : zHx D ca ad1 lnC K1.2 L1 F1 B1 [(a, .inr (7, rg 9 (va_up (va_up (fun j => defaultValue (tyX7 j)) 4 (.ref q1)) 8 (.ref q3)))), (q3, .inl (ca 3, 128, .inl (zAr (fun _ => 0))))] A H4 := hZ4
  clear hZ3 hS3
  obtain ⟨g6, hf⟩ := gif hf
  obtain ⟨g7, hf⟩ := gif hf
  obtain ⟨g8, hf⟩ := gif hf
  obtain ⟨g9, hf⟩ := gif hf
  obtain ⟨g10, hf⟩ := gif hf
  obtain ⟨ad5, L5, hZ5, hG5, hq5⟩ : ∃ ad' L', zH D ca ad' lnC (zinN K1.2 7) L' (zinF F1 7 (K1.2 7) [(-1), (-1), 0, 0, r1, 0, 0, 0, 0]) (zinB B1 7 (K1.2 7) (fun _ _ => 0)) A H4 ∧ zG ad Ki.2 ad' (zinN K1.2 7) ∧ ad' 7 (K1.2 7) 0 = a := ⟨_, _, ztake2 (c := 7) (n := 9) (l := [(0, a), (9, q3)]) (fi := [(-1), (-1), 0, 0, r1, 0, 0, 0, 0]) (b := (fun _ _ => 0)) (a := a) (r2 := [(0, 8), (1, 0), (4, 1)]) (r3 := [(8, 3)]) (r4 := []) hZ4 g6 (by decide +kernel) (by decide +kernel) (by decide +kernel) rfl (show 0 ∈ ([0, 9] : List Nat) by decide) (show zAll [(8, 3)] (fun x : Nat × Nat => x.1 + 1 ∈ ([0, 9] : List Nat)) from (And.intro (by decide) trivial)) (show zAll [] (fun x : Nat × Nat => x.1 + 1 ∈ ([0, 9] : List Nat)) from trivial) rfl rfl (List.mem_of_getElem? (i := 0) rfl) (And.intro rfl (And.intro rfl (And.intro rfl (And.intro rfl (And.intro (zref_f g10.1 hq1) (And.intro rfl (And.intro rfl (And.intro rfl (And.intro rfl trivial))))))))) (And.intro (List.mem_of_getElem? (i := 1) rfl) trivial) trivial (And.intro g7 (And.intro g8 (And.intro g9 trivial))) (And.intro (fun h => absurd h (by decide)) trivial), hG1.tr zinA_G, zinA_new⟩
  cases hf
  exact W.vret hx hb hr (fun t ht hW => ⟨⟨(ad5, L5), rfl, ⟨hG5, hq5⟩, by rw [ht]; exact hZ5, va_K.moved hW.alike hK⟩, hS4.F ht⟩) hS4.2.2 d_9_1_24 hlk

abbrev Q_Parser_init (K : zK) (D : va_G) (ca : Nat → ClassId) (ad : Nat → Int → Nat → Nat) (a : Nat) (r : Int) (F : zF) (B : zB) (K9 : zK) (A : Nat → Prop) : Array Value → State → Outcome → State → Prop := va_Qv (S := (Nat → Int → Nat → Nat) × List Nat) (fun u => zG ad K.2 u.1 K9.2 ∧ u.1 3 r 0 = a) (fun u => zPo D ca u.1 lnC K9.2 u.2 F B A) A
def f_Parser_init (Ki : zK) (F : zF) (B : zB) : zOm := zbindM (f_Tokens_init Ki F B) (fun r23 F23 B23 K23 => if 0 ≤ K23.2 3 then if r23 < K23.2 10 then if 0 ≤ r23 ∧ r23 < K23.2 10 then some (K23.2 3, (zinF F23 3 (K23.2 3) [0, 0, 0, 0, 0, 0, 0, 0, 0, 0, 0, r23, 0, 0, 0, 0, 0, 0, 0, 0, 0, 0]), (zinB B23 3 (K23.2 3) (fun _ _ => 0)), (K23.1, zinN K23.2 3)) else none else none else none)
set_option maxHeartbeats 4000000 in
set_option maxRecDepth 100000 in
theorem c_Parser_init {l : Launch} {D : va_G} {ca : Nat → ClassId} {ad : Nat → Int → Nat → Nat} {L : List Nat} {aS vS : Nat → Nat} {sz a : Nat} {Ki : zK} {F : zF} {B : zB} {r : Int} {F9 : zF} {B9 : zB} {K9 : zK} (hf : f_Parser_init Ki F B = some (r, F9, B9, K9)) : Met l ({ cls := "StaveHouse$Parser", name := "<init>", desc := "()V" } : Jvm.MethodName) (Cond.code ({ cls := "StaveHouse$Parser", name := "<init>", desc := "()V" } : Jvm.MethodName) prog_5_method_1_code 1 (Option.none : Option Jvm.ClassFile.FieldType) :: wAll) ({ frames := 2, cells := 17, slots := 37524, locals := 32 } : Room) (va_Pc [.ref a] (zPreX D ca ad lnC Ki.2 L aS vS F B a (.inr (3, rg 22 (fun j => defaultValue (tyX3 j)))) sz)) (Q_Parser_init Ki D ca ad a r F9 B9 K9 (zA (a :: L) sz)) 17 37524 (zA (a :: L) sz) := by
  refine zMetX (Qc := Q_Parser_init Ki D ca ad a r F9 B9 K9) (lv := [(0, .ref a)]) (by decide) (Nat.le_of_ble_eq_true rfl) rfl (fun A p e s m below meth c ls X hnm hZ hS hl => ?_)
  obtain ⟨hx, hb, hr, hml, hown, hts, hlk, hK, hA, hL, hX⟩ := id X
  replace hnm : meth.name = "<init>" := hnm
  have hG : zG ad Ki.2 ad Ki.2 := zG.rf
  replace hf : (zbindM (f_Tokens_init Ki F B) (fun r23 F23 B23 K23 => if 0 ≤ K23.2 3 then if r23 < K23.2 10 then if 0 ≤ r23 ∧ r23 < K23.2 10 then some (K23.2 3, (zinF F23 3 (K23.2 3) [0, 0, 0, 0, 0, 0, 0, 0, 0, 0, 0, r23, 0, 0, 0, 0, 0, 0, 0, 0, 0, 0]), (zinB B23 3 (K23.2 3) (fun _ _ => 0)), (K23.1, zinN K23.2 3)) else none else none else none)) = some (r, F9, B9, K9) := hf
  refine lv_aload_n hx hb d_5_1_0 rfl (lv_at hl 0 rfl) ?_
  refine W.objInit hx hb hown (hts _ k_1_65) (hts _ k_1_30) (hts _ k_1_31) rfl (by rw [hml]; exact hl.1) rfl d_5_1_1 (Nat.le_of_ble_eq_true rfl) (Nat.le_of_ble_eq_true rfl) ?_
  refine W.eq (g2 := F0 m 4 ls []) rfl ?_
  refine lv_aload_n hx hb d_5_1_4 rfl (lv_at hl 0 rfl) ?_
  refine lv_sipush (v := iI 3000) hx hb d_5_1_5 (by decide) ?_
  refine zxnewa (atype := .int) hx hb hts (ty := .int) rfl k_1_57 hK 0 rfl (fun _ _ => gu_int) hZ hS hA (a0 := (3000, .inl (zAr (fun _ => 0)))) (fun _ => rfl) (by decide) (N' := 3000) (by decide) (Nat.le_of_ble_eq_true rfl) (Nat.le_of_ble_eq_true rfl) (Nat.le_of_ble_eq_true rfl) d_5_1_8 (fun q1 H1 hZ1 hS1 => ?_)
  replace hZ1 : zHx D ca ad lnC Ki.2 L F B [(a, .inr (3, rg 22 (fun j => defaultValue (tyX3 j)))), (q1, .inl (ca 0, 3000, .inl (zAr (fun _ => 0))))] A H1 := hZ1
  refine W.widen (k := 1) (n := 3000) (Nat.le_of_ble_eq_true rfl) (Nat.le_of_ble_eq_true rfl) ?_
  refine zxputF hx hb hts inW_3 tyX3 tyX3_ok nmX3 hown hK hZ1 hS1 0 rfl rfl (k := 0) (by decide) k_1_106 rfl hnm rfl rfl rfl d_5_1_10 (fun H2 locs2 hZ2 hS2 => ?_)
  replace hZ2 : zHx D ca ad lnC Ki.2 L F B [(a, .inr (3, rg 22 (va_up (fun j => defaultValue (tyX3 j)) 0 (.ref q1)))), (q1, .inl (ca 0, 3000, .inl (zAr (fun _ => 0))))] A H2 := hZ2
  clear hZ1 hS1
  refine lv_aload_n hx hb d_5_1_13 rfl (lv_at hl 0 rfl) ?_
  refine lv_sipush (v := iI 3000) hx hb d_5_1_14 (by decide) ?_
  refine zxnewa (atype := .int) hx hb hts (ty := .int) rfl k_1_57 hK 0 rfl (fun _ _ => gu_int) hZ2 hS2 hA (a0 := (3000, .inl (zAr (fun _ => 0)))) (fun _ => rfl) (by decide) (N' := 3000) (by decide) (Nat.le_of_ble_eq_true rfl) (Nat.le_of_ble_eq_true rfl) (Nat.le_of_ble_eq_true rfl) d_5_1_17 (fun q3 H3 hZ3 hS3 => ?_)
  replace hZ3 : zHx D ca ad lnC Ki.2 L F B [(a, .inr (3, rg 22 (va_up (fun j => defaultValue (tyX3 j)) 0 (.ref q1)))), (q1, .inl (ca 0, 3000, .inl (zAr (fun _ => 0)))), (q3, .inl (ca 0, 3000, .inl (zAr (fun _ => 0))))] A H3 := hZ3
  clear hZ2 hS2
  refine W.widen (k := 2) (n := 6000) (Nat.le_of_ble_eq_true rfl) (Nat.le_of_ble_eq_true rfl) ?_
  refine zxputF hx hb hts inW_3 tyX3 tyX3_ok nmX3 hown hK hZ3 hS3 0 rfl rfl (k := 1) (by decide) k_1_108 rfl hnm rfl rfl rfl d_5_1_19 (fun H4 locs4 hZ4 hS4 => ?_)
  replace hZ4 : zHx D ca ad lnC Ki.2 L F B [(a, .inr (3, rg 22 (va_up (va_up (fun j => defaultValue (tyX3 j)) 0 (.ref q1)) 1 (.ref q3)))), (q1, .inl (ca 0, 3000, .inl (zAr (fun _ => 0)))), (q3, .inl (ca 0, 3000, .inl (zAr (fun _ => 0))))] A H4 := hZ4
  clear hZ3 hS3
  refine lv_aload_n hx hb d_5_1_22 rfl (lv_at hl 0 rfl) ?_
  refine lv_sipush (v := iI 3000) hx hb d_5_1_23 (by decide) ?_
  refine zxnewa (atype := .int) hx hb hts (ty := .int) rfl k_1_57 hK 0 rfl (fun _ _ => gu_int) hZ4 hS4 hA (a0 := (3000, .inl (zAr (fun _ => 0)))) (fun _ => rfl) (by decide) (N' := 3000) (by decide) (Nat.le_of_ble_eq_true rfl) (Nat.le_of_ble_eq_true rfl) (Nat.le_of_ble_eq_true rfl) d_5_1_26 (fun q5 H5 hZ5 hS5 => ?_)
  replace hZ5 : zHx D ca ad lnC Ki.2 L F B [(a, .inr (3, rg 22 (va_up (va_up (fun j => defaultValue (tyX3 j)) 0 (.ref q1)) 1 (.ref q3)))), (q1, .inl (ca 0, 3000, .inl (zAr (fun _ => 0)))), (q3, .inl (ca 0, 3000, .inl (zAr (fun _ => 0)))), (q5, .inl (ca 0, 3000, .inl (zAr (fun _ => 0))))] A H5 := hZ5
  clear hZ4 hS4
  refine W.widen (k := 3) (n := 9000) (Nat.le_of_ble_eq_true rfl) (Nat.le_of_ble_eq_true rfl) ?_
  refine zxputF hx hb hts inW_3 tyX3 tyX3_ok nmX3 hown hK hZ5 hS5 0 rfl rfl (k := 2) (by decide) k_1_110 rfl hnm rfl rfl rfl d_5_1_28 (fun H6 locs6 hZ6 hS6 => ?_)
  replace hZ6 : zHx D ca ad lnC Ki.2 L F B [(a, .inr (3, rg 22 (va_up (va_up (va_up (fun j => defaultValue (tyX3 j)) 0 (.ref q1)) 1 (.ref q3)) 2 (.ref q5)))), (q1, .inl (ca 0, 3000, .inl (zAr (fun _ => 0)))), (q3, .inl (ca 0, 3000, .inl (zAr (fun _ => 0)))), (q5, .inl (ca 0, 3000, .inl (zAr (fun _ => 0))))] A H6 := hZ6
  clear hZ5 hS5
  refine lv_aload_n hx hb d_5_1_31 rfl (lv_at hl 0 rfl) ?_
  refine lv_sipush (v := iI 3000) hx hb d_5_1_32 (by decide) ?_
  refine zxnewa (atype := .int) hx hb hts (ty := .int) rfl k_1_57 hK 0 rfl (fun _ _ => gu_int) hZ6 hS6 hA (a0 := (3000, .inl (zAr (fun _ => 0)))) (fun _ => rfl) (by decide) (N' := 3000) (by decide) (Nat.le_of_ble_eq_true rfl) (Nat.le_of_ble_eq_true rfl) (Nat.le_of_ble_eq_true rfl) d_5_1_35 (fun q7 H7 hZ7 hS7 => ?_)
  replace hZ7 : zHx D ca ad lnC Ki.2 L F B [(a, .inr (3, rg 22 (va_up (va_up (va_up (fun j => defaultValue (tyX3 j)) 0 (.ref q1)) 1 (.ref q3)) 2 (.ref q5)))), (q1, .inl (ca 0, 3000, .inl (zAr (fun _ => 0)))), (q3, .inl (ca 0, 3000, .inl (zAr (fun _ => 0)))), (q5, .inl (ca 0, 3000, .inl (zAr (fun _ => 0)))), (q7, .inl (ca 0, 3000, .inl (zAr (fun _ => 0))))] A H7 := hZ7
  clear hZ6 hS6
  refine W.widen (k := 4) (n := 12000) (Nat.le_of_ble_eq_true rfl) (Nat.le_of_ble_eq_true rfl) ?_
  refine zxputF hx hb hts inW_3 tyX3 tyX3_ok nmX3 hown hK hZ7 hS7 0 rfl rfl (k := 3) (by decide) k_1_112 rfl hnm rfl rfl rfl d_5_1_37 (fun H8 locs8 hZ8 hS8 => ?_)
  replace hZ8 : zHx D ca ad lnC Ki.2 L F B [(a, .inr (3, rg 22 (va_up (va_up (va_up (va_up (fun j => defaultValue (tyX3 j)) 0 (.ref q1)) 1 (.ref q3)) 2 (.ref q5)) 3 (.ref q7)))), (q1, .inl (ca 0, 3000, .inl (zAr (fun _ => 0)))), (q3, .inl (ca 0, 3000, .inl (zAr (fun _ => 0)))), (q5, .inl (ca 0, 3000, .inl (zAr (fun _ => 0)))), (q7, .inl (ca 0, 3000, .inl (zAr (fun _ => 0))))] A H8 := hZ8
  clear hZ7 hS7
  refine lv_aload_n hx hb d_5_1_40 rfl (lv_at hl 0 rfl) ?_
  refine lv_sipush (v := iI 3000) hx hb d_5_1_41 (by decide) ?_
  refine zxnewa (atype := .int) hx hb hts (ty := .int) rfl k_1_57 hK 0 rfl (fun _ _ => gu_int) hZ8 hS8 hA (a0 := (3000, .inl (zAr (fun _ => 0)))) (fun _ => rfl) (by decide) (N' := 3000) (by decide) (Nat.le_of_ble_eq_true rfl) (Nat.le_of_ble_eq_true rfl) (Nat.le_of_ble_eq_true rfl) d_5_1_44 (fun q9 H9 hZ9 hS9 => ?_)
  replace hZ9 : zHx D ca ad lnC Ki.2 L F B [(a, .inr (3, rg 22 (va_up (va_up (va_up (va_up (fun j => defaultValue (tyX3 j)) 0 (.ref q1)) 1 (.ref q3)) 2 (.ref q5)) 3 (.ref q7)))), (q1, .inl (ca 0, 3000, .inl (zAr (fun _ => 0)))), (q3, .inl (ca 0, 3000, .inl (zAr (fun _ => 0)))), (q5, .inl (ca 0, 3000, .inl (zAr (fun _ => 0)))), (q7, .inl (ca 0, 3000, .inl (zAr (fun _ => 0)))), (q9, .inl (ca 0, 3000, .inl (zAr (fun _ => 0))))] A H9 := hZ9
  clear hZ8 hS8
  refine W.widen (k := 5) (n := 15000) (Nat.le_of_ble_eq_true rfl) (Nat.le_of_ble_eq_true rfl) ?_
  refine zxputF hx hb hts inW_3 tyX3 tyX3_ok nmX3 hown hK hZ9 hS9 0 rfl rfl (k := 4) (by decide) k_1_114 rfl hnm rfl rfl rfl d_5_1_46 (fun H10 locs10 hZ10 hS10 => ?_)
  replace hZ10 : zHx D ca ad lnC Ki.2 L F B [(a, .inr (3, rg 22 (va_up (va_up (va_up (va_up (va_up (fun j => defaultValue (tyX3 j)) 0 (.ref q1)) 1 (.ref q3)) 2 (.ref q5)) 3 (.ref q7)) 4 (.ref q9)))), (q1, .inl (ca 0, 3000, .inl (zAr (fun _ => 0)))), (q3, .inl (ca 0, 3000, .inl (zAr (fun _ => 0)))), (q5, .inl (ca 0, 3000, .inl (zAr (fun _ => 0)))), (q7, .inl (ca 0, 3000, .inl (zAr (fun _ => 0)))), (q9, .inl (ca 0, 3000, .inl (zAr (fun _ => 0))))] A H10 := hZ10
  clear hZ9 hS9
  refine lv_aload_n hx hb d_5_1_49 rfl (lv_at hl 0 rfl) ?_
  refine lv_sipush (v := iI 3000) hx hb d_5_1_50 (by decide) ?_
  refine zxnewa (atype := .int) hx hb hts (ty := .int) rfl k_1_57 hK 0 rfl (fun _ _ => gu_int) hZ10 hS10 hA (a0 := (3000, .inl (zAr (fun _ => 0)))) (fun _ => rfl) (by decide) (N' := 3000) (by decide) (Nat.le_of_ble_eq_true rfl) (Nat.le_of_ble_eq_true rfl) (Nat.le_of_ble_eq_true rfl) d_5_1_53 (fun q11 H11 hZ11 hS11 => ?_)
  replace hZ11 : zHx D ca ad lnC Ki.2 L F B [(a, .inr (3, rg 22 (va_up (va_up (va_up (va_up (va_up (fun j => defaultValue (tyX3 j)) 0 (.ref q1)) 1 (.ref q3)) 2 (.ref q5)) 3 (.ref q7)) 4 (.ref q9)))), (q1, .inl (ca 0, 3000, .inl (zAr (fun _ => 0)))), (q3, .inl (ca 0, 3000, .inl (zAr (fun _ => 0)))), (q5, .inl (ca 0, 3000, .inl (zAr (fun _ => 0)))), (q7, .inl (ca 0, 3000, .inl (zAr (fun _ => 0)))), (q9, .inl (ca 0, 3000, .inl (zAr (fun _ => 0)))), (q11, .inl (ca 0, 3000, .inl (zAr (fun _ => 0))))] A H11 := hZ11
  clear hZ10 hS10
  refine W.widen (k := 6) (n := 18000) (Nat.le_of_ble_eq_true rfl) (Nat.le_of_ble_eq_true rfl) ?_
  refine zxputF hx hb hts inW_3 tyX3 tyX3_ok nmX3 hown hK hZ11 hS11 0 rfl rfl (k := 5) (by decide) k_1_116 rfl hnm rfl rfl rfl d_5_1_55 (fun H12 locs12 hZ12 hS12 => ?_)
  replace hZ12 : zHx D ca ad lnC Ki.2 L F B [(a, .inr (3, rg 22 (va_up (va_up (va_up (va_up (va_up (va_up (fun j => defaultValue (tyX3 j)) 0 (.ref q1)) 1 (.ref q3)) 2 (.ref q5)) 3 (.ref q7)) 4 (.ref q9)) 5 (.ref q11)))), (q1, .inl (ca 0, 3000, .inl (zAr (fun _ => 0)))), (q3, .inl (ca 0, 3000, .inl (zAr (fun _ => 0)))), (q5, .inl (ca 0, 3000, .inl (zAr (fun _ => 0)))), (q7, .inl (ca 0, 3000, .inl (zAr (fun _ => 0)))), (q9, .inl (ca 0, 3000, .inl (zAr (fun _ => 0)))), (q11, .inl (ca 0, 3000, .inl (zAr (fun _ => 0))))] A H12 := hZ12
  clear hZ11 hS11
  refine lv_aload_n hx hb d_5_1_58 rfl (lv_at hl 0 rfl) ?_
  refine lv_sipush (v := iI 3000) hx hb d_5_1_59 (by decide) ?_
  refine zxnewa (atype := .int) hx hb hts (ty := .int) rfl k_1_57 hK 0 rfl (fun _ _ => gu_int) hZ12 hS12 hA (a0 := (3000, .inl (zAr (fun _ => 0)))) (fun _ => rfl) (by decide) (N' := 3000) (by decide) (Nat.le_of_ble_eq_true rfl) (Nat.le_of_ble_eq_true rfl) (Nat.le_of_ble_eq_true rfl) d_5_1_62 (fun q13 H13 hZ13 hS13 => ?_)
  replace hZ13 : zHx D ca ad lnC Ki.2 L F B [(a, .inr (3, rg 22 (va_up (va_up (va_up (va_up (va_up (va_up (fun j => defaultValue (tyX3 j)) 0 (.ref q1)) 1 (.ref q3)) 2 (.ref q5)) 3 (.ref q7)) 4 (.ref q9)) 5 (.ref q11)))), (q1, .inl (ca 0, 3000, .inl (zAr (fun _ => 0)))), (q3, .inl (ca 0, 3000, .inl (zAr (fun _ => 0)))), (q5, .inl (ca 0, 3000, .inl (zAr (fun _ => 0)))), (q7, .inl (ca 0, 3000, .inl (zAr (fun _ => 0)))), (q9, .inl (ca 0, 3000, .inl (zAr (fun _ => 0)))), (q11, .inl (ca 0, 3000, .inl (zAr (fun _ => 0)))), (q13, .inl (ca 0, 3000, .inl (zAr (fun _ => 0))))] A H13 := hZ13
  clear hZ12 hS12
  refine W.widen (k := 7) (n := 21000) (Nat.le_of_ble_eq_true rfl) (Nat.le_of_ble_eq_true rfl) ?_
  refine zxputF hx hb hts inW_3 tyX3 tyX3_ok nmX3 hown hK hZ13 hS13 0 rfl rfl (k := 6) (by decide) k_1_118 rfl hnm rfl rfl rfl d_5_1_64 (fun H14 locs14 hZ14 hS14 => ?_)
  replace hZ14 : zHx D ca ad lnC Ki.2 L F B [(a, .inr (3, rg 22 (va_up (va_up (va_up (va_up (va_up (va_up (va_up (fun j => defaultValue (tyX3 j)) 0 (.ref q1)) 1 (.ref q3)) 2 (.ref q5)) 3 (.ref q7)) 4 (.ref q9)) 5 (.ref q11)) 6 (.ref q13)))), (q1, .inl (ca 0, 3000, .inl (zAr (fun _ => 0)))), (q3, .inl (ca 0, 3000, .inl (zAr (fun _ => 0)))), (q5, .inl (ca 0, 3000, .inl (zAr (fun _ => 0)))), (q7, .inl (ca 0, 3000, .inl (zAr (fun _ => 0)))), (q9, .inl (ca 0, 3000, .inl (zAr (fun _ => 0)))), (q11, .inl (ca 0, 3000, .inl (zAr (fun _ => 0)))), (q13, .inl (ca 0, 3000, .inl (zAr (fun _ => 0))))] A H14 := hZ14
  clear hZ13 hS13
  refine lv_aload_n hx hb d_5_1_67 rfl (lv_at hl 0 rfl) ?_
  refine lv_sipush (v := iI 3000) hx hb d_5_1_68 (by decide) ?_
  refine zxnewa (atype := .int) hx hb hts (ty := .int) rfl k_1_57 hK 0 rfl (fun _ _ => gu_int) hZ14 hS14 hA (a0 := (3000, .inl (zAr (fun _ => 0)))) (fun _ => rfl) (by decide) (N' := 3000) (by decide) (Nat.le_of_ble_eq_true rfl) (Nat.le_of_ble_eq_true rfl) (Nat.le_of_ble_eq_true rfl) d_5_1_71 (fun q15 H15 hZ15 hS15 => ?_)
  replace hZ15 : zHx D ca ad lnC Ki.2 L F B [(a, .inr (3, rg 22 (va_up (va_up (va_up (va_up (va_up (va_up (va_up (fun j => defaultValue (tyX3 j)) 0 (.ref q1)) 1 (.ref q3)) 2 (.ref q5)) 3 (.ref q7)) 4 (.ref q9)) 5 (.ref q11)) 6 (.ref q13)))), (q1, .inl (ca 0, 3000, .inl (zAr (fun _ => 0)))), (q3, .inl (ca 0, 3000, .inl (zAr (fun _ => 0)))), (q5, .inl (ca 0, 3000, .inl (zAr (fun _ => 0)))), (q7, .inl (ca 0, 3000, .inl (zAr (fun _ => 0)))), (q9, .inl (ca 0, 3000, .inl (zAr (fun _ => 0)))), (q11, .inl (ca 0, 3000, .inl (zAr (fun _ => 0)))), (q13, .inl (ca 0, 3000, .inl (zAr (fun _ => 0)))), (q15, .inl (ca 0, 3000, .inl (zAr (fun _ => 0))))] A H15 := hZ15
  clear hZ14 hS14
  refine W.widen (k := 8) (n := 24000) (Nat.le_of_ble_eq_true rfl) (Nat.le_of_ble_eq_true rfl) ?_
  refine zxputF hx hb hts inW_3 tyX3 tyX3_ok nmX3 hown hK hZ15 hS15 0 rfl rfl (k := 7) (by decide) k_1_120 rfl hnm rfl rfl rfl d_5_1_73 (fun H16 locs16 hZ16 hS16 => ?_)
  replace hZ16 : zHx D ca ad lnC Ki.2 L F B [(a, .inr (3, rg 22 (va_up (va_up (va_up (va_up (va_up (va_up (va_up (va_up (fun j => defaultValue (tyX3 j)) 0 (.ref q1)) 1 (.ref q3)) 2 (.ref q5)) 3 (.ref q7)) 4 (.ref q9)) 5 (.ref q11)) 6 (.ref q13)) 7 (.ref q15)))), (q1, .inl (ca 0, 3000, .inl (zAr (fun _ => 0)))), (q3, .inl (ca 0, 3000, .inl (zAr (fun _ => 0)))), (q5, .inl (ca 0, 3000, .inl (zAr (fun _ => 0)))), (q7, .inl (ca 0, 3000, .inl (zAr (fun _ => 0)))), (q9, .inl (ca 0, 3000, .inl (zAr (fun _ => 0)))), (q11, .inl (ca 0, 3000, .inl (zAr (fun _ => 0)))), (q13, .inl (ca 0, 3000, .inl (zAr (fun _ => 0)))), (q15, .inl (ca 0, 3000, .inl (zAr (fun _ => 0))))] A H16 := hZ16
  clear hZ15 hS15
  refine lv_aload_n hx hb d_5_1_76 rfl (lv_at hl 0 rfl) ?_
  refine lv_sipush (v := iI 1500) hx hb d_5_1_77 (by decide) ?_
  refine zxnewa (atype := .int) hx hb hts (ty := .int) rfl k_1_57 hK 0 rfl (fun _ _ => gu_int) hZ16 hS16 hA (a0 := (1500, .inl (zAr (fun _ => 0)))) (fun _ => rfl) (by decide) (N' := 1500) (by decide) (Nat.le_of_ble_eq_true rfl) (Nat.le_of_ble_eq_true rfl) (Nat.le_of_ble_eq_true rfl) d_5_1_80 (fun q17 H17 hZ17 hS17 => ?_)
  replace hZ17 : zHx D ca ad lnC Ki.2 L F B [(a, .inr (3, rg 22 (va_up (va_up (va_up (va_up (va_up (va_up (va_up (va_up (fun j => defaultValue (tyX3 j)) 0 (.ref q1)) 1 (.ref q3)) 2 (.ref q5)) 3 (.ref q7)) 4 (.ref q9)) 5 (.ref q11)) 6 (.ref q13)) 7 (.ref q15)))), (q1, .inl (ca 0, 3000, .inl (zAr (fun _ => 0)))), (q3, .inl (ca 0, 3000, .inl (zAr (fun _ => 0)))), (q5, .inl (ca 0, 3000, .inl (zAr (fun _ => 0)))), (q7, .inl (ca 0, 3000, .inl (zAr (fun _ => 0)))), (q9, .inl (ca 0, 3000, .inl (zAr (fun _ => 0)))), (q11, .inl (ca 0, 3000, .inl (zAr (fun _ => 0)))), (q13, .inl (ca 0, 3000, .inl (zAr (fun _ => 0)))), (q15, .inl (ca 0, 3000, .inl (zAr (fun _ => 0)))), (q17, .inl (ca 0, 1500, .inl (zAr (fun _ => 0))))] A H17 := hZ17
  clear hZ16 hS16
  refine W.widen (k := 9) (n := 25500) (Nat.le_of_ble_eq_true rfl) (Nat.le_of_ble_eq_true rfl) ?_
  refine zxputF hx hb hts inW_3 tyX3 tyX3_ok nmX3 hown hK hZ17 hS17 0 rfl rfl (k := 8) (by decide) k_1_122 rfl hnm rfl rfl rfl d_5_1_82 (fun H18 locs18 hZ18 hS18 => ?_)
  replace hZ18 : zHx D ca ad lnC Ki.2 L F B [(a, .inr (3, rg 22 (va_up (va_up (va_up (va_up (va_up (va_up (va_up (va_up (va_up (fun j => defaultValue (tyX3 j)) 0 (.ref q1)) 1 (.ref q3)) 2 (.ref q5)) 3 (.ref q7)) 4 (.ref q9)) 5 (.ref q11)) 6 (.ref q13)) 7 (.ref q15)) 8 (.ref q17)))), (q1, .inl (ca 0, 3000, .inl (zAr (fun _ => 0)))), (q3, .inl (ca 0, 3000, .inl (zAr (fun _ => 0)))), (q5, .inl (ca 0, 3000, .inl (zAr (fun _ => 0)))), (q7, .inl (ca 0, 3000, .inl (zAr (fun _ => 0)))), (q9, .inl (ca 0, 3000, .inl (zAr (fun _ => 0)))), (q11, .inl (ca 0, 3000, .inl (zAr (fun _ => 0)))), (q13, .inl (ca 0, 3000, .inl (zAr (fun _ => 0)))), (q15, .inl (ca 0, 3000, .inl (zAr (fun _ => 0)))), (q17, .inl (ca 0, 1500, .inl (zAr (fun _ => 0))))] A H18 := hZ18
  clear hZ17 hS17
  refine lv_aload_n hx hb d_5_1_85 rfl (lv_at hl 0 rfl) ?_
  refine lv_sipush (v := iI 1500) hx hb d_5_1_86 (by decide) ?_
  refine zxnewa (atype := .int) hx hb hts (ty := .int) rfl k_1_57 hK 0 rfl (fun _ _ => gu_int) hZ18 hS18 hA (a0 := (1500, .inl (zAr (fun _ => 0)))) (fun _ => rfl) (by decide) (N' := 1500) (by decide) (Nat.le_of_ble_eq_true rfl) (Nat.le_of_ble_eq_true rfl) (Nat.le_of_ble_eq_true rfl) d_5_1_89 (fun q19 H19 hZ19 hS19 => ?_)
  replace hZ19 : zHx D ca ad lnC Ki.2 L F B [(a, .inr (3, rg 22 (va_up (va_up (va_up (va_up (va_up (va_up (va_up (va_up (va_up (fun j => defaultValue (tyX3 j)) 0 (.ref q1)) 1 (.ref q3)) 2 (.ref q5)) 3 (.ref q7)) 4 (.ref q9)) 5 (.ref q11)) 6 (.ref q13)) 7 (.ref q15)) 8 (.ref q17)))), (q1, .inl (ca 0, 3000, .inl (zAr (fun _ => 0)))), (q3, .inl (ca 0, 3000, .inl (zAr (fun _ => 0)))), (q5, .inl (ca 0, 3000, .inl (zAr (fun _ => 0)))), (q7, .inl (ca 0, 3000, .inl (zAr (fun _ => 0)))), (q9, .inl (ca 0, 3000, .inl (zAr (fun _ => 0)))), (q11, .inl (ca 0, 3000, .inl (zAr (fun _ => 0)))), (q13, .inl (ca 0, 3000, .inl (zAr (fun _ => 0)))), (q15, .inl (ca 0, 3000, .inl (zAr (fun _ => 0)))), (q17, .inl (ca 0, 1500, .inl (zAr (fun _ => 0)))), (q19, .inl (ca 0, 1500, .inl (zAr (fun _ => 0))))] A H19 := hZ19
  clear hZ18 hS18
  refine W.widen (k := 10) (n := 27000) (Nat.le_of_ble_eq_true rfl) (Nat.le_of_ble_eq_true rfl) ?_
  refine zxputF hx hb hts inW_3 tyX3 tyX3_ok nmX3 hown hK hZ19 hS19 0 rfl rfl (k := 9) (by decide) k_1_124 rfl hnm rfl rfl rfl d_5_1_91 (fun H20 locs20 hZ20 hS20 => ?_)
  replace hZ20 : zHx D ca ad lnC Ki.2 L F B [(a, .inr (3, rg 22 (va_up (va_up (va_up (va_up (va_up (va_up (va_up (va_up (va_up (va_up (fun j => defaultValue (tyX3 j)) 0 (.ref q1)) 1 (.ref q3)) 2 (.ref q5)) 3 (.ref q7)) 4 (.ref q9)) 5 (.ref q11)) 6 (.ref q13)) 7 (.ref q15)) 8 (.ref q17)) 9 (.ref q19)))), (q1, .inl (ca 0, 3000, .inl (zAr (fun _ => 0)))), (q3, .inl (ca 0, 3000, .inl (zAr (fun _ => 0)))), (q5, .inl (ca 0, 3000, .inl (zAr (fun _ => 0)))), (q7, .inl (ca 0, 3000, .inl (zAr (fun _ => 0)))), (q9, .inl (ca 0, 3000, .inl (zAr (fun _ => 0)))), (q11, .inl (ca 0, 3000, .inl (zAr (fun _ => 0)))), (q13, .inl (ca 0, 3000, .inl (zAr (fun _ => 0)))), (q15, .inl (ca 0, 3000, .inl (zAr (fun _ => 0)))), (q17, .inl (ca 0, 1500, .inl (zAr (fun _ => 0)))), (q19, .inl (ca 0, 1500, .inl (zAr (fun _ => 0))))] A H20 := hZ20
  clear hZ19 hS19
  refine lv_aload_n hx hb d_5_1_94 rfl (lv_at hl 0 rfl) ?_
  refine lv_sipush (v := iI 1500) hx hb d_5_1_95 (by decide) ?_
  refine zxnewa (atype := .int) hx hb hts (ty := .int) rfl k_1_57 hK 0 rfl (fun _ _ => gu_int) hZ20 hS20 hA (a0 := (1500, .inl (zAr (fun _ => 0)))) (fun _ => rfl) (by decide) (N' := 1500) (by decide) (Nat.le_of_ble_eq_true rfl) (Nat.le_of_ble_eq_true rfl) (Nat.le_of_ble_eq_true rfl) d_5_1_98 (fun q21 H21 hZ21 hS21 => ?_)
  replace hZ21 : zHx D ca ad lnC Ki.2 L F B [(a, .inr (3, rg 22 (va_up (va_up (va_up (va_up (va_up (va_up (va_up (va_up (va_up (va_up (fun j => defaultValue (tyX3 j)) 0 (.ref q1)) 1 (.ref q3)) 2 (.ref q5)) 3 (.ref q7)) 4 (.ref q9)) 5 (.ref q11)) 6 (.ref q13)) 7 (.ref q15)) 8 (.ref q17)) 9 (.ref q19)))), (q1, .inl (ca 0, 3000, .inl (zAr (fun _ => 0)))), (q3, .inl (ca 0, 3000, .inl (zAr (fun _ => 0)))), (q5, .inl (ca 0, 3000, .inl (zAr (fun _ => 0)))), (q7, .inl (ca 0, 3000, .inl (zAr (fun _ => 0)))), (q9, .inl (ca 0, 3000, .inl (zAr (fun _ => 0)))), (q11, .inl (ca 0, 3000, .inl (zAr (fun _ => 0)))), (q13, .inl (ca 0, 3000, .inl (zAr (fun _ => 0)))), (q15, .inl (ca 0, 3000, .inl (zAr (fun _ => 0)))), (q17, .inl (ca 0, 1500, .inl (zAr (fun _ => 0)))), (q19, .inl (ca 0, 1500, .inl (zAr (fun _ => 0)))), (q21, .inl (ca 0, 1500, .inl (zAr (fun _ => 0))))] A H21 := hZ21
  clear hZ20 hS20
  refine W.widen (k := 11) (n := 28500) (Nat.le_of_ble_eq_true rfl) (Nat.le_of_ble_eq_true rfl) ?_
  refine zxputF hx hb hts inW_3 tyX3 tyX3_ok nmX3 hown hK hZ21 hS21 0 rfl rfl (k := 10) (by decide) k_1_126 rfl hnm rfl rfl rfl d_5_1_100 (fun H22 locs22 hZ22 hS22 => ?_)
  replace hZ22 : zHx D ca ad lnC Ki.2 L F B [(a, .inr (3, rg 22 (va_up (va_up (va_up (va_up (va_up (va_up (va_up (va_up (va_up (va_up (va_up (fun j => defaultValue (tyX3 j)) 0 (.ref q1)) 1 (.ref q3)) 2 (.ref q5)) 3 (.ref q7)) 4 (.ref q9)) 5 (.ref q11)) 6 (.ref q13)) 7 (.ref q15)) 8 (.ref q17)) 9 (.ref q19)) 10 (.ref q21)))), (q1, .inl (ca 0, 3000, .inl (zAr (fun _ => 0)))), (q3, .inl (ca 0, 3000, .inl (zAr (fun _ => 0)))), (q5, .inl (ca 0, 3000, .inl (zAr (fun _ => 0)))), (q7, .inl (ca 0, 3000, .inl (zAr (fun _ => 0)))), (q9, .inl (ca 0, 3000, .inl (zAr (fun _ => 0)))), (q11, .inl (ca 0, 3000, .inl (zAr (fun _ => 0)))), (q13, .inl (ca 0, 3000, .inl (zAr (fun _ => 0)))), (q15, .inl (ca 0, 3000, .inl (zAr (fun _ => 0)))), (q17, .inl (ca 0, 1500, .inl (zAr (fun _ => 0)))), (q19, .inl (ca 0, 1500, .inl (zAr (fun _ => 0)))), (q21, .inl (ca 0, 1500, .inl (zAr (fun _ => 0))))] A H22 := hZ22
  clear hZ21 hS21
  refine lv_aload_n hx hb d_5_1_103 rfl (lv_at hl 0 rfl) ?_
  obtain ⟨r23, F23, B23, K23, hc23, hf⟩ := gbindM hf
  refine zxnew (C := RX10) (T := TX10) (n := 9) (ci := 10) hx hb hts inW_10 tyX10 tyX10_ok hown k_1_66 k_1_67 k_1_5 hK hZ22 hS22 hA rfl (Nat.le_of_ble_eq_true rfl) (Nat.le_of_ble_eq_true rfl) d_5_1_104 (fun q23 Hn23 hZn23 hSn23 => ?_)
  refine W.widen (k := 12) (n := 28509) (Nat.le_of_ble_eq_true rfl) (Nat.le_of_ble_eq_true rfl) ?_
  refine lv_dup hx hb d_5_1_107 rfl ?_
  refine va_callv (va_runIN (As := []) (rest := .ref q23 :: [.ref a]) ⟨hx, hb, hml, hown, hts⟩ (c_Tokens_init (l := l) hc23) ⟨va_cnB 0 hts (gdC k_1_70) rfl rfl rfl (hX.1 _ (List.mem_of_getElem? (i := 1) rfl) :) (hts _ k_1_5) (by decide +kernel) ⟨(Nat.le_of_ble_eq_true rfl), (Nat.le_of_ble_eq_true rfl)⟩, rfl, hts _ k_1_69⟩ (zxPS X hZn23 hSn23 [.ref q23]) rfl rfl hl.1 rfl (lv_room (Nat.le_of_ble_eq_true rfl)) d_5_1_108 ⟨(Nat.le_of_ble_eq_true rfl), (Nat.le_of_ble_eq_true rfl)⟩) hSn23 (fun x _ h => zxAin X hZn23 hSn23 x h) (zxAin X hZn23 hSn23) (fun u23 t23 H23 locs23 ht23 hv23 hu23 hB23 hz23 hk23 hS23 => ?_)
  obtain ⟨ad23, L23⟩ := u23
  obtain ⟨hg23, hq23⟩ := hu23
  have hZ23 := zxback hZn23 (zxAin X hZn23 hSn23) hk23 ht23 hB23
  replace hq23 : ad23 10 r23 0 = q23 := hq23
  have X23 := X.grow (fun z hz => hZ23.inA z (List.mem_append.mpr (Or.inr hz)))
  have hG23 := hG.tr hg23
  replace hZ23 : zHx D ca ad23 lnC K23.2 L23 F23 B23 [(a, .inr (3, rg 22 (va_up (va_up (va_up (va_up (va_up (va_up (va_up (va_up (va_up (va_up (va_up (fun j => defaultValue (tyX3 j)) 0 (.ref q1)) 1 (.ref q3)) 2 (.ref q5)) 3 (.ref q7)) 4 (.ref q9)) 5 (.ref q11)) 6 (.ref q13)) 7 (.ref q15)) 8 (.ref q17)) 9 (.ref q19)) 10 (.ref q21)))), (q1, .inl (ca 0, 3000, .inl (zAr (fun _ => 0)))), (q3, .inl (ca 0, 3000, .inl (zAr (fun _ => 0)))), (q5, .inl (ca 0, 3000, .inl (zAr (fun _ => 0)))), (q7, .inl (ca 0, 3000, .inl (zAr (fun _ => 0)))), (q9, .inl (ca 0, 3000, .inl (zAr (fun _ => 0)))), (q11, .inl (ca 0, 3000, .inl (zAr (fun _ => 0)))), (q13, .inl (ca 0, 3000, .inl (zAr (fun _ => 0)))), (q15, .inl (ca 0, 3000, .inl (zAr (fun _ => 0)))), (q17, .inl (ca 0, 1500, .inl (zAr (fun _ => 0)))), (q19, .inl (ca 0, 1500, .inl (zAr (fun _ => 0)))), (q21, .inl (ca 0, 1500, .inl (zAr (fun _ => 0))))] A H23 := hZ23
  clear hZ22 hS22
  refine W.widen (k := 15) (n := 37512) (Nat.le_of_ble_eq_true rfl) (Nat.le_of_ble_eq_true rfl) ?_
  refine zxputF hx hb hts inW_3 tyX3 tyX3_ok nmX3 hown hK hZ23 hS23 0 rfl rfl (k := 11) (by decide) k_1_128 rfl hnm rfl rfl rfl d_5_1_111 (fun H24 locs24 hZ24 hS24 => ?_)
  replace hZ24 : zHx D ca ad23 lnC K23.2 L23 F23 B23 [(a, .inr (3, rg 22 (va_up (va_up (va_up (va_up (va_up (va_up (va_up (va_up (va_up (va_up (va_up (va_up (fun j => defaultValue (tyX3 j)) 0 (.ref q1)) 1 (.ref q3)) 2 (.ref q5)) 3 (.ref q7)) 4 (.ref q9)) 5 (.ref q11)) 6 (.ref q13)) 7 (.ref q15)) 8 (.ref q17)) 9 (.ref q19)) 10 (.ref q21)) 11 (.ref q23)))), (q1, .inl (ca 0, 3000, .inl (zAr (fun _ => 0)))), (q3, .inl (ca 0, 3000, .inl (zAr (fun _ => 0)))), (q5, .inl (ca 0, 3000, .inl (zAr (fun _ => 0)))), (q7, .inl (ca 0, 3000, .inl (zAr (fun _ => 0)))), (q9, .inl (ca 0, 3000, .inl (zAr (fun _ => 0)))), (q11, .inl (ca 0, 3000, .inl (zAr (fun _ => 0)))), (q13, .inl (ca 0, 3000, .inl (zAr (fun _ => 0)))), (q15, .inl (ca 0, 3000, .inl (zAr (fun _ => 0)))), (q17, .inl (ca 0, 1500, .inl (zAr (fun _ => 0)))), (q19, .inl (ca 0, 1500, .inl (zAr (fun _ => 0)))), (q21, .inl (ca 0, 1500, .inl (zAr (fun _ => 0))))] A H24 := hZ24
  clear hZ23 hS23
  refine lv_aload_n hx hb d_5_1_114 rfl (lv_at hl 0 rfl) ?_
  refine lv_bipush (v := iI 6) hx hb d_5_1_115 (by decide) ?_
  refine zxnewa (atype := .long) hx hb hts (ty := .long) rfl k_1_105 hK 1 rfl (fun _ _ => gu_long) hZ24 hS24 hA (a0 := (6, .inr (.inl (zLr (fun _ => 0))))) (fun _ => rfl) (by decide) (N' := 6) (by decide) (Nat.le_of_ble_eq_true rfl) (Nat.le_of_ble_eq_true rfl) (Nat.le_of_ble_eq_true rfl) d_5_1_117 (fun q25 H25 hZ25 hS25 => ?_)
  replace hZ25 : zHx D ca ad23 lnC K23.2 L23 F23 B23 [(a, .inr (3, rg 22 (va_up (va_up (va_up (va_up (va_up (va_up (va_up (va_up (va_up (va_up (va_up (va_up (fun j => defaultValue (tyX3 j)) 0 (.ref q1)) 1 (.ref q3)) 2 (.ref q5)) 3 (.ref q7)) 4 (.ref q9)) 5 (.ref q11)) 6 (.ref q13)) 7 (.ref q15)) 8 (.ref q17)) 9 (.ref q19)) 10 (.ref q21)) 11 (.ref q23)))), (q1, .inl (ca 0, 3000, .inl (zAr (fun _ => 0)))), (q3, .inl (ca 0, 3000, .inl (zAr (fun _ => 0)))), (q5, .inl (ca 0, 3000, .inl (zAr (fun _ => 0)))), (q7, .inl (ca 0, 3000, .inl (zAr (fun _ => 0)))), (q9, .inl (ca 0, 3000, .inl (zAr (fun _ => 0)))), (q11, .inl (ca 0, 3000, .inl (zAr (fun _ => 0)))), (q13, .inl (ca 0, 3000, .inl (zAr (fun _ => 0)))), (q15, .inl (ca 0, 3000, .inl (zAr (fun _ => 0)))), (q17, .inl (ca 0, 1500, .inl (zAr (fun _ => 0)))), (q19, .inl (ca 0, 1500, .inl (zAr (fun _ => 0)))), (q21, .inl (ca 0, 1500, .inl (zAr (fun _ => 0)))), (q25, .inl (ca 1, 6, .inr (.inl (zLr (fun _ => 0)))))] A H25 := hZ25
  clear hZ24 hS24
  refine W.widen (k := 16) (n := 37518) (Nat.le_of_ble_eq_true rfl) (Nat.le_of_ble_eq_true rfl) ?_
  refine zxputF hx hb hts inW_3 tyX3 tyX3_ok nmX3 hown hK hZ25 hS25 0 rfl rfl (k := 12) (by decide) k_1_129 rfl hnm rfl rfl rfl d_5_1_119 (fun H26 locs26 hZ26 hS26 => ?_)
  replace hZ26 : zHx D ca ad23 lnC K23.2 L23 F23 B23 [(a, .inr (3, rg 22 (va_up (va_up (va_up (va_up (va_up (va_up (va_up (va_up (va_up (va_up (va_up (va_up (va_up (fun j => defaultValue (tyX3 j)) 0 (.ref q1)) 1 (.ref q3)) 2 (.ref q5)) 3 (.ref q7)) 4 (.ref q9)) 5 (.ref q11)) 6 (.ref q13)) 7 (.ref q15)) 8 (.ref q17)) 9 (.ref q19)) 10 (.ref q21)) 11 (.ref q23)) 12 (.ref q25)))), (q1, .inl (ca 0, 3000, .inl (zAr (fun _ => 0)))), (q3, .inl (ca 0, 3000, .inl (zAr (fun _ => 0)))), (q5, .inl (ca 0, 3000, .inl (zAr (fun _ => 0)))), (q7, .inl (ca 0, 3000, .inl (zAr (fun _ => 0)))), (q9, .inl (ca 0, 3000, .inl (zAr (fun _ => 0)))), (q11, .inl (ca 0, 3000, .inl (zAr (fun _ => 0)))), (q13, .inl (ca 0, 3000, .inl (zAr (fun _ => 0)))), (q15, .inl (ca 0, 3000, .inl (zAr (fun _ => 0)))), (q17, .inl (ca 0, 1500, .inl (zAr (fun _ => 0)))), (q19, .inl (ca 0, 1500, .inl (zAr (fun _ => 0)))), (q21, .inl (ca 0, 1500, .inl (zAr (fun _ => 0)))), (q25, .inl (ca 1, 6, .inr (.inl (zLr (fun _ => 0)))))] A H26 := hZ26
  clear hZ25 hS25
  refine lv_aload_n hx hb d_5_1_122 rfl (lv_at hl 0 rfl) ?_
  refine lv_bipush (v := iI 6) hx hb d_5_1_123 (by decide) ?_
  refine zxnewa (atype := .int) hx hb hts (ty := .int) rfl k_1_57 hK 0 rfl (fun _ _ => gu_int) hZ26 hS26 hA (a0 := (6, .inl (zAr (fun _ => 0)))) (fun _ => rfl) (by decide) (N' := 6) (by decide) (Nat.le_of_ble_eq_true rfl) (Nat.le_of_ble_eq_true rfl) (Nat.le_of_ble_eq_true rfl) d_5_1_125 (fun q27 H27 hZ27 hS27 => ?_)
  replace hZ27 : zHx D ca ad23 lnC K23.2 L23 F23 B23 [(a, .inr (3, rg 22 (va_up (va_up (va_up (va_up (va_up (va_up (va_up (va_up (va_up (va_up (va_up (va_up (va_up (fun j => defaultValue (tyX3 j)) 0 (.ref q1)) 1 (.ref q3)) 2 (.ref q5)) 3 (.ref q7)) 4 (.ref q9)) 5 (.ref q11)) 6 (.ref q13)) 7 (.ref q15)) 8 (.ref q17)) 9 (.ref q19)) 10 (.ref q21)) 11 (.ref q23)) 12 (.ref q25)))), (q1, .inl (ca 0, 3000, .inl (zAr (fun _ => 0)))), (q3, .inl (ca 0, 3000, .inl (zAr (fun _ => 0)))), (q5, .inl (ca 0, 3000, .inl (zAr (fun _ => 0)))), (q7, .inl (ca 0, 3000, .inl (zAr (fun _ => 0)))), (q9, .inl (ca 0, 3000, .inl (zAr (fun _ => 0)))), (q11, .inl (ca 0, 3000, .inl (zAr (fun _ => 0)))), (q13, .inl (ca 0, 3000, .inl (zAr (fun _ => 0)))), (q15, .inl (ca 0, 3000, .inl (zAr (fun _ => 0)))), (q17, .inl (ca 0, 1500, .inl (zAr (fun _ => 0)))), (q19, .inl (ca 0, 1500, .inl (zAr (fun _ => 0)))), (q21, .inl (ca 0, 1500, .inl (zAr (fun _ => 0)))), (q25, .inl (ca 1, 6, .inr (.inl (zLr (fun _ => 0))))), (q27, .inl (ca 0, 6, .inl (zAr (fun _ => 0))))] A H27 := hZ27
  clear hZ26 hS26
  refine W.widen (k := 17) (n := 37524) (Nat.le_of_ble_eq_true rfl) (Nat.le_of_ble_eq_true rfl) ?_
  refine zxputF hx hb hts inW_3 tyX3 tyX3_ok nmX3 hown hK hZ27 hS27 0 rfl rfl (k := 13) (by decide) k_1_130 rfl hnm rfl rfl rfl d_5_1_127 (fun H28 locs28 hZ28 hS28 => ?_)
  replace hZ28 : zHx D ca ad23 lnC K23.2 L23 F23 B23 [(a, .inr (3, rg 22 (va_up (va_up (va_up (va_up (va_up (va_up (va_up (va_up (va_up (va_up (va_up (va_up (va_up (va_up (fun j => defaultValue (tyX3 j)) 0 (.ref q1)) 1 (.ref q3)) 2 (.ref q5)) 3 (.ref q7)) 4 (.ref q9)) 5 (.ref q11)) 6 (.ref q13)) 7 (.ref q15)) 8 (.ref q17)) 9 (.ref q19)) 10 (.ref q21)) 11 (.ref q23)) 12 (.ref q25)) 13 (.ref q27)))), (q1, .inl (ca 0, 3000, .inl (zAr (fun _ => 0)))), (q3, .inl (ca 0, 3000, .inl (zAr (fun _ => 0)))), (q5, .inl (ca 0, 3000, .inl (zAr (fun _ => 0)))), (q7, .inl (ca 0, 3000, .inl (zAr (fun _ => 0)))), (q9, .inl (ca 0, 3000, .inl (zAr (fun _ => 0)))), (q11, .inl (ca 0, 3000, .inl (zAr (fun _ => 0)))), (q13, .inl (ca 0, 3000, .inl (zAr (fun _ => 0)))), (q15, .inl (ca 0, 3000, .inl (zAr (fun _ => 0)))), (q17, .inl (ca 0, 1500, .inl (zAr (fun _ => 0)))), (q19, .inl (ca 0, 1500, .inl (zAr (fun _ => 0)))), (q21, .inl (ca 0, 1500, .inl (zAr (fun _ => 0)))), (q25, .inl (ca 1, 6, .inr (.inl (zLr (fun _ => 0))))), (q27, .inl (ca 0, 6, .inl (zAr (fun _ => 0))))] A H28 := hZ28
  clear hZ27 hS27
  obtain ⟨g30, hf⟩ := gif hf
  obtain ⟨g31, hf⟩ := gif hf
  obtain ⟨g33, hf⟩ := gif hf
  obtain ⟨ad29, L29, hZ29, hG29, hq29⟩ : ∃ ad' L', zH D ca ad' lnC (zinN K23.2 3) L' (zinF F23 3 (K23.2 3) [0, 0, 0, 0, 0, 0, 0, 0, 0, 0, 0, r23, 0, 0, 0, 0, 0, 0, 0, 0, 0, 0]) (zinB B23 3 (K23.2 3) (fun _ _ => 0)) A H28 ∧ zG ad Ki.2 ad' (zinN K23.2 3) ∧ ad' 3 (K23.2 3) 0 = a := ⟨_, _, ztake2 (c := 3) (n := 22) (l := [(0, a), (1, q1), (2, q3), (3, q5), (4, q7), (5, q9), (6, q11), (7, q13), (8, q15), (9, q17), (10, q19), (11, q21), (13, q25), (14, q27)]) (fi := [0, 0, 0, 0, 0, 0, 0, 0, 0, 0, 0, r23, 0, 0, 0, 0, 0, 0, 0, 0, 0, 0]) (b := (fun _ _ => 0)) (a := a) (r2 := [(11, 10)]) (r3 := [(0, 0), (1, 0), (2, 0), (3, 0), (4, 0), (5, 0), (6, 0), (7, 0), (8, 0), (9, 0), (10, 0), (12, 1), (13, 0)]) (r4 := []) hZ28 g30 (by decide +kernel) (by decide +kernel) (by decide +kernel) rfl (show 0 ∈ ([0, 1, 2, 3, 4, 5, 6, 7, 8, 9, 10, 11, 13, 14] : List Nat) by decide) (show zAll [(0, 0), (1, 0), (2, 0), (3, 0), (4, 0), (5, 0), (6, 0), (7, 0), (8, 0), (9, 0), (10, 0), (12, 1), (13, 0)] (fun x : Nat × Nat => x.1 + 1 ∈ ([0, 1, 2, 3, 4, 5, 6, 7, 8, 9, 10, 11, 13, 14] : List Nat)) from (And.intro (by decide) (And.intro (by decide) (And.intro (by decide) (And.intro (by decide) (And.intro (by decide) (And.intro (by decide) (And.intro (by decide) (And.intro (by decide) (And.intro (by decide) (And.intro (by decide) (And.intro (by decide) (And.intro (by decide) (And.intro (by decide) trivial)))))))))))))) (show zAll [] (fun x : Nat × Nat => x.1 + 1 ∈ ([0, 1, 2, 3, 4, 5, 6, 7, 8, 9, 10, 11, 13, 14] : List Nat)) from trivial) rfl rfl (List.mem_of_getElem? (i := 0) rfl) (And.intro rfl (And.intro rfl (And.intro rfl (And.intro rfl (And.intro rfl (And.intro rfl (And.intro rfl (And.intro rfl (And.intro rfl (And.intro rfl (And.intro rfl (And.intro (zref_f g33.1 hq23) (And.intro rfl (And.intro rfl (And.intro rfl (And.intro rfl (And.intro rfl (And.intro rfl (And.intro rfl (And.intro rfl (And.intro rfl (And.intro rfl trivial)))))))))))))))))))))) (And.intro (List.mem_of_getElem? (i := 1) rfl) (And.intro (List.mem_of_getElem? (i := 2) rfl) (And.intro (List.mem_of_getElem? (i := 3) rfl) (And.intro (List.mem_of_getElem? (i := 4) rfl) (And.intro (List.mem_of_getElem? (i := 5) rfl) (And.intro (List.mem_of_getElem? (i := 6) rfl) (And.intro (List.mem_of_getElem? (i := 7) rfl) (And.intro (List.mem_of_getElem? (i := 8) rfl) (And.intro (List.mem_of_getElem? (i := 9) rfl) (And.intro (List.mem_of_getElem? (i := 10) rfl) (And.intro (List.mem_of_getElem? (i := 11) rfl) (And.intro (List.mem_of_getElem? (i := 12) rfl) (And.intro (List.mem_of_getElem? (i := 13) rfl) trivial))))))))))))) trivial (And.intro g31 trivial) (And.intro (fun h => absurd h (by decide)) (And.intro (fun h => absurd h (by decide)) (And.intro (fun h => absurd h (by decide)) (And.intro (fun h => absurd h (by decide)) (And.intro (fun h => absurd h (by decide)) (And.intro (fun h => absurd h (by decide)) (And.intro (fun h => absurd h (by decide)) (And.intro (fun h => absurd h (by decide)) (And.intro (fun h => absurd h (by decide)) (And.intro (fun h => absurd h (by decide)) (And.intro (fun h => absurd h (by decide)) (And.intro (fun h => absurd h (by decide)) (And.intro (fun h => absurd h (by decide)) trivial))))))))))))), hG23.tr zinA_G, zinA_new⟩
  cases hf
  exact W.vret hx hb hr (fun t ht hW => ⟨⟨(ad29, L29), rfl, ⟨hG29, hq29⟩, by rw [ht]; exact hZ29, va_K.moved hW.alike hK⟩, hS28.F ht⟩) hS28.2.2 d_5_1_130 hlk

