theorem k_1_37 : (Jvm.Cond.methodLink "StaveHouse$ByteRow" (3 : Nat) ({ cls := "java/lang/Object", name := "<init>", desc := "()V" } : Jvm.MethodName)) ∈ wAll := wA_1 (j := 37) rfl rfl
theorem k_1_38 : (Jvm.Cond.methodLink "StaveHouse$ByteRow" (9 : Nat) ({ cls := "java/lang/Math", name := "max", desc := "(II)I" } : Jvm.MethodName)) ∈ wAll := wA_1 (j := 38) rfl rfl
theorem k_1_29 : (Jvm.Cond.methodLink "StaveHouse" (1 : Nat) ({ cls := "java/lang/Object", name := "<init>", desc := "()V" } : Jvm.MethodName)) ∈ wAll := wA_1 (j := 29) rfl rfl
theorem k_1_32 : (Jvm.Cond.classLink "StaveHouse" (7 : Nat) "StaveHouse$ByteRow") ∈ wAll := wA_1 (j := 32) rfl rfl
theorem k_1_33 : (Jvm.Cond.instantiable "StaveHouse$ByteRow" (3 : Nat)) ∈ wAll := wA_1 (j := 33) rfl rfl
theorem k_1_36 : (Jvm.Cond.code ({ cls := "StaveHouse$ByteRow", name := "<init>", desc := "(I)V" } : Jvm.MethodName) prog_2_method_1_code (2 : Nat) (Option.none : Option Jvm.ClassFile.FieldType)) ∈ wAll := wA_1 (j := 36) rfl rfl
theorem k_1_34 : (Jvm.Cond.methodLink "StaveHouse" (11 : Nat) ({ cls := "StaveHouse$ByteRow", name := "<init>", desc := "(I)V" } : Jvm.MethodName)) ∈ wAll := wA_1 (j := 34) rfl rfl
theorem k_1_35 : (Jvm.Cond.instanceMethod ({ cls := "StaveHouse$ByteRow", name := "<init>", desc := "(I)V" } : Jvm.MethodName)) ∈ wAll := wA_1 (j := 35) rfl rfl
theorem k_1_58 : (Jvm.Cond.classLink "StaveHouse" (25 : Nat) "StaveHouse$Piece") ∈ wAll := wA_1 (j := 58) rfl rfl
theorem k_1_60 : (Jvm.Cond.classLink "StaveHouse" (31 : Nat) "StaveHouse$Parser") ∈ wAll := wA_1 (j := 60) rfl rfl
theorem k_1_61 : (Jvm.Cond.instantiable "StaveHouse$Parser" (22 : Nat)) ∈ wAll := wA_1 (j := 61) rfl rfl
theorem k_1_64 : (Jvm.Cond.code ({ cls := "StaveHouse$Parser", name := "<init>", desc := "()V" } : Jvm.MethodName) prog_5_method_1_code (1 : Nat) (Option.none : Option Jvm.ClassFile.FieldType)) ∈ wAll := wA_1 (j := 64) rfl rfl
theorem k_1_63 : (Jvm.Cond.instanceMethod ({ cls := "StaveHouse$Parser", name := "<init>", desc := "()V" } : Jvm.MethodName)) ∈ wAll := wA_1 (j := 63) rfl rfl
theorem k_2_131 : (Jvm.Cond.fieldLink "StaveHouse" (34 : Nat) "StaveHouse" "parser" "LStaveHouse$Parser;") ∈ wAll := wA_2 (j := 131) rfl rfl
theorem k_1_184 : (Jvm.Cond.classLink "StaveHouse" (38 : Nat) "StaveHouse$Walker") ∈ wAll := wA_1 (j := 184) rfl rfl
theorem k_1_185 : (Jvm.Cond.instantiable "StaveHouse$Walker" (19 : Nat)) ∈ wAll := wA_1 (j := 185) rfl rfl
theorem k_1_188 : (Jvm.Cond.code ({ cls := "StaveHouse$Walker", name := "<init>", desc := "()V" } : Jvm.MethodName) prog_13_method_1_code (1 : Nat) (Option.none : Option Jvm.ClassFile.FieldType)) ∈ wAll := wA_1 (j := 188) rfl rfl
theorem k_1_187 : (Jvm.Cond.instanceMethod ({ cls := "StaveHouse$Walker", name := "<init>", desc := "()V" } : Jvm.MethodName)) ∈ wAll := wA_1 (j := 187) rfl rfl
theorem k_2_132 : (Jvm.Cond.fieldLink "StaveHouse" (41 : Nat) "StaveHouse" "walker" "LStaveHouse$Walker;") ∈ wAll := wA_2 (j := 132) rfl rfl
theorem k_2_8 : (Jvm.Cond.classLink "StaveHouse" (45 : Nat) "StaveHouse$Scribe") ∈ wAll := wA_2 (j := 8) rfl rfl
theorem k_2_9 : (Jvm.Cond.instantiable "StaveHouse$Scribe" (9 : Nat)) ∈ wAll := wA_2 (j := 9) rfl rfl
theorem k_2_12 : (Jvm.Cond.code ({ cls := "StaveHouse$Scribe", name := "<init>", desc := "()V" } : Jvm.MethodName) prog_9_method_1_code (1 : Nat) (Option.none : Option Jvm.ClassFile.FieldType)) ∈ wAll := wA_2 (j := 12) rfl rfl
theorem k_2_11 : (Jvm.Cond.instanceMethod ({ cls := "StaveHouse$Scribe", name := "<init>", desc := "()V" } : Jvm.MethodName)) ∈ wAll := wA_2 (j := 11) rfl rfl
theorem k_4_109 : (Jvm.Cond.methodLink "StaveHouse$Part" (3 : Nat) ({ cls := "java/lang/Object", name := "<init>", desc := "()V" } : Jvm.MethodName)) ∈ wAll := wA_4 (j := 109) rfl rfl
theorem k_4_110 : (Jvm.Cond.classLink "StaveHouse$Part" (9 : Nat) "StaveHouse$Event") ∈ wAll := wA_4 (j := 110) rfl rfl
theorem k_4_112 : (Jvm.Cond.classLink "StaveHouse$Part" (17 : Nat) "[[I") ∈ wAll := wA_4 (j := 112) rfl rfl
theorem W_prog_2_method_1_code_0 : chW prog_2_method_1_code 0 [42, 183, 0, 3, 42, 27, 4, 184, 0, 9, 188, 10, 181, 0, 15, 177] := chW_of (by decide +kernel)
theorem d_2_1_0 : decode prog_2_method_1_code 0 = .ok (.aload_n 0, 1) := D_42 W_prog_2_method_1_code_0 0 rfl rfl
theorem d_2_1_1 : decode prog_2_method_1_code 1 = .ok (.invokespecial 3, 3) := D_183 W_prog_2_method_1_code_0 1 rfl rfl rfl
theorem d_2_1_4 : decode prog_2_method_1_code 4 = .ok (.aload_n 0, 1) := D_42 W_prog_2_method_1_code_0 4 rfl rfl
theorem d_2_1_5 : decode prog_2_method_1_code 5 = .ok (.iload_n 1, 1) := D_27 W_prog_2_method_1_code_0 5 rfl rfl
theorem d_2_1_6 : decode prog_2_method_1_code 6 = .ok (.iconst 1, 1) := D_4 W_prog_2_method_1_code_0 6 rfl rfl
theorem d_2_1_7 : decode prog_2_method_1_code 7 = .ok (.invokestatic 9, 3) := D_184 W_prog_2_method_1_code_0 7 rfl rfl rfl
theorem d_2_1_10 : decode prog_2_method_1_code 10 = .ok (.newarray .int, 2) := D_188_10 W_prog_2_method_1_code_0 10 rfl rfl
theorem d_2_1_12 : decode prog_2_method_1_code 12 = .ok (.putfield 15, 3) := D_181 W_prog_2_method_1_code_0 12 rfl rfl rfl
theorem d_2_1_15 : decode prog_2_method_1_code 15 = .ok (.return_, 1) := D_177 W_prog_2_method_1_code_0 15 rfl rfl
theorem W_prog_1_method_1_code_0 : chW prog_1_method_1_code 0 [42, 183, 0, 1, 42, 187, 0, 7, 89, 17, 11, 184, 183, 0, 11, 181, 0, 14, 42, 16, 20, 188, 10, 181, 0, 18, 42, 187, 0, 7, 89, 17, 80, 0, 183, 0] := chW_of (by decide +kernel)
theorem d_1_1_0 : decode prog_1_method_1_code 0 = .ok (.aload_n 0, 1) := D_42 W_prog_1_method_1_code_0 0 rfl rfl
theorem d_1_1_1 : decode prog_1_method_1_code 1 = .ok (.invokespecial 1, 3) := D_183 W_prog_1_method_1_code_0 1 rfl rfl rfl
theorem d_1_1_4 : decode prog_1_method_1_code 4 = .ok (.aload_n 0, 1) := D_42 W_prog_1_method_1_code_0 4 rfl rfl
theorem d_1_1_5 : decode prog_1_method_1_code 5 = .ok (.new 7, 3) := D_187 W_prog_1_method_1_code_0 5 rfl rfl rfl
theorem d_1_1_8 : decode prog_1_method_1_code 8 = .ok (.dup, 1) := D_89 W_prog_1_method_1_code_0 8 rfl rfl
theorem d_1_1_12 : decode prog_1_method_1_code 12 = .ok (.invokespecial 11, 3) := D_183 W_prog_1_method_1_code_0 12 rfl rfl rfl
theorem d_1_1_9 : decode prog_1_method_1_code 9 = .ok (.sipush 3000, 3) := D_17 W_prog_1_method_1_code_0 9 rfl rfl rfl
theorem d_1_1_15 : decode prog_1_method_1_code 15 = .ok (.putfield 14, 3) := D_181 W_prog_1_method_1_code_0 15 rfl rfl rfl
theorem d_1_1_18 : decode prog_1_method_1_code 18 = .ok (.aload_n 0, 1) := D_42 W_prog_1_method_1_code_0 18 rfl rfl
theorem d_1_1_19 : decode prog_1_method_1_code 19 = .ok (.bipush 20, 2) := D_16 W_prog_1_method_1_code_0 19 rfl rfl rfl
theorem d_1_1_21 : decode prog_1_method_1_code 21 = .ok (.newarray .int, 2) := D_188_10 W_prog_1_method_1_code_0 21 rfl rfl
theorem d_1_1_23 : decode prog_1_method_1_code 23 = .ok (.putfield 18, 3) := D_181 W_prog_1_method_1_code_0 23 rfl rfl rfl
theorem d_1_1_26 : decode prog_1_method_1_code 26 = .ok (.aload_n 0, 1) := D_42 W_prog_1_method_1_code_0 26 rfl rfl
theorem d_1_1_27 : decode prog_1_method_1_code 27 = .ok (.new 7, 3) := D_187 W_prog_1_method_1_code_0 27 rfl rfl rfl
theorem d_1_1_30 : decode prog_1_method_1_code 30 = .ok (.dup, 1) := D_89 W_prog_1_method_1_code_0 30 rfl rfl
theorem W_prog_1_method_1_code_32 : chW prog_1_method_1_code 32 [80, 0, 183, 0, 11, 181, 0, 22, 42, 5, 189, 0, 25, 181, 0, 27, 42, 187, 0, 31, 89, 183, 0, 33, 181, 0, 34, 42, 187, 0, 38, 89, 183, 0, 40, 181] := chW_of (by decide +kernel)
theorem d_1_1_34 : decode prog_1_method_1_code 34 = .ok (.invokespecial 11, 3) := D_183 W_prog_1_method_1_code_32 2 rfl rfl rfl
theorem d_1_1_31 : decode prog_1_method_1_code 31 = .ok (.sipush 20480, 3) := D_17 W_prog_1_method_1_code_0 31 rfl rfl rfl
theorem d_1_1_37 : decode prog_1_method_1_code 37 = .ok (.putfield 22, 3) := D_181 W_prog_1_method_1_code_32 5 rfl rfl rfl
theorem d_1_1_40 : decode prog_1_method_1_code 40 = .ok (.aload_n 0, 1) := D_42 W_prog_1_method_1_code_32 8 rfl rfl
theorem d_1_1_41 : decode prog_1_method_1_code 41 = .ok (.iconst 2, 1) := D_5 W_prog_1_method_1_code_32 9 rfl rfl
theorem d_1_1_42 : decode prog_1_method_1_code 42 = .ok (.anewarray 25, 3) := D_189 W_prog_1_method_1_code_32 10 rfl rfl rfl
theorem d_1_1_45 : decode prog_1_method_1_code 45 = .ok (.putfield 27, 3) := D_181 W_prog_1_method_1_code_32 13 rfl rfl rfl
theorem d_1_1_48 : decode prog_1_method_1_code 48 = .ok (.aload_n 0, 1) := D_42 W_prog_1_method_1_code_32 16 rfl rfl
theorem d_1_1_49 : decode prog_1_method_1_code 49 = .ok (.new 31, 3) := D_187 W_prog_1_method_1_code_32 17 rfl rfl rfl
theorem d_1_1_52 : decode prog_1_method_1_code 52 = .ok (.dup, 1) := D_89 W_prog_1_method_1_code_32 20 rfl rfl
theorem d_1_1_53 : decode prog_1_method_1_code 53 = .ok (.invokespecial 33, 3) := D_183 W_prog_1_method_1_code_32 21 rfl rfl rfl
theorem d_1_1_56 : decode prog_1_method_1_code 56 = .ok (.putfield 34, 3) := D_181 W_prog_1_method_1_code_32 24 rfl rfl rfl
theorem d_1_1_59 : decode prog_1_method_1_code 59 = .ok (.aload_n 0, 1) := D_42 W_prog_1_method_1_code_32 27 rfl rfl
theorem d_1_1_60 : decode prog_1_method_1_code 60 = .ok (.new 38, 3) := D_187 W_prog_1_method_1_code_32 28 rfl rfl rfl
theorem d_1_1_63 : decode prog_1_method_1_code 63 = .ok (.dup, 1) := D_89 W_prog_1_method_1_code_32 31 rfl rfl
theorem W_prog_1_method_1_code_64 : chW prog_1_method_1_code 64 [183, 0, 40, 181, 0, 41, 42, 187, 0, 45, 89, 183, 0, 47, 181, 0, 48, 177] := chW_of (by decide +kernel)
theorem d_1_1_64 : decode prog_1_method_1_code 64 = .ok (.invokespecial 40, 3) := D_183 W_prog_1_method_1_code_64 0 rfl rfl rfl
theorem d_1_1_67 : decode prog_1_method_1_code 67 = .ok (.putfield 41, 3) := D_181 W_prog_1_method_1_code_64 3 rfl rfl rfl
theorem d_1_1_70 : decode prog_1_method_1_code 70 = .ok (.aload_n 0, 1) := D_42 W_prog_1_method_1_code_64 6 rfl rfl
theorem d_1_1_71 : decode prog_1_method_1_code 71 = .ok (.new 45, 3) := D_187 W_prog_1_method_1_code_64 7 rfl rfl rfl
theorem d_1_1_74 : decode prog_1_method_1_code 74 = .ok (.dup, 1) := D_89 W_prog_1_method_1_code_64 10 rfl rfl
theorem d_1_1_75 : decode prog_1_method_1_code 75 = .ok (.invokespecial 47, 3) := D_183 W_prog_1_method_1_code_64 11 rfl rfl rfl
theorem d_1_1_78 : decode prog_1_method_1_code 78 = .ok (.putfield 48, 3) := D_181 W_prog_1_method_1_code_64 14 rfl rfl rfl
theorem d_1_1_81 : decode prog_1_method_1_code 81 = .ok (.return_, 1) := D_177 W_prog_1_method_1_code_64 17 rfl rfl
theorem W_prog_6_method_1_code_0 : chW prog_6_method_1_code 0 [42, 183, 0, 3, 42, 17, 0, 200, 189, 0, 9, 181, 0, 11, 42, 16, 12, 17, 3, 32, 197, 0, 17, 2, 181, 0, 19, 42, 17, 3, 32, 188, 11, 181, 0, 22] := chW_of (by decide +kernel)
theorem d_6_1_0 : decode prog_6_method_1_code 0 = .ok (.aload_n 0, 1) := D_42 W_prog_6_method_1_code_0 0 rfl rfl
theorem d_6_1_1 : decode prog_6_method_1_code 1 = .ok (.invokespecial 3, 3) := D_183 W_prog_6_method_1_code_0 1 rfl rfl rfl
theorem d_6_1_4 : decode prog_6_method_1_code 4 = .ok (.aload_n 0, 1) := D_42 W_prog_6_method_1_code_0 4 rfl rfl
theorem d_6_1_5 : decode prog_6_method_1_code 5 = .ok (.sipush 200, 3) := D_17 W_prog_6_method_1_code_0 5 rfl rfl rfl
theorem d_6_1_8 : decode prog_6_method_1_code 8 = .ok (.anewarray 9, 3) := D_189 W_prog_6_method_1_code_0 8 rfl rfl rfl
theorem d_6_1_11 : decode prog_6_method_1_code 11 = .ok (.putfield 11, 3) := D_181 W_prog_6_method_1_code_0 11 rfl rfl rfl
theorem d_6_1_14 : decode prog_6_method_1_code 14 = .ok (.aload_n 0, 1) := D_42 W_prog_6_method_1_code_0 14 rfl rfl
theorem d_6_1_15 : decode prog_6_method_1_code 15 = .ok (.bipush 12, 2) := D_16 W_prog_6_method_1_code_0 15 rfl rfl rfl
theorem d_6_1_17 : decode prog_6_method_1_code 17 = .ok (.sipush 800, 3) := D_17 W_prog_6_method_1_code_0 17 rfl rfl rfl
theorem d_6_1_20 : decode prog_6_method_1_code 20 = .ok (.multianewarray 17 2, 4) := by decide +kernel
theorem d_6_1_24 : decode prog_6_method_1_code 24 = .ok (.putfield 19, 3) := D_181 W_prog_6_method_1_code_0 24 rfl rfl rfl
theorem d_6_1_27 : decode prog_6_method_1_code 27 = .ok (.aload_n 0, 1) := D_42 W_prog_6_method_1_code_0 27 rfl rfl
theorem d_6_1_28 : decode prog_6_method_1_code 28 = .ok (.sipush 800, 3) := D_17 W_prog_6_method_1_code_0 28 rfl rfl rfl
theorem d_6_1_31 : decode prog_6_method_1_code 31 = .ok (.newarray .long, 2) := D_188_11 W_prog_6_method_1_code_0 31 rfl rfl
theorem W_prog_6_method_1_code_32 : chW prog_6_method_1_code 32 [11, 181, 0, 22, 42, 16, 63, 188, 10, 181, 0, 26, 3, 60, 27, 17, 0, 200, 162, 0, 22, 42, 180, 0, 11, 27, 187, 0, 9, 89, 183, 0, 30, 83, 132, 1] := chW_of (by decide +kernel)
theorem d_6_1_33 : decode prog_6_method_1_code 33 = .ok (.putfield 22, 3) := D_181 W_prog_6_method_1_code_32 1 rfl rfl rfl
theorem d_6_1_36 : decode prog_6_method_1_code 36 = .ok (.aload_n 0, 1) := D_42 W_prog_6_method_1_code_32 4 rfl rfl
theorem d_6_1_37 : decode prog_6_method_1_code 37 = .ok (.bipush 63, 2) := D_16 W_prog_6_method_1_code_32 5 rfl rfl rfl
theorem d_6_1_39 : decode prog_6_method_1_code 39 = .ok (.newarray .int, 2) := D_188_10 W_prog_6_method_1_code_32 7 rfl rfl
theorem d_6_1_41 : decode prog_6_method_1_code 41 = .ok (.putfield 26, 3) := D_181 W_prog_6_method_1_code_32 9 rfl rfl rfl
theorem d_6_1_44 : decode prog_6_method_1_code 44 = .ok (.iconst 0, 1) := D_3 W_prog_6_method_1_code_32 12 rfl rfl
theorem d_6_1_45 : decode prog_6_method_1_code 45 = .ok (.istore_n 1, 1) := D_60 W_prog_6_method_1_code_32 13 rfl rfl
theorem d_6_1_46 : decode prog_6_method_1_code 46 = .ok (.iload_n 1, 1) := D_27 W_prog_6_method_1_code_32 14 rfl rfl
theorem d_6_1_47 : decode prog_6_method_1_code 47 = .ok (.sipush 200, 3) := D_17 W_prog_6_method_1_code_32 15 rfl rfl rfl
theorem d_6_1_50 : decode prog_6_method_1_code 50 = .ok (.if_icmp .ge 22, 3) := D_162 W_prog_6_method_1_code_32 18 rfl rfl rfl
theorem W_prog_6_method_1_code_64 : chW prog_6_method_1_code 64 [30, 83, 132, 1, 1, 167, 255, 233, 177] := chW_of (by decide +kernel)
theorem d_6_1_72 : decode prog_6_method_1_code 72 = .ok (.return_, 1) := D_177 W_prog_6_method_1_code_64 8 rfl rfl
theorem d_6_1_53 : decode prog_6_method_1_code 53 = .ok (.aload_n 0, 1) := D_42 W_prog_6_method_1_code_32 21 rfl rfl
theorem d_6_1_54 : decode prog_6_method_1_code 54 = .ok (.getfield 11, 3) := D_180 W_prog_6_method_1_code_32 22 rfl rfl rfl
theorem d_6_1_57 : decode prog_6_method_1_code 57 = .ok (.iload_n 1, 1) := D_27 W_prog_6_method_1_code_32 25 rfl rfl
theorem d_6_1_58 : decode prog_6_method_1_code 58 = .ok (.new 9, 3) := D_187 W_prog_6_method_1_code_32 26 rfl rfl rfl
theorem d_6_1_61 : decode prog_6_method_1_code 61 = .ok (.dup, 1) := D_89 W_prog_6_method_1_code_32 29 rfl rfl
theorem d_6_1_62 : decode prog_6_method_1_code 62 = .ok (.invokespecial 30, 3) := D_183 W_prog_6_method_1_code_32 30 rfl rfl rfl
theorem d_6_1_65 : decode prog_6_method_1_code 65 = .ok (.aastore, 1) := D_83 W_prog_6_method_1_code_64 1 rfl rfl
theorem d_6_1_66 : decode prog_6_method_1_code 66 = .ok (.iinc 1 1, 3) := D_132 W_prog_6_method_1_code_64 2 rfl rfl rfl
theorem d_6_1_69 : decode prog_6_method_1_code 69 = .ok (.goto (-23), 3) := D_167 W_prog_6_method_1_code_64 5 rfl rfl rfl
abbrev Q_ByteRow_init_0 (K : zK) (D : va_G) (ca : Nat → ClassId) (ad : Nat → Int → Nat → Nat) (a : Nat) (r : Int) (F : zF) (B : zB) (K9 : zK) (A : Nat → Prop) : Array Value → State → Outcome → State → Prop := va_Qv (S := (Nat → Int → Nat → Nat) × List Nat) (fun u => zG ad K.2 u.1 K9.2 ∧ u.1 0 r 0 = a) (fun u => zPo D ca u.1 lnC K9.2 u.2 F B A) A
def f_ByteRow_init_0 (Ki : zK) (F : zF) (B : zB) : zOm := if Ki.2 0 = 0 then if 0 ≤ Ki.2 0 then some (Ki.2 0, (zinF F 0 (Ki.2 0) [0, 0, 0]), (zinB B 0 (Ki.2 0) (fun _ _ => 0)), (Ki.1, zinN Ki.2 0)) else none else none
set_option maxHeartbeats 4000000 in
set_option maxRecDepth 100000 in
theorem c_ByteRow_init_0 {l : Launch} {D : va_G} {ca : Nat → ClassId} {ad : Nat → Int → Nat → Nat} {L : List Nat} {aS vS : Nat → Nat} {sz a : Nat} {Ki : zK} {F : zF} {B : zB} {r : Int} {F9 : zF} {B9 : zB} {K9 : zK} (hf : f_ByteRow_init_0 Ki F B = some (r, F9, B9, K9)) : Met l ({ cls := "StaveHouse$ByteRow", name := "<init>", desc := "(I)V" } : Jvm.MethodName) (Cond.code ({ cls := "StaveHouse$ByteRow", name := "<init>", desc := "(I)V" } : Jvm.MethodName) prog_2_method_1_code 2 (Option.none : Option Jvm.ClassFile.FieldType) :: wAll) ({ frames := 1, cells := 1, slots := 3000, locals := 14 } : Room) (va_Pc [.ref a, .int (iI 3000)] (zPreX D ca ad lnC Ki.2 L aS vS F B a (.inr (0, rg 3 (fun j => defaultValue (tyX0 j)))) sz)) (Q_ByteRow_init_0 Ki D ca ad a r F9 B9 K9 (zA (a :: L) sz)) 1 3000 (zA (a :: L) sz) := by
  refine zMetX (Qc := Q_ByteRow_init_0 Ki D ca ad a r F9 B9 K9) (lv := [(0, .ref a), (1, .int (iI 3000))]) (by decide) (Nat.le_of_ble_eq_true rfl) rfl (fun A p e s m below meth c ls X hnm hZ hS hl => ?_)
  obtain ⟨hx, hb, hr, hml, hown, hts, hlk, hK, hA, hL, hX⟩ := id X
  replace hnm : meth.name = "<init>" := hnm
  have hG : zG ad Ki.2 ad Ki.2 := zG.rf
  replace hf : (if Ki.2 0 = 0 then if 0 ≤ Ki.2 0 then some (Ki.2 0, (zinF F 0 (Ki.2 0) [0, 0, 0]), (zinB B 0 (Ki.2 0) (fun _ _ => 0)), (Ki.1, zinN Ki.2 0)) else none else none) = some (r, F9, B9, K9) := hf
  refine lv_aload_n hx hb d_2_1_0 rfl (lv_at hl 0 rfl) ?_
  refine W.objInit hx hb hown (hts _ k_1_37) (hts _ k_1_30) (hts _ k_1_31) rfl (by rw [hml]; exact hl.1) rfl d_2_1_1 (Nat.le_of_ble_eq_true rfl) (Nat.le_of_ble_eq_true rfl) ?_
  refine W.eq (g2 := F0 m 4 ls []) rfl ?_
  refine lv_aload_n hx hb d_2_1_4 rfl (lv_at hl 0 rfl) ?_
  refine lv_iload_n hx hb d_2_1_5 rfl (lv_at hl 1 rfl) ?_
  refine lv_iconst (v := iI 1) hx hb d_2_1_6 rfl ?_
  refine va_mmax hx hb (by rw [hml]; exact hl.1.symm) hown (hts _ k_1_38) (hts _ k_1_39) (hts _ k_1_3) (hts _ k_1_40) (Nat.le_of_ble_eq_true rfl) (Nat.le_of_ble_eq_true rfl) (Nat.le_of_ble_eq_true rfl) (Nat.le_of_ble_eq_true rfl) d_2_1_7 ?_
  rw [zmax_e (by decide) (by decide)]
  refine W.eq (g2 := F0 m 10 ls [.int (iI 3000), .ref a]) rfl ?_
  refine zxnewa (atype := .int) hx hb hts (ty := .int) rfl k_1_57 hK 0 rfl (fun _ _ => gu_int) hZ hS hA (a0 := (3000, .inl (zAr (fun _ => 0)))) (fun _ => rfl) (by decide) (N' := 3000) (by decide) (Nat.le_of_ble_eq_true rfl) (Nat.le_of_ble_eq_true rfl) (Nat.le_of_ble_eq_true rfl) d_2_1_10 (fun q1 H1 hZ1 hS1 => ?_)
  replace hZ1 : zHx D ca ad lnC Ki.2 L F B [(a, .inr (0, rg 3 (fun j => defaultValue (tyX0 j)))), (q1, .inl (ca 0, 3000, .inl (zAr (fun _ => 0))))] A H1 := hZ1
  refine W.widen (k := 1) (n := 3000) (Nat.le_of_ble_eq_true rfl) (Nat.le_of_ble_eq_true rfl) ?_
  refine zxputF hx hb hts inW_0 tyX0 tyX0_ok nmX0 hown hK hZ1 hS1 0 rfl rfl (k := 0) (by decide) k_1_41 rfl hnm rfl rfl rfl d_2_1_12 (fun H2 locs2 hZ2 hS2 => ?_)
  replace hZ2 : zHx D ca ad lnC Ki.2 L F B [(a, .inr (0, rg 3 (va_up (fun j => defaultValue (tyX0 j)) 0 (.ref q1)))), (q1, .inl (ca 0, 3000, .inl (zAr (fun _ => 0))))] A H2 := hZ2
  clear hZ1 hS1
  obtain ⟨g4, hf⟩ := gif hf
  obtain ⟨g5, hf⟩ := gif hf
  obtain ⟨ad3, L3, hZ3, hG3, hq3⟩ : ∃ ad' L', zH D ca ad' lnC (zinN Ki.2 0) L' (zinF F 0 (Ki.2 0) [0, 0, 0]) (zinB B 0 (Ki.2 0) (fun _ _ => 0)) A H2 ∧ zG ad Ki.2 ad' (zinN Ki.2 0) ∧ ad' 0 (Ki.2 0) 0 = a := ⟨_, _, ztake2 (c := 0) (n := 3) (l := [(0, a), (1, q1)]) (fi := [0, 0, 0]) (b := (fun _ _ => 0)) (a := a) (r2 := []) (r3 := [(0, 0)]) (r4 := []) hZ2 g5 (by decide +kernel) (by decide +kernel) (by decide +kernel) rfl (show 0 ∈ ([0, 1] : List Nat) by decide) (show zAll [(0, 0)] (fun x : Nat × Nat => x.1 + 1 ∈ ([0, 1] : List Nat)) from (And.intro (by decide) trivial)) (show zAll [] (fun x : Nat × Nat => x.1 + 1 ∈ ([0, 1] : List Nat)) from trivial) rfl rfl (List.mem_of_getElem? (i := 0) rfl) (And.intro rfl (And.intro rfl (And.intro rfl trivial))) (And.intro (List.mem_of_getElem? (i := 1) (by show _ = some (_, zRw ca ad (lnC 0 (Ki.2 0) 0) 0 _); rw [g4]; rfl)) trivial) trivial trivial (And.intro (fun h => absurd h (by decide)) trivial), hG.tr zinA_G, zinA_new⟩
  cases hf
  exact W.vret hx hb hr (fun t ht hW => ⟨⟨(ad3, L3), rfl, ⟨hG3, hq3⟩, by rw [ht]; exact hZ3, va_K.moved hW.alike hK⟩, hS2.F ht⟩) hS2.2.2 d_2_1_15 hlk

abbrev Q_ByteRow_init_1 (K : zK) (D : va_G) (ca : Nat → ClassId) (ad : Nat → Int → Nat → Nat) (a : Nat) (r : Int) (F : zF) (B : zB) (K9 : zK) (A : Nat → Prop) : Array Value → State → Outcome → State → Prop := va_Qv (S := (Nat → Int → Nat → Nat) × List Nat) (fun u => zG ad K.2 u.1 K9.2 ∧ u.1 0 r 0 = a) (fun u => zPo D ca u.1 lnC K9.2 u.2 F B A) A
def f_ByteRow_init_1 (Ki : zK) (F : zF) (B : zB) : zOm := if Ki.2 0 = 1 then if 0 ≤ Ki.2 0 then some (Ki.2 0, (zinF F 0 (Ki.2 0) [0, 0, 0]), (zinB B 0 (Ki.2 0) (fun _ _ => 0)), (Ki.1, zinN Ki.2 0)) else none else none
set_option maxHeartbeats 4000000 in
set_option maxRecDepth 100000 in
theorem c_ByteRow_init_1 {l : Launch} {D : va_G} {ca : Nat → ClassId} {ad : Nat → Int → Nat → Nat} {L : List Nat} {aS vS : Nat → Nat} {sz a : Nat} {Ki : zK} {F : zF} {B : zB} {r : Int} {F9 : zF} {B9 : zB} {K9 : zK} (hf : f_ByteRow_init_1 Ki F B = some (r, F9, B9, K9)) : Met l ({ cls := "StaveHouse$ByteRow", name := "<init>", desc := "(I)V" } : Jvm.MethodName) (Cond.code ({ cls := "StaveHouse$ByteRow", name := "<init>", desc := "(I)V" } : Jvm.MethodName) prog_2_method_1_code 2 (Option.none : Option Jvm.ClassFile.FieldType) :: wAll) ({ frames := 1, cells := 1, slots := 20480, locals := 14 } : Room) (va_Pc [.ref a, .int (iI 20480)] (zPreX D ca ad lnC Ki.2 L aS vS F B a (.inr (0, rg 3 (fun j => defaultValue (tyX0 j)))) sz)) (Q_ByteRow_init_1 Ki D ca ad a r F9 B9 K9 (zA (a :: L) sz)) 1 20480 (zA (a :: L) sz) := by
  refine zMetX (Qc := Q_ByteRow_init_1 Ki D ca ad a r F9 B9 K9) (lv := [(0, .ref a), (1, .int (iI 20480))]) (by decide) (Nat.le_of_ble_eq_true rfl) rfl (fun A p e s m below meth c ls X hnm hZ hS hl => ?_)
  obtain ⟨hx, hb, hr, hml, hown, hts, hlk, hK, hA, hL, hX⟩ := id X
  replace hnm : meth.name = "<init>" := hnm
  have hG : zG ad Ki.2 ad Ki.2 := zG.rf
  replace hf : (if Ki.2 0 = 1 then if 0 ≤ Ki.2 0 then some (Ki.2 0, (zinF F 0 (Ki.2 0) [0, 0, 0]), (zinB B 0 (Ki.2 0) (fun _ _ => 0)), (Ki.1, zinN Ki.2 0)) else none else none) = some (r, F9, B9, K9) := hf
  refine lv_aload_n hx hb d_2_1_0 rfl (lv_at hl 0 rfl) ?_
  refine W.objInit hx hb hown (hts _ k_1_37) (hts _ k_1_30) (hts _ k_1_31) rfl (by rw [hml]; exact hl.1) rfl d_2_1_1 (Nat.le_of_ble_eq_true rfl) (Nat.le_of_ble_eq_true rfl) ?_
  refine W.eq (g2 := F0 m 4 ls []) rfl ?_
  refine lv_aload_n hx hb d_2_1_4 rfl (lv_at hl 0 rfl) ?_
  refine lv_iload_n hx hb d_2_1_5 rfl (lv_at hl 1 rfl) ?_
  refine lv_iconst (v := iI 1) hx hb d_2_1_6 rfl ?_
  refine va_mmax hx hb (by rw [hml]; exact hl.1.symm) hown (hts _ k_1_38) (hts _ k_1_39) (hts _ k_1_3) (hts _ k_1_40) (Nat.le_of_ble_eq_true rfl) (Nat.le_of_ble_eq_true rfl) (Nat.le_of_ble_eq_true rfl) (Nat.le_of_ble_eq_true rfl) d_2_1_7 ?_
  rw [zmax_e (by decide) (by decide)]
  refine W.eq (g2 := F0 m 10 ls [.int (iI 20480), .ref a]) rfl ?_
  refine zxnewa (atype := .int) hx hb hts (ty := .int) rfl k_1_57 hK 0 rfl (fun _ _ => gu_int) hZ hS hA (a0 := (20480, .inl (zAr (fun _ => 0)))) (fun _ => rfl) (by decide) (N' := 20480) (by decide) (Nat.le_of_ble_eq_true rfl) (Nat.le_of_ble_eq_true rfl) (Nat.le_of_ble_eq_true rfl) d_2_1_10 (fun q1 H1 hZ1 hS1 => ?_)
  replace hZ1 : zHx D ca ad lnC Ki.2 L F B [(a, .inr (0, rg 3 (fun j => defaultValue (tyX0 j)))), (q1, .inl (ca 0, 20480, .inl (zAr (fun _ => 0))))] A H1 := hZ1
  refine W.widen (k := 1) (n := 20480) (Nat.le_of_ble_eq_true rfl) (Nat.le_of_ble_eq_true rfl) ?_
  refine zxputF hx hb hts inW_0 tyX0 tyX0_ok nmX0 hown hK hZ1 hS1 0 rfl rfl (k := 0) (by decide) k_1_41 rfl hnm rfl rfl rfl d_2_1_12 (fun H2 locs2 hZ2 hS2 => ?_)
  replace hZ2 : zHx D ca ad lnC Ki.2 L F B [(a, .inr (0, rg 3 (va_up (fun j => defaultValue (tyX0 j)) 0 (.ref q1)))), (q1, .inl (ca 0, 20480, .inl (zAr (fun _ => 0))))] A H2 := hZ2
  clear hZ1 hS1
  obtain ⟨g4, hf⟩ := gif hf
  obtain ⟨g5, hf⟩ := gif hf
  obtain ⟨ad3, L3, hZ3, hG3, hq3⟩ : ∃ ad' L', zH D ca ad' lnC (zinN Ki.2 0) L' (zinF F 0 (Ki.2 0) [0, 0, 0]) (zinB B 0 (Ki.2 0) (fun _ _ => 0)) A H2 ∧ zG ad Ki.2 ad' (zinN Ki.2 0) ∧ ad' 0 (Ki.2 0) 0 = a := ⟨_, _, ztake2 (c := 0) (n := 3) (l := [(0, a), (1, q1)]) (fi := [0, 0, 0]) (b := (fun _ _ => 0)) (a := a) (r2 := []) (r3 := [(0, 0)]) (r4 := []) hZ2 g5 (by decide +kernel) (by decide +kernel) (by decide +kernel) rfl (show 0 ∈ ([0, 1] : List Nat) by decide) (show zAll [(0, 0)] (fun x : Nat × Nat => x.1 + 1 ∈ ([0, 1] : List Nat)) from (And.intro (by decide) trivial)) (show zAll [] (fun x : Nat × Nat => x.1 + 1 ∈ ([0, 1] : List Nat)) from trivial) rfl rfl (List.mem_of_getElem? (i := 0) rfl) (And.intro rfl (And.intro rfl (And.intro rfl trivial))) (And.intro (List.mem_of_getElem? (i := 1) (by show _ = some (_, zRw ca ad (lnC 0 (Ki.2 0) 0) 0 _); rw [g4]; rfl)) trivial) trivial trivial (And.intro (fun h => absurd h (by decide)) trivial), hG.tr zinA_G, zinA_new⟩
  cases hf
  exact W.vret hx hb hr (fun t ht hW => ⟨⟨(ad3, L3), rfl, ⟨hG3, hq3⟩, by rw [ht]; exact hZ3, va_K.moved hW.alike hK⟩, hS2.F ht⟩) hS2.2.2 d_2_1_15 hlk

abbrev Q_S_init (K : zK) (D : va_G) (ca : Nat → ClassId) (ad : Nat → Int → Nat → Nat) (a : Nat) (r : Int) (F : zF) (B : zB) (K9 : zK) (A : Nat → Prop) : Array Value → State → Outcome → State → Prop := va_Qv (S := (Nat → Int → Nat → Nat) × List Nat) (fun u => zG ad K.2 u.1 K9.2 ∧ u.1 12 r 0 = a) (fun u => zPo D ca u.1 lnC K9.2 u.2 F B A) A
def f_S_init (Ki : zK) (F : zF) (B : zB) : zOm := zbindM (f_ByteRow_init_0 Ki F B) (fun r1 F1 B1 K1 => if 0 ≤ r1 ∧ r1 < K1.2 0 then zbindM (f_ByteRow_init_1 K1 F1 B1) (fun r6 F6 B6 K6 => if 0 ≤ r1 ∧ r1 < K6.2 0 then if 0 ≤ r6 ∧ r6 < K6.2 0 then zbindM (f_Parser_init K6 F6 B6) (fun r12 F12 B12 K12 => if 0 ≤ r1 ∧ r1 < K12.2 0 then if 0 ≤ r6 ∧ r6 < K12.2 0 then if 0 ≤ r12 ∧ r12 < K12.2 3 then zbindM (f_Walker_init K12 F12 B12) (fun r17 F17 B17 K17 => if 0 ≤ r1 ∧ r1 < K17.2 0 then if 0 ≤ r6 ∧ r6 < K17.2 0 then if 0 ≤ r12 ∧ r12 < K17.2 3 then if 0 ≤ r17 ∧ r17 < K17.2 11 then zbindM (f_Scribe_init K17 F17 B17) (fun r23 F23 B23 K23 => if 0 ≤ K23.2 12 then if r1 < K23.2 0 then if r6 < K23.2 0 then if r12 < K23.2 3 then if r17 < K23.2 11 then if r23 < K23.2 7 then if (-1 : Int) < K23.2 6 then if (-1 : Int) < K23.2 8 then if 0 ≤ r1 ∧ r1 < K23.2 0 then if 0 ≤ r6 ∧ r6 < K23.2 0 then if 0 ≤ r12 ∧ r12 < K23.2 3 then if 0 ≤ r17 ∧ r17 < K23.2 11 then if 0 ≤ r23 ∧ r23 < K23.2 7 then some (K23.2 12, (zinF F23 12 (K23.2 12) [r1, 0, r6, 0, r12, r17, r23, (-1), (-1), (-1)]), (zinB B23 12 (K23.2 12) (fun k _ => if k = 3 then -1 else 0)), (K23.1, zinN K23.2 12)) else none else none else none else none else none else none else none else none else none else none else none else none else none) else none else none else none else none) else none else none else none) else none else none) else none)
set_option maxHeartbeats 4000000 in
set_option maxRecDepth 100000 in
theorem c_S_init {l : Launch} {D : va_G} {ca : Nat → ClassId} {ad : Nat → Int → Nat → Nat} {L : List Nat} {aS vS : Nat → Nat} {sz a : Nat} {Ki : zK} {F : zF} {B : zB} {r : Int} {F9 : zF} {B9 : zB} {K9 : zK} (hf : f_S_init Ki F B = some (r, F9, B9, K9)) : Met l ({ cls := "StaveHouse", name := "<init>", desc := "()V" } : Jvm.MethodName) (Cond.code ({ cls := "StaveHouse", name := "<init>", desc := "()V" } : Jvm.MethodName) prog_1_method_1_code 1 (Option.none : Option Jvm.ClassFile.FieldType) :: wAll) ({ frames := 3, cells := 34, slots := 61432, locals := 52 } : Room) (va_Pc [.ref a] (zPreX D ca ad lnC Ki.2 L aS vS F B a (.inr (12, rg 10 (fun j => defaultValue (tyX12 j)))) sz)) (Q_S_init Ki D ca ad a r F9 B9 K9 (zA (a :: L) sz)) 34 61432 (zA (a :: L) sz) := by
  refine zMetX (Qc := Q_S_init Ki D ca ad a r F9 B9 K9) (lv := [(0, .ref a)]) (by decide) (Nat.le_of_ble_eq_true rfl) rfl (fun A p e s m below meth c ls X hnm hZ hS hl => ?_)
  obtain ⟨hx, hb, hr, hml, hown, hts, hlk, hK, hA, hL, hX⟩ := id X
  replace hnm : meth.name = "<init>" := hnm
  have hG : zG ad Ki.2 ad Ki.2 := zG.rf
  replace hf : (zbindM (f_ByteRow_init_0 Ki F B) (fun r1 F1 B1 K1 => if 0 ≤ r1 ∧ r1 < K1.2 0 then zbindM (f_ByteRow_init_1 K1 F1 B1) (fun r6 F6 B6 K6 => if 0 ≤ r1 ∧ r1 < K6.2 0 then if 0 ≤ r6 ∧ r6 < K6.2 0 then zbindM (f_Parser_init K6 F6 B6) (fun r12 F12 B12 K12 => if 0 ≤ r1 ∧ r1 < K12.2 0 then if 0 ≤ r6 ∧ r6 < K12.2 0 then if 0 ≤ r12 ∧ r12 < K12.2 3 then zbindM (f_Walker_init K12 F12 B12) (fun r17 F17 B17 K17 => if 0 ≤ r1 ∧ r1 < K17.2 0 then if 0 ≤ r6 ∧ r6 < K17.2 0 then if 0 ≤ r12 ∧ r12 < K17.2 3 then if 0 ≤ r17 ∧ r17 < K17.2 11 then zbindM (f_Scribe_init K17 F17 B17) (fun r23 F23 B23 K23 => if 0 ≤ K23.2 12 then if r1 < K23.2 0 then if r6 < K23.2 0 then if r12 < K23.2 3 then if r17 < K23.2 11 then if r23 < K23.2 7 then if (-1 : Int) < K23.2 6 then if (-1 : Int) < K23.2 8 then if 0 ≤ r1 ∧ r1 < K23.2 0 then if 0 ≤ r6 ∧ r6 < K23.2 0 then if 0 ≤ r12 ∧ r12 < K23.2 3 then if 0 ≤ r17 ∧ r17 < K23.2 11 then if 0 ≤ r23 ∧ r23 < K23.2 7 then some (K23.2 12, (zinF F23 12 (K23.2 12) [r1, 0, r6, 0, r12, r17, r23, (-1), (-1), (-1)]), (zinB B23 12 (K23.2 12) (fun k _ => if k = 3 then -1 else 0)), (K23.1, zinN K23.2 12)) else none else none else none else none else none else none else none else none else none else none else none else none else none) else none else none else none else none) else none else none else none) else none else none) else none)) = some (r, F9, B9, K9) := hf
  refine lv_aload_n hx hb d_1_1_0 rfl (lv_at hl 0 rfl) ?_
  refine W.objInit hx hb hown (hts _ k_1_29) (hts _ k_1_30) (hts _ k_1_31) rfl (by rw [hml]; exact hl.1) rfl d_1_1_1 (Nat.le_of_ble_eq_true rfl) (Nat.le_of_ble_eq_true rfl) ?_
  refine W.eq (g2 := F0 m 4 ls []) rfl ?_
  refine lv_aload_n hx hb d_1_1_4 rfl (lv_at hl 0 rfl) ?_
  obtain ⟨r1, F1, B1, K1, hc1, hf⟩ := gbindM hf
  refine zxnew (C := RX0) (T := TX0) (n := 3) (ci := 0) hx hb hts inW_0 tyX0 tyX0_ok hown k_1_32 k_1_33 k_1_2 hK hZ hS hA rfl (Nat.le_of_ble_eq_true rfl) (Nat.le_of_ble_eq_true rfl) d_1_1_5 (fun q1 Hn1 hZn1 hSn1 => ?_)
  refine W.widen (k := 1) (n := 3) (Nat.le_of_ble_eq_true rfl) (Nat.le_of_ble_eq_true rfl) ?_
  refine lv_dup hx hb d_1_1_8 rfl ?_
  refine lv_sipush (v := iI 3000) hx hb d_1_1_9 (by decide) ?_
  refine va_callv (va_runI (As := [.int (iI 3000)]) (rest := .ref q1 :: [.ref a]) ⟨hx, hb, hml, hown, hts⟩ (c_ByteRow_init_0 (l := l) hc1) (cwI 1 hts (gdC k_1_36) rfl rfl rfl (hts _ k_1_2) (hts _ k_1_34) (hts _ k_1_35) rfl (by decide +kernel) ⟨(Nat.le_of_ble_eq_true rfl), (Nat.le_of_ble_eq_true rfl)⟩) (zxPS X hZn1 hSn1 [.ref q1, .int (iI 3000)]) rfl rfl hl.1 rfl (lv_room (Nat.le_of_ble_eq_true rfl)) d_1_1_12 ⟨(Nat.le_of_ble_eq_true rfl), (Nat.le_of_ble_eq_true rfl)⟩) hSn1 (fun x _ h => zxAin X hZn1 hSn1 x h) (zxAin X hZn1 hSn1) (fun u1 t1 H1 locs1 ht1 hv1 hu1 hB1 hz1 hk1 hS1 => ?_)
  obtain ⟨ad1, L1⟩ := u1
  obtain ⟨hg1, hq1⟩ := hu1
  have hZ1 := zxback hZn1 (zxAin X hZn1 hSn1) hk1 ht1 hB1
  replace hq1 : ad1 0 r1 0 = q1 := hq1
  have X1 := X.grow (fun z hz => hZ1.inA z (List.mem_append.mpr (Or.inr hz)))
  have hG1 := hG.tr hg1
  replace hZ1 : zHx D ca ad1 lnC K1.2 L1 F1 B1 [(a, .inr (12, rg 10 (fun j => defaultValue (tyX12 j))))] A H1 := hZ1
  refine W.widen (k := 2) (n := 3003) (Nat.le_of_ble_eq_true rfl) (Nat.le_of_ble_eq_true rfl) ?_
  refine zxputF hx hb hts inW_12 tyX12 tyX12_ok nmX12 hown hK hZ1 hS1 0 rfl rfl (k := 0) (by decide) k_2_127 rfl hnm rfl rfl rfl d_1_1_15 (fun H2 locs2 hZ2 hS2 => ?_)
  replace hZ2 : zHx D ca ad1 lnC K1.2 L1 F1 B1 [(a, .inr (12, rg 10 (va_up (fun j => defaultValue (tyX12 j)) 0 (.ref q1))))] A H2 := hZ2
  clear hZ1 hS1
  refine lv_aload_n hx hb d_1_1_18 rfl (lv_at hl 0 rfl) ?_
  refine lv_bipush (v := iI 20) hx hb d_1_1_19 (by decide) ?_
  refine zxnewa (atype := .int) hx hb hts (ty := .int) rfl k_1_57 hK 0 rfl (fun _ _ => gu_int) hZ2 hS2 hA (a0 := (20, .inl (zAr (fun _ => 0)))) (fun _ => rfl) (by decide) (N' := 20) (by decide) (Nat.le_of_ble_eq_true rfl) (Nat.le_of_ble_eq_true rfl) (Nat.le_of_ble_eq_true rfl) d_1_1_21 (fun q3 H3 hZ3 hS3 => ?_)
  replace hZ3 : zHx D ca ad1 lnC K1.2 L1 F1 B1 [(a, .inr (12, rg 10 (va_up (fun j => defaultValue (tyX12 j)) 0 (.ref q1)))), (q3, .inl (ca 0, 20, .inl (zAr (fun _ => 0))))] A H3 := hZ3
  clear hZ2 hS2
  refine W.widen (k := 3) (n := 3023) (Nat.le_of_ble_eq_true rfl) (Nat.le_of_ble_eq_true rfl) ?_
  refine zxputF hx hb hts inW_12 tyX12 tyX12_ok nmX12 hown hK hZ3 hS3 0 rfl rfl (k := 1) (by decide) k_2_128 rfl hnm rfl rfl rfl d_1_1_23 (fun H4 locs4 hZ4 hS4 => ?_)
  replace hZ4 : zHx D ca ad1 lnC K1.2 L1 F1 B1 [(a, .inr (12, rg 10 (va_up (va_up (fun j => defaultValue (tyX12 j)) 0 (.ref q1)) 1 (.ref q3)))), (q3, .inl (ca 0, 20, .inl (zAr (fun _ => 0))))] A H4 := hZ4
  clear hZ3 hS3
  refine lv_aload_n hx hb d_1_1_26 rfl (lv_at hl 0 rfl) ?_
  obtain ⟨g5, hf⟩ := gif hf
  obtain ⟨r6, F6, B6, K6, hc6, hf⟩ := gbindM hf
  refine zxnew (C := RX0) (T := TX0) (n := 3) (ci := 0) hx hb hts inW_0 tyX0 tyX0_ok hown k_1_32 k_1_33 k_1_2 hK hZ4 hS4 hA rfl (Nat.le_of_ble_eq_true rfl) (Nat.le_of_ble_eq_true rfl) d_1_1_27 (fun q6 Hn6 hZn6 hSn6 => ?_)
  refine W.widen (k := 4) (n := 3026) (Nat.le_of_ble_eq_true rfl) (Nat.le_of_ble_eq_true rfl) ?_
  refine lv_dup hx hb d_1_1_30 rfl ?_
  refine lv_sipush (v := iI 20480) hx hb d_1_1_31 (by decide) ?_
  refine va_callv (va_runI (As := [.int (iI 20480)]) (rest := .ref q6 :: [.ref a]) ⟨hx, hb, hml, hown, hts⟩ (c_ByteRow_init_1 (l := l) hc6) (cwI 1 hts (gdC k_1_36) rfl rfl rfl (hts _ k_1_2) (hts _ k_1_34) (hts _ k_1_35) rfl (by decide +kernel) ⟨(Nat.le_of_ble_eq_true rfl), (Nat.le_of_ble_eq_true rfl)⟩) (zxPS X1 hZn6 hSn6 [.ref q6, .int (iI 20480)]) rfl rfl hl.1 rfl (lv_room (Nat.le_of_ble_eq_true rfl)) d_1_1_34 ⟨(Nat.le_of_ble_eq_true rfl), (Nat.le_of_ble_eq_true rfl)⟩) hSn6 (fun x _ h => zxAin X1 hZn6 hSn6 x h) (zxAin X1 hZn6 hSn6) (fun u6 t6 H6 locs6 ht6 hv6 hu6 hB6 hz6 hk6 hS6 => ?_)
  obtain ⟨ad6, L6⟩ := u6
  obtain ⟨hg6, hq6⟩ := hu6
  have hZ6 := zxback hZn6 (zxAin X1 hZn6 hSn6) hk6 ht6 hB6
  replace hq6 : ad6 0 r6 0 = q6 := hq6
  have hq1_6 : ad6 0 r1 0 = q1 := (hg6.2 _ _ _ g5.1 g5.2).trans hq1
  have X6 := X1.grow (fun z hz => hZ6.inA z (List.mem_append.mpr (Or.inr hz)))
  have hG6 := hG1.tr hg6
  replace hZ6 : zHx D ca ad6 lnC K6.2 L6 F6 B6 [(a, .inr (12, rg 10 (va_up (va_up (fun j => defaultValue (tyX12 j)) 0 (.ref q1)) 1 (.ref q3)))), (q3, .inl (ca 0, 20, .inl (zAr (fun _ => 0))))] A H6 := hZ6
  clear hZ4 hS4
  refine W.widen (k := 5) (n := 23506) (Nat.le_of_ble_eq_true rfl) (Nat.le_of_ble_eq_true rfl) ?_
  refine zxputF hx hb hts inW_12 tyX12 tyX12_ok nmX12 hown hK hZ6 hS6 0 rfl rfl (k := 2) (by decide) k_2_129 rfl hnm rfl rfl rfl d_1_1_37 (fun H7 locs7 hZ7 hS7 => ?_)
  replace hZ7 : zHx D ca ad6 lnC K6.2 L6 F6 B6 [(a, .inr (12, rg 10 (va_up (va_up (va_up (fun j => defaultValue (tyX12 j)) 0 (.ref q1)) 1 (.ref q3)) 2 (.ref q6)))), (q3, .inl (ca 0, 20, .inl (zAr (fun _ => 0))))] A H7 := hZ7
  clear hZ6 hS6
  refine lv_aload_n hx hb d_1_1_40 rfl (lv_at hl 0 rfl) ?_
  refine lv_iconst (v := iI 2) hx hb d_1_1_41 rfl ?_
  refine zxnewq hx hb hts hown k_1_58 (hX.2.1 _ (List.mem_of_getElem? (i := 0) rfl) :) hK 4 rfl hZ7 hS7 hA (by decide) (N' := 2) (by decide) (Nat.le_of_ble_eq_true rfl) (Nat.le_of_ble_eq_true rfl) (Nat.le_of_ble_eq_true rfl) d_1_1_42 (fun q8 H8 hZ8 hS8 => ?_)
  replace hZ8 : zHx D ca ad6 lnC K6.2 L6 F6 B6 [(a, .inr (12, rg 10 (va_up (va_up (va_up (fun j => defaultValue (tyX12 j)) 0 (.ref q1)) 1 (.ref q3)) 2 (.ref q6)))), (q3, .inl (ca 0, 20, .inl (zAr (fun _ => 0)))), (q8, .inl (ca 4, 2, .inr (.inr (.inr (.inr (fun _ => none))))))] A H8 := hZ8
  clear hZ7 hS7
  refine W.widen (k := 6) (n := 23508) (Nat.le_of_ble_eq_true rfl) (Nat.le_of_ble_eq_true rfl) ?_
  refine zxputF hx hb hts inW_12 tyX12 tyX12_ok nmX12 hown hK hZ8 hS8 0 rfl rfl (k := 3) (by decide) k_2_130 rfl hnm rfl rfl rfl d_1_1_45 (fun H9 locs9 hZ9 hS9 => ?_)
  replace hZ9 : zHx D ca ad6 lnC K6.2 L6 F6 B6 [(a, .inr (12, rg 10 (va_up (va_up (va_up (va_up (fun j => defaultValue (tyX12 j)) 0 (.ref q1)) 1 (.ref q3)) 2 (.ref q6)) 3 (.ref q8)))), (q3, .inl (ca 0, 20, .inl (zAr (fun _ => 0)))), (q8, .inl (ca 4, 2, .inr (.inr (.inr (.inr (fun _ => none))))))] A H9 := hZ9
  clear hZ8 hS8
  refine lv_aload_n hx hb d_1_1_48 rfl (lv_at hl 0 rfl) ?_
  obtain ⟨g10, hf⟩ := gif hf
  obtain ⟨g11, hf⟩ := gif hf
  obtain ⟨r12, F12, B12, K12, hc12, hf⟩ := gbindM hf
  refine zxnew (C := RX3) (T := TX3) (n := 22) (ci := 3) hx hb hts inW_3 tyX3 tyX3_ok hown k_1_60 k_1_61 k_1_4 hK hZ9 hS9 hA rfl (Nat.le_of_ble_eq_true rfl) (Nat.le_of_ble_eq_true rfl) d_1_1_49 (fun q12 Hn12 hZn12 hSn12 => ?_)
  refine W.widen (k := 7) (n := 23530) (Nat.le_of_ble_eq_true rfl) (Nat.le_of_ble_eq_true rfl) ?_
  refine lv_dup hx hb d_1_1_52 rfl ?_
  refine va_callv (va_runIN (As := []) (rest := .ref q12 :: [.ref a]) ⟨hx, hb, hml, hown, hts⟩ (c_Parser_init (l := l) hc12) ⟨va_cnB 0 hts (gdC k_1_64) rfl rfl rfl (hX.1 _ (List.mem_of_getElem? (i := 0) rfl) :) (hts _ k_1_4) (by decide +kernel) ⟨(Nat.le_of_ble_eq_true rfl), (Nat.le_of_ble_eq_true rfl)⟩, rfl, hts _ k_1_63⟩ (zxPS X6 hZn12 hSn12 [.ref q12]) rfl rfl hl.1 rfl (lv_room (Nat.le_of_ble_eq_true rfl)) d_1_1_53 ⟨(Nat.le_of_ble_eq_true rfl), (Nat.le_of_ble_eq_true rfl)⟩) hSn12 (fun x _ h => zxAin X6 hZn12 hSn12 x h) (zxAin X6 hZn12 hSn12) (fun u12 t12 H12 locs12 ht12 hv12 hu12 hB12 hz12 hk12 hS12 => ?_)
  obtain ⟨ad12, L12⟩ := u12
  obtain ⟨hg12, hq12⟩ := hu12
  have hZ12 := zxback hZn12 (zxAin X6 hZn12 hSn12) hk12 ht12 hB12
  replace hq12 : ad12 3 r12 0 = q12 := hq12
  have hq1_6_12 : ad12 0 r1 0 = q1 := (hg12.2 _ _ _ g10.1 g10.2).trans hq1_6
  have hq6_12 : ad12 0 r6 0 = q6 := (hg12.2 _ _ _ g11.1 g11.2).trans hq6
  have X12 := X6.grow (fun z hz => hZ12.inA z (List.mem_append.mpr (Or.inr hz)))
  have hG12 := hG6.tr hg12
  replace hZ12 : zHx D ca ad12 lnC K12.2 L12 F12 B12 [(a, .inr (12, rg 10 (va_up (va_up (va_up (va_up (fun j => defaultValue (tyX12 j)) 0 (.ref q1)) 1 (.ref q3)) 2 (.ref q6)) 3 (.ref q8)))), (q3, .inl (ca 0, 20, .inl (zAr (fun _ => 0)))), (q8, .inl (ca 4, 2, .inr (.inr (.inr (.inr (fun _ => none))))))] A H12 := hZ12
  clear hZ9 hS9
  refine W.widen (k := 24) (n := 61054) (Nat.le_of_ble_eq_true rfl) (Nat.le_of_ble_eq_true rfl) ?_
  refine zxputF hx hb hts inW_12 tyX12 tyX12_ok nmX12 hown hK hZ12 hS12 0 rfl rfl (k := 4) (by decide) k_2_131 rfl hnm rfl rfl rfl d_1_1_56 (fun H13 locs13 hZ13 hS13 => ?_)
  replace hZ13 : zHx D ca ad12 lnC K12.2 L12 F12 B12 [(a, .inr (12, rg 10 (va_up (va_up (va_up (va_up (va_up (fun j => defaultValue (tyX12 j)) 0 (.ref q1)) 1 (.ref q3)) 2 (.ref q6)) 3 (.ref q8)) 4 (.ref q12)))), (q3, .inl (ca 0, 20, .inl (zAr (fun _ => 0)))), (q8, .inl (ca 4, 2, .inr (.inr (.inr (.inr (fun _ => none))))))] A H13 := hZ13
  clear hZ12 hS12
  refine lv_aload_n hx hb d_1_1_59 rfl (lv_at hl 0 rfl) ?_
  obtain ⟨g14, hf⟩ := gif hf
  obtain ⟨g15, hf⟩ := gif hf
  obtain ⟨g16, hf⟩ := gif hf
  obtain ⟨r17, F17, B17, K17, hc17, hf⟩ := gbindM hf
  refine zxnew (C := RX11) (T := TX11) (n := 19) (ci := 11) hx hb hts inW_11 tyX11 tyX11_ok hown k_1_184 k_1_185 k_1_6 hK hZ13 hS13 hA rfl (Nat.le_of_ble_eq_true rfl) (Nat.le_of_ble_eq_true rfl) d_1_1_60 (fun q17 Hn17 hZn17 hSn17 => ?_)
  refine W.widen (k := 25) (n := 61073) (Nat.le_of_ble_eq_true rfl) (Nat.le_of_ble_eq_true rfl) ?_
  refine lv_dup hx hb d_1_1_63 rfl ?_
  refine va_callv (va_runIN (As := []) (rest := .ref q17 :: [.ref a]) ⟨hx, hb, hml, hown, hts⟩ (c_Walker_init (l := l) hc17) ⟨va_cnB 0 hts (gdC k_1_188) rfl rfl rfl (hX.1 _ (List.mem_of_getElem? (i := 2) rfl) :) (hts _ k_1_6) (by decide +kernel) ⟨(Nat.le_of_ble_eq_true rfl), (Nat.le_of_ble_eq_true rfl)⟩, rfl, hts _ k_1_187⟩ (zxPS X12 hZn17 hSn17 [.ref q17]) rfl rfl hl.1 rfl (lv_room (Nat.le_of_ble_eq_true rfl)) d_1_1_64 ⟨(Nat.le_of_ble_eq_true rfl), (Nat.le_of_ble_eq_true rfl)⟩) hSn17 (fun x _ h => zxAin X12 hZn17 hSn17 x h) (zxAin X12 hZn17 hSn17) (fun u17 t17 H17 locs17 ht17 hv17 hu17 hB17 hz17 hk17 hS17 => ?_)
  obtain ⟨ad17, L17⟩ := u17
  obtain ⟨hg17, hq17⟩ := hu17
  have hZ17 := zxback hZn17 (zxAin X12 hZn17 hSn17) hk17 ht17 hB17
  replace hq17 : ad17 11 r17 0 = q17 := hq17
  have hq1_6_12_17 : ad17 0 r1 0 = q1 := (hg17.2 _ _ _ g14.1 g14.2).trans hq1_6_12
  have hq6_12_17 : ad17 0 r6 0 = q6 := (hg17.2 _ _ _ g15.1 g15.2).trans hq6_12
  have hq12_17 : ad17 3 r12 0 = q12 := (hg17.2 _ _ _ g16.1 g16.2).trans hq12
  have X17 := X12.grow (fun z hz => hZ17.inA z (List.mem_append.mpr (Or.inr hz)))
  have hG17 := hG12.tr hg17
  replace hZ17 : zHx D ca ad17 lnC K17.2 L17 F17 B17 [(a, .inr (12, rg 10 (va_up (va_up (va_up (va_up (va_up (fun j => defaultValue (tyX12 j)) 0 (.ref q1)) 1 (.ref q3)) 2 (.ref q6)) 3 (.ref q8)) 4 (.ref q12)))), (q3, .inl (ca 0, 20, .inl (zAr (fun _ => 0)))), (q8, .inl (ca 4, 2, .inr (.inr (.inr (.inr (fun _ => none))))))] A H17 := hZ17
  clear hZ13 hS13
  refine W.widen (k := 29) (n := 61269) (Nat.le_of_ble_eq_true rfl) (Nat.le_of_ble_eq_true rfl) ?_
  refine zxputF hx hb hts inW_12 tyX12 tyX12_ok nmX12 hown hK hZ17 hS17 0 rfl rfl (k := 5) (by decide) k_2_132 rfl hnm rfl rfl rfl d_1_1_67 (fun H18 locs18 hZ18 hS18 => ?_)
  replace hZ18 : zHx D ca ad17 lnC K17.2 L17 F17 B17 [(a, .inr (12, rg 10 (va_up (va_up (va_up (va_up (va_up (va_up (fun j => defaultValue (tyX12 j)) 0 (.ref q1)) 1 (.ref q3)) 2 (.ref q6)) 3 (.ref q8)) 4 (.ref q12)) 5 (.ref q17)))), (q3, .inl (ca 0, 20, .inl (zAr (fun _ => 0)))), (q8, .inl (ca 4, 2, .inr (.inr (.inr (.inr (fun _ => none))))))] A H18 := hZ18
  clear hZ17 hS17
  refine lv_aload_n hx hb d_1_1_70 rfl (lv_at hl 0 rfl) ?_
  obtain ⟨g19, hf⟩ := gif hf
  obtain ⟨g20, hf⟩ := gif hf
  obtain ⟨g21, hf⟩ := gif hf
  obtain ⟨g22, hf⟩ := gif hf
  obtain ⟨r23, F23, B23, K23, hc23, hf⟩ := gbindM hf
  refine zxnew (C := RX7) (T := TX7) (n := 9) (ci := 7) hx hb hts inW_7 tyX7 tyX7_ok hown k_2_8 k_2_9 k_1_7 hK hZ18 hS18 hA rfl (Nat.le_of_ble_eq_true rfl) (Nat.le_of_ble_eq_true rfl) d_1_1_71 (fun q23 Hn23 hZn23 hSn23 => ?_)
  refine W.widen (k := 30) (n := 61278) (Nat.le_of_ble_eq_true rfl) (Nat.le_of_ble_eq_true rfl) ?_
  refine lv_dup hx hb d_1_1_74 rfl ?_
  refine va_callv (va_runIN (As := []) (rest := .ref q23 :: [.ref a]) ⟨hx, hb, hml, hown, hts⟩ (c_Scribe_init (l := l) hc23) ⟨va_cnB 0 hts (gdC k_2_12) rfl rfl rfl (hX.1 _ (List.mem_of_getElem? (i := 3) rfl) :) (hts _ k_1_7) (by decide +kernel) ⟨(Nat.le_of_ble_eq_true rfl), (Nat.le_of_ble_eq_true rfl)⟩, rfl, hts _ k_2_11⟩ (zxPS X17 hZn23 hSn23 [.ref q23]) rfl rfl hl.1 rfl (lv_room (Nat.le_of_ble_eq_true rfl)) d_1_1_75 ⟨(Nat.le_of_ble_eq_true rfl), (Nat.le_of_ble_eq_true rfl)⟩) hSn23 (fun x _ h => zxAin X17 hZn23 hSn23 x h) (zxAin X17 hZn23 hSn23) (fun u23 t23 H23 locs23 ht23 hv23 hu23 hB23 hz23 hk23 hS23 => ?_)
  obtain ⟨ad23, L23⟩ := u23
  obtain ⟨hg23, hq23⟩ := hu23
  have hZ23 := zxback hZn23 (zxAin X17 hZn23 hSn23) hk23 ht23 hB23
  replace hq23 : ad23 7 r23 0 = q23 := hq23
  have hq1_6_12_17_23 : ad23 0 r1 0 = q1 := (hg23.2 _ _ _ g19.1 g19.2).trans hq1_6_12_17
  have hq6_12_17_23 : ad23 0 r6 0 = q6 := (hg23.2 _ _ _ g20.1 g20.2).trans hq6_12_17
  have hq12_17_23 : ad23 3 r12 0 = q12 := (hg23.2 _ _ _ g21.1 g21.2).trans hq12_17
  have hq17_23 : ad23 11 r17 0 = q17 := (hg23.2 _ _ _ g22.1 g22.2).trans hq17
  have X23 := X17.grow (fun z hz => hZ23.inA z (List.mem_append.mpr (Or.inr hz)))
  have hG23 := hG17.tr hg23
  replace hZ23 : zHx D ca ad23 lnC K23.2 L23 F23 B23 [(a, .inr (12, rg 10 (va_up (va_up (va_up (va_up (va_up (va_up (fun j => defaultValue (tyX12 j)) 0 (.ref q1)) 1 (.ref q3)) 2 (.ref q6)) 3 (.ref q8)) 4 (.ref q12)) 5 (.ref q17)))), (q3, .inl (ca 0, 20, .inl (zAr (fun _ => 0)))), (q8, .inl (ca 4, 2, .inr (.inr (.inr (.inr (fun _ => none))))))] A H23 := hZ23
  clear hZ18 hS18
  refine W.widen (k := 34) (n := 61432) (Nat.le_of_ble_eq_true rfl) (Nat.le_of_ble_eq_true rfl) ?_
  refine zxputF hx hb hts inW_12 tyX12 tyX12_ok nmX12 hown hK hZ23 hS23 0 rfl rfl (k := 6) (by decide) k_2_133 rfl hnm rfl rfl rfl d_1_1_78 (fun H24 locs24 hZ24 hS24 => ?_)
  replace hZ24 : zHx D ca ad23 lnC K23.2 L23 F23 B23 [(a, .inr (12, rg 10 (va_up (va_up (va_up (va_up (va_up (va_up (va_up (fun j => defaultValue (tyX12 j)) 0 (.ref q1)) 1 (.ref q3)) 2 (.ref q6)) 3 (.ref q8)) 4 (.ref q12)) 5 (.ref q17)) 6 (.ref q23)))), (q3, .inl (ca 0, 20, .inl (zAr (fun _ => 0)))), (q8, .inl (ca 4, 2, .inr (.inr (.inr (.inr (fun _ => none))))))] A H24 := hZ24
  clear hZ23 hS23
  obtain ⟨g26, hf⟩ := gif hf
  obtain ⟨g27, hf⟩ := gif hf
  obtain ⟨g28, hf⟩ := gif hf
  obtain ⟨g29, hf⟩ := gif hf
  obtain ⟨g30, hf⟩ := gif hf
  obtain ⟨g31, hf⟩ := gif hf
  obtain ⟨g33, hf⟩ := gif hf
  obtain ⟨g34, hf⟩ := gif hf
  obtain ⟨g35, hf⟩ := gif hf
  obtain ⟨g36, hf⟩ := gif hf
  obtain ⟨g37, hf⟩ := gif hf
  obtain ⟨g38, hf⟩ := gif hf
  obtain ⟨g39, hf⟩ := gif hf
  obtain ⟨ad25, L25, hZ25, hG25, hq25⟩ : ∃ ad' L', zH D ca ad' lnC (zinN K23.2 12) L' (zinF F23 12 (K23.2 12) [r1, 0, r6, 0, r12, r17, r23, (-1), (-1), (-1)]) (zinB B23 12 (K23.2 12) (fun k _ => if k = 3 then -1 else 0)) A H24 ∧ zG ad Ki.2 ad' (zinN K23.2 12) ∧ ad' 12 (K23.2 12) 0 = a := ⟨_, _, ztake2 (c := 12) (n := 10) (l := [(0, a), (2, q3), (4, q8)]) (fi := [r1, 0, r6, 0, r12, r17, r23, (-1), (-1), (-1)]) (b := (fun k _ => if k = 3 then -1 else 0)) (a := a) (r2 := [(0, 0), (2, 0), (4, 3), (5, 11), (6, 7), (7, 6), (8, 8), (9, 8)]) (r3 := [(1, 0), (3, 16)]) (r4 := []) hZ24 g26 (by decide +kernel) (by decide +kernel) (by decide +kernel) rfl (show 0 ∈ ([0, 2, 4] : List Nat) by decide) (show zAll [(1, 0), (3, 16)] (fun x : Nat × Nat => x.1 + 1 ∈ ([0, 2, 4] : List Nat)) from (And.intro (by decide) (And.intro (by decide) trivial))) (show zAll [] (fun x : Nat × Nat => x.1 + 1 ∈ ([0, 2, 4] : List Nat)) from trivial) rfl rfl (List.mem_of_getElem? (i := 0) rfl) (And.intro (zref_f g35.1 hq1_6_12_17_23) (And.intro rfl (And.intro (zref_f g36.1 hq6_12_17_23) (And.intro rfl (And.intro (zref_f g37.1 hq12_17_23) (And.intro (zref_f g38.1 hq17_23) (And.intro (zref_f g39.1 hq23) (And.intro rfl (And.intro rfl (And.intro rfl trivial)))))))))) (And.intro (List.mem_of_getElem? (i := 1) rfl) (And.intro (List.mem_of_getElem? (i := 2) rfl) trivial)) trivial (And.intro g27 (And.intro g28 (And.intro g29 (And.intro g30 (And.intro g31 (And.intro g33 (And.intro g34 (And.intro g34 trivial)))))))) (And.intro (fun h => absurd h (by decide)) (And.intro (fun _ _ => g33) trivial)), hG23.tr zinA_G, zinA_new⟩
  cases hf
  exact W.vret hx hb hr (fun t ht hW => ⟨⟨(ad25, L25), rfl, ⟨hG25, hq25⟩, by rw [ht]; exact hZ25, va_K.moved hW.alike hK⟩, hS24.F ht⟩) hS24.2.2 d_1_1_81 hlk

abbrev Q_Part_init (K : zK) (D : va_G) (ca : Nat → ClassId) (ad : Nat → Int → Nat → Nat) (a : Nat) (r : Int) (F : zF) (B : zB) (K9 : zK) (A : Nat → Prop) : Array Value → State → Outcome → State → Prop := va_Qv (S := (Nat → Int → Nat → Nat) × List Nat) (fun u => zG ad K.2 u.1 K9.2 ∧ u.1 4 r 0 = a) (fun u => zPo D ca u.1 lnC K9.2 u.2 F B A) A
def f_Part_init_65 (rec46 : zK → Int → Int → zF → zB → zOm) (K : zK) (l1 : Int) (l0 : Int) (s0 : Int) (s1 : Int) (s2 : Int) (F : zF) (B : zB) : zOm := if 0 ≤ s2 ∧ s2 < K.2 1 then if 0 ≤ s0 ∧ s0 < K.2 4 then if 0 ≤ s1 ∧ s1 < 200 then rec46 K (l1 + 1) l0 F (zup4 B 4 s0 5 s1 s2) else none else none else none
theorem m_Part_init_65 {rec46 : zK → Int → Int → zF → zB → zOm} (mrec46 : ∀ {K : zK} {l1 : Int} {l0 : Int} {F : zF} {B : zB} {r : Int} {F9 : zF} {B9 : zB} {K9 : zK}, rec46 K l1 l0 F B = some (r, F9, B9, K9) → zKle K K9) {K : zK} {l1 : Int} {l0 : Int} {s0 : Int} {s1 : Int} {s2 : Int} {F : zF} {B : zB} {r : Int} {F9 : zF} {B9 : zB} {K9 : zK} (hf : f_Part_init_65 rec46 K l1 l0 s0 s1 s2 F B = some (r, F9, B9, K9)) : zKle K K9 := by
  replace hf : (if 0 ≤ s2 ∧ s2 < K.2 1 then if 0 ≤ s0 ∧ s0 < K.2 4 then if 0 ≤ s1 ∧ s1 < 200 then rec46 K (l1 + 1) l0 F (zup4 B 4 s0 5 s1 s2) else none else none else none) = some (r, F9, B9, K9) := hf
  obtain ⟨g17, hf⟩ := gif hf
  obtain ⟨g18, hf⟩ := gif hf
  obtain ⟨g19, hf⟩ := gif hf
  exact mrec46 hf

set_option maxHeartbeats 4000000 in
set_option maxRecDepth 100000 in
theorem b_Part_init_65 {D : va_G} {ca : Nat → ClassId} {ad0 : Nat → Int → Nat → Nat} {aS vS : Nat → Nat} {A : Nat → Prop} {p : Program} {l : Launch} {e : Env} {s : State} {m : MethodId} {args : Array Value} {below : List Frame} {meth : Method} {c : Code} {K0 : zK} {Ki : zK} {adi : Nat → Int → Nat → Nat} {a : Nat} (hGi : zG adi Ki.2 ad0 K0.2) {r : Int} {F9 : zF} {B9 : zB} {K9 : zK} {rec46 : zK → Int → Int → zF → zB → zOm} (hrec46 : ∀ {K : zK} {l1 : Int} {l0 : Int} {F : zF} {B : zB} {ad : Nat → Int → Nat → Nat} {L : List Nat} {H : Heap} {locs : List Loc} {ls : Array Slot}, zX D ca L aS vS A p s m args meth c prog_6_method_1_code 2 (Option.none : Option Jvm.ClassFile.FieldType) "StaveHouse$Part" → zG ad0 K0.2 ad K.2 → rec46 K l1 l0 F B = some (r, F9, B9, K9) → zH D ca ad lnC K.2 L F B A H → va_S A s.heap H locs → lv_has ls 2 [(1, .int (iI l1)), (0, .ref (ad 4 l0 0))] → ad 4 l0 0 = a → W p l e ({ frames := 2, cells := 16 + cwC K0 K9, slots := 10675 + swC K0 K9, locals := 32 } : Room) s m args below meth c H locs (16 + cwC K0 K) (10675 + swC K0 K) (MQ below (Q_Part_init Ki D ca adi a r F9 B9 K9 A) args s (16 + cwC K0 K9) (10675 + swC K0 K9) A) (F0 m 46 ls [])) (mrec46 : ∀ {K : zK} {l1 : Int} {l0 : Int} {F : zF} {B : zB} {r : Int} {F9 : zF} {B9 : zB} {K9 : zK}, rec46 K l1 l0 F B = some (r, F9, B9, K9) → zKle K K9) {K : zK} {l1 : Int} {l0 : Int} {s0 : Int} {s1 : Int} {s2 : Int} {F : zF} {B : zB} {ad : Nat → Int → Nat → Nat} {L : List Nat} {H : Heap} {locs : List Loc} {ls : Array Slot} : zX D ca L aS vS A p s m args meth c prog_6_method_1_code 2 (Option.none : Option Jvm.ClassFile.FieldType) "StaveHouse$Part" → zG ad0 K0.2 ad K.2 → f_Part_init_65 rec46 K l1 l0 s0 s1 s2 F B = some (r, F9, B9, K9) → zH D ca ad lnC K.2 L F B A H → va_S A s.heap H locs → lv_has ls 2 [(1, .int (iI l1)), (0, .ref (ad 4 l0 0))] → ad 4 l0 0 = a → W p l e ({ frames := 2, cells := 16 + cwC K0 K9, slots := 10675 + swC K0 K9, locals := 32 } : Room) s m args below meth c H locs (16 + cwC K0 K) (10675 + swC K0 K) (MQ below (Q_Part_init Ki D ca adi a r F9 B9 K9 A) args s (16 + cwC K0 K9) (10675 + swC K0 K9) A) (F0 m 65 ls [va_rf (zrf ad 1 s2), .int (iI s1), .ref (ad 4 s0 (5 + 1))]) := by
  intro X hG hf hZ hS hl hq
  obtain ⟨hx, hb, hr, hml, hown, hts, hlk, hK, hA, hL, hX⟩ := id X
  have hk0 := zroom0 (K0 := K0) (m_Part_init_65 mrec46 hf)
  replace hf : (if 0 ≤ s2 ∧ s2 < K.2 1 then if 0 ≤ s0 ∧ s0 < K.2 4 then if 0 ≤ s1 ∧ s1 < 200 then rec46 K (l1 + 1) l0 F (zup4 B 4 s0 5 s1 s2) else none else none else none) = some (r, F9, B9, K9) := hf
  obtain ⟨g17, hf⟩ := gif hf
  refine W.eq (g2 := F0 m 65 ls [.ref (ad 1 s2 0), .int (iI s1), .ref (ad 4 s0 (5 + 1))]) (by rw [zrf_pos (ad := ad) (t := 1) g17.1]; try rfl) ?_
  obtain ⟨g18, hf⟩ := gif hf
  obtain ⟨g19, hf⟩ := gif hf
  refine zastR (t := 1) (x := 7) (r := (RX1, TX1, 14)) (ci := 4) (k := 5) hx hb hK rfl rfl rfl hZ hS g18.1 g18.2 rfl (Nat.le_of_ble_eq_true rfl) g17.1 g17.2 g19.1 g19.2 d_6_1_65 (fun H20 locs20 hZ20 hS20 => ?_)
  refine lv_iinc (v := iI (l1 + 1)) (lv' := [(1, .int (iI (l1 + 1))), (0, .ref (ad 4 l0 0))]) hx hb d_6_1_66 hl (k := 0) rfl (iI_add _ 1) (by decide) rfl (fun ls hl => ?_)
  refine lv_goto (tgt := 46) hx hb d_6_1_69 (by decide) ?_
  exact hrec46 X hG hf hZ20 hS20 (lv_sub hl [0, 1] rfl) hq

def f_Part_init_46 : Nat → zK → Int → Int → zF → zB → zOm
  | 0, _, _, _, _, _ => none
  | n + 1, K, l1, l0, F, B => if r32 l1 then (if 200 ≤ l1 then some (l0, F, B, K) else if 0 ≤ l0 ∧ l0 < K.2 4 then zbindM (f_Event_init K F B) (fun r16 F16 B16 K16 => if 0 ≤ r16 ∧ r16 < K16.2 1 then f_Part_init_65 (f_Part_init_46 n) K16 l1 l0 l0 l1 r16 F16 B16 else none) else none) else none
theorem m_Part_init_46 : ∀ {n : Nat} {K : zK} {l1 : Int} {l0 : Int} {F : zF} {B : zB} {r : Int} {F9 : zF} {B9 : zB} {K9 : zK}, f_Part_init_46 n K l1 l0 F B = some (r, F9, B9, K9) → zKle K K9 := by
  intro n
  induction n with
  | zero =>
    intros
    rename_i hf
    cases hf
  | succ n mih =>
    intro K l1 l0 F B r F9 B9 K9 hf
    replace hf : (if r32 l1 then (if 200 ≤ l1 then some (l0, F, B, K) else if 0 ≤ l0 ∧ l0 < K.2 4 then zbindM (f_Event_init K F B) (fun r16 F16 B16 K16 => if 0 ≤ r16 ∧ r16 < K16.2 1 then f_Part_init_65 (f_Part_init_46 n) K16 l1 l0 l0 l1 r16 F16 B16 else none) else none) else none) = some (r, F9, B9, K9) := hf
    obtain ⟨g13, hf⟩ := gif hf
    refine (Classical.em (200 ≤ l1)).elim (fun h14 => ?_) (fun h14 => ?_)
    · replace hf := gpos hf h14
      cases hf
      exact zKle.rf
    · replace hf := gneg hf h14
      obtain ⟨g15, hf⟩ := gif hf
      obtain ⟨r16, F16, B16, K16, hc16, hf⟩ := gbindM hf
      obtain ⟨ha16, hf⟩ := gif hf
      exact (m_Event_init hc16).tr ((m_Part_init_65 mih) hf)

set_option maxHeartbeats 4000000 in
set_option maxRecDepth 100000 in
theorem b_Part_init_46 {D : va_G} {ca : Nat → ClassId} {ad0 : Nat → Int → Nat → Nat} {aS vS : Nat → Nat} {A : Nat → Prop} {p : Program} {l : Launch} {e : Env} {s : State} {m : MethodId} {args : Array Value} {below : List Frame} {meth : Method} {c : Code} {K0 : zK} {Ki : zK} {adi : Nat → Int → Nat → Nat} {a : Nat} (hGi : zG adi Ki.2 ad0 K0.2) {r : Int} {F9 : zF} {B9 : zB} {K9 : zK} : ∀ {n : Nat} {K : zK} {l1 : Int} {l0 : Int} {F : zF} {B : zB} {ad : Nat → Int → Nat → Nat} {L : List Nat} {H : Heap} {locs : List Loc} {ls : Array Slot}, zX D ca L aS vS A p s m args meth c prog_6_method_1_code 2 (Option.none : Option Jvm.ClassFile.FieldType) "StaveHouse$Part" → zG ad0 K0.2 ad K.2 → f_Part_init_46 n K l1 l0 F B = some (r, F9, B9, K9) → zH D ca ad lnC K.2 L F B A H → va_S A s.heap H locs → lv_has ls 2 [(1, .int (iI l1)), (0, .ref (ad 4 l0 0))] → ad 4 l0 0 = a → W p l e ({ frames := 2, cells := 16 + cwC K0 K9, slots := 10675 + swC K0 K9, locals := 32 } : Room) s m args below meth c H locs (16 + cwC K0 K) (10675 + swC K0 K) (MQ below (Q_Part_init Ki D ca adi a r F9 B9 K9 A) args s (16 + cwC K0 K9) (10675 + swC K0 K9) A) (F0 m 46 ls []) := by
  intro n
  have mih : ∀ {K : zK} {l1 : Int} {l0 : Int} {F : zF} {B : zB} {r : Int} {F9 : zF} {B9 : zB} {K9 : zK}, f_Part_init_46 n K l1 l0 F B = some (r, F9, B9, K9) → zKle K K9 := m_Part_init_46
  induction n with
  | zero =>
    intros
    rename_i hf _ _ _ _
    cases hf
  | succ n ih0 =>
    clear mih
    have mih : ∀ {K : zK} {l1 : Int} {l0 : Int} {F : zF} {B : zB} {r : Int} {F9 : zF} {B9 : zB} {K9 : zK}, f_Part_init_46 n K l1 l0 F B = some (r, F9, B9, K9) → zKle K K9 := m_Part_init_46
    have ih := @ih0 mih
    intro K l1 l0 F B ad L H locs ls X hG hf hZ hS hl hq
    obtain ⟨hx, hb, hr, hml, hown, hts, hlk, hK, hA, hL, hX⟩ := id X
    have hk0 := zroom0 (K0 := K0) (m_Part_init_46 hf)
    replace hf : (if r32 l1 then (if 200 ≤ l1 then some (l0, F, B, K) else if 0 ≤ l0 ∧ l0 < K.2 4 then zbindM (f_Event_init K F B) (fun r16 F16 B16 K16 => if 0 ≤ r16 ∧ r16 < K16.2 1 then f_Part_init_65 (f_Part_init_46 n) K16 l1 l0 l0 l1 r16 F16 B16 else none) else none) else none) = some (r, F9, B9, K9) := hf
    refine lv_iload_n hx hb d_6_1_46 rfl (lv_at hl 0 rfl) ?_
    refine lv_sipush (v := iI 200) hx hb d_6_1_47 (by decide) ?_
    obtain ⟨g13, hf⟩ := gif hf
    refine zge (tgt := 72) hx hb g13 (by decide) d_6_1_50 (by decide) (fun h14 => ?_) (fun h14 => ?_)
    · replace hf := gpos hf h14
      cases hf
      exact W.vret hx hb hr (fun t ht hW => ⟨⟨(ad, L), rfl, ⟨hGi.tr hG, hq⟩, by rw [ht]; exact hZ, va_K.moved hW.alike hK⟩, hS.F ht⟩) hS.2.2 d_6_1_72 hlk
    · replace hf := gneg hf h14
      refine lv_aload_n hx hb d_6_1_53 rfl (lv_at hl 1 rfl) ?_
      obtain ⟨g15, hf⟩ := gif hf
      refine zget (ci := 4) (C := RX4) (T := TX4) (v := .ref (ad 4 l0 (5 + 1))) (k := 5) hx hb hts inW_4 hown hK hZ g15.1 g15.2 rfl (by decide) k_4_130 rfl d_6_1_54 ?_
      refine lv_iload_n hx hb d_6_1_57 rfl (lv_at hl 0 rfl) ?_
      obtain ⟨r16, F16, B16, K16, hc16, hf⟩ := gbindM hf
      have hw16 := w_Event_init hc16
      obtain ⟨ha16, hf⟩ := gif hf
      have hm16 := (m_Part_init_65 mih) hf
      have hr16 := zroom hG.1 hw16 hm16
      refine zxnew (C := RX1) (T := TX1) (n := 14) (ci := 1) hx hb hts inW_1 tyX1 tyX1_ok hown k_4_110 k_2_15 k_1_8 hK (zHx.of hZ) hS hA rfl (by have h := hr16.1; dsimp only; omega) (by have h := hr16.2.1; dsimp only; omega) d_6_1_58 (fun q16 Hn16 hZn16 hSn16 => ?_)
      refine lv_dup hx hb d_6_1_61 rfl ?_
      refine va_callv (va_runIN (As := []) (rest := .ref q16 :: [.int (iI l1), .ref (ad 4 l0 (5 + 1))]) ⟨hx, hb, hml, hown, hts⟩ (c_Event_init (l := l) hc16) ⟨va_cnB 0 hts (gdC k_2_18) rfl rfl rfl (hX.1 _ (List.mem_of_getElem? (i := 6) rfl) :) (hts _ k_1_8) (by decide +kernel) ⟨Nat.le_of_ble_eq_true rfl, Nat.le_of_ble_eq_true rfl⟩, rfl, hts _ k_2_17⟩ (zxPS (X := []) X hZn16 hSn16 [.ref q16]) rfl rfl hl.1 rfl (lv_room (Nat.le_of_ble_eq_true rfl)) d_6_1_62 ⟨by have h := hr16.1; dsimp only; omega, by have h := hr16.2.1; dsimp only; omega⟩) hSn16 (fun x _ h => zxAin (X := []) X hZn16 hSn16 x h) (zxAin (X := []) X hZn16 hSn16) (fun u16 t16 H16 locs16 ht16 hv16 hu16 hB16 hz16 hk16 hS16 => ?_)
      obtain ⟨ad16, L16⟩ := u16
      obtain ⟨hg16, hq16⟩ := hu16
      have hZ16 := (zxback (X := []) hZn16 (zxAin (X := []) X hZn16 hSn16) hk16 ht16 hB16).to
      replace hq16 : ad16 1 r16 0 = q16 := hq16
      subst hq16
      refine W.widen (k := 16 + cwC K0 K16) (n := 10675 + swC K0 K16) (by have h := hr16.2.2.1; omega) (by have h := hr16.2.2.2; omega) ?_
      have X16 := X.grow hZ16.inA
      have hG16 := hG.tr hg16
      have e16_0 : ad16 4 l0 0 = ad 4 l0 0 := hg16.2 4 l0 0 g15.1 g15.2
      have e16_1 : ad16 4 l0 (5 + 1) = ad 4 l0 (5 + 1) := hg16.2 4 l0 (5 + 1) g15.1 g15.2
      have hl : lv_has ls 2 [(1, .int (iI l1)), (0, .ref (ad16 4 l0 0))] := by have h := lv_sub hl [0, 1] rfl; simp only [e16_0, e16_1]; exact h
      refine W.eq (g2 := F0 m 65 ls [.ref (ad16 1 r16 0), .int (iI l1), .ref (ad16 4 l0 (5 + 1))]) (by simp only [e16_0, e16_1]) ?_
      have hq16x := e16_0.trans hq
      refine W.eq (g2 := F0 m 65 ls [va_rf (zrf ad16 1 r16), .int (iI l1), .ref (ad16 4 l0 (5 + 1))]) (by rw [zrf_pos (ad := ad16) (t := 1) ha16.1]; try rfl) ?_
      exact b_Part_init_65 hGi ih mih X16 hG16 hf hZ16 hS16 (lv_sub hl [0, 1] rfl) hq16x

def f_Part_init (Ki : zK) (F : zF) (B : zB) : zOm := if 0 ≤ Ki.2 4 then if (-1 : Int) < Ki.2 1 then f_Part_init_46 (Ki.1, zinN Ki.2 4).1 (Ki.1, zinN Ki.2 4) 0 (Ki.2 4) (zinF F 4 (Ki.2 4) [0, 0, 0, 0, 0, 0, 0, 0, 0, 0, 0, 0, 0]) (zinB B 4 (Ki.2 4) (fun k _ => if k = 5 then -1 else 0)) else none else none
theorem m_Part_init {Ki : zK} {F : zF} {B : zB} {r : Int} {F9 : zF} {B9 : zB} {K9 : zK} (hf : f_Part_init Ki F B = some (r, F9, B9, K9)) : zKle Ki K9 := by
  replace hf : (if 0 ≤ Ki.2 4 then if (-1 : Int) < Ki.2 1 then f_Part_init_46 (Ki.1, zinN Ki.2 4).1 (Ki.1, zinN Ki.2 4) 0 (Ki.2 4) (zinF F 4 (Ki.2 4) [0, 0, 0, 0, 0, 0, 0, 0, 0, 0, 0, 0, 0]) (zinB B 4 (Ki.2 4) (fun k _ => if k = 5 then -1 else 0)) else none else none) = some (r, F9, B9, K9) := hf
  obtain ⟨g10, hf⟩ := gif hf
  obtain ⟨g11, hf⟩ := gif hf
  exact zKle_in.tr (m_Part_init_46 hf)

set_option maxHeartbeats 4000000 in
set_option maxRecDepth 100000 in
theorem cx_Part_init {l : Launch} {D : va_G} {ca : Nat → ClassId} {ad : Nat → Int → Nat → Nat} {L : List Nat} {aS vS : Nat → Nat} {sz a : Nat} {Ki : zK} {F : zF} {B : zB} {r : Int} {F9 : zF} {B9 : zB} {K9 : zK} (hf : f_Part_init Ki F B = some (r, F9, B9, K9)) : Met l ({ cls := "StaveHouse$Part", name := "<init>", desc := "()V" } : Jvm.MethodName) (Cond.code ({ cls := "StaveHouse$Part", name := "<init>", desc := "()V" } : Jvm.MethodName) prog_6_method_1_code 2 (Option.none : Option Jvm.ClassFile.FieldType) :: wAll) ({ frames := 2, cells := 16 + cwC (Ki.1, zinN Ki.2 4) K9, slots := 10675 + swC (Ki.1, zinN Ki.2 4) K9, locals := 32 } : Room) (va_Pc [.ref a] (zPreX D ca ad lnC Ki.2 L aS vS F B a (.inr (4, rg 13 (fun j => defaultValue (tyX4 j)))) sz)) (Q_Part_init Ki D ca ad a r F9 B9 K9 (zA (a :: L) sz)) (16 + cwC (Ki.1, zinN Ki.2 4) K9) (10675 + swC (Ki.1, zinN Ki.2 4) K9) (zA (a :: L) sz) := by
  refine zMetX (Qc := Q_Part_init Ki D ca ad a r F9 B9 K9) (lv := [(0, .ref a)]) (by decide) (Nat.le_of_ble_eq_true rfl) rfl (fun A p e s m below meth c ls X hnm hZ hS hl => ?_)
  obtain ⟨hx, hb, hr, hml, hown, hts, hlk, hK, hA, hL, hX⟩ := id X
  replace hnm : meth.name = "<init>" := hnm
  have hG : zG ad Ki.2 ad Ki.2 := zG.rf
  replace hf : (if 0 ≤ Ki.2 4 then if (-1 : Int) < Ki.2 1 then f_Part_init_46 (Ki.1, zinN Ki.2 4).1 (Ki.1, zinN Ki.2 4) 0 (Ki.2 4) (zinF F 4 (Ki.2 4) [0, 0, 0, 0, 0, 0, 0, 0, 0, 0, 0, 0, 0]) (zinB B 4 (Ki.2 4) (fun k _ => if k = 5 then -1 else 0)) else none else none) = some (r, F9, B9, K9) := hf
  refine lv_aload_n hx hb d_6_1_0 rfl (lv_at hl 0 rfl) ?_
  refine W.objInit hx hb hown (hts _ k_4_109) (hts _ k_1_30) (hts _ k_1_31) rfl (by rw [hml]; exact hl.1) rfl d_6_1_1 (Nat.le_of_ble_eq_true rfl) (Nat.le_of_ble_eq_true rfl) ?_
  refine W.eq (g2 := F0 m 4 ls []) rfl ?_
  refine lv_aload_n hx hb d_6_1_4 rfl (lv_at hl 0 rfl) ?_
  refine lv_sipush (v := iI 200) hx hb d_6_1_5 (by decide) ?_
  refine zxnewq hx hb hts hown k_4_110 (hX.2.1 _ (List.mem_of_getElem? (i := 3) rfl) :) hK 7 rfl hZ hS hA (by decide) (N' := 200) (by decide) (Nat.le_of_ble_eq_true rfl) (by dsimp only; omega) (by dsimp only; omega) d_6_1_8 (fun q1 H1 hZ1 hS1 => ?_)
  replace hZ1 : zHx D ca ad lnC Ki.2 L F B [(a, .inr (4, rg 13 (fun j => defaultValue (tyX4 j)))), (q1, .inl (ca 7, 200, .inr (.inr (.inr (.inr (fun _ => none))))))] A H1 := hZ1
  refine W.widen (k := 1) (n := 200) (Nat.le_of_ble_eq_true rfl) (Nat.le_of_ble_eq_true rfl) ?_
  refine zxputF hx hb hts inW_4 tyX4 tyX4_ok nmX4 hown hK hZ1 hS1 0 rfl rfl (k := 5) (by decide) k_4_130 rfl hnm rfl rfl rfl d_6_1_11 (fun H2 locs2 hZ2 hS2 => ?_)
  replace hZ2 : zHx D ca ad lnC Ki.2 L F B [(a, .inr (4, rg 13 (va_up (fun j => defaultValue (tyX4 j)) 5 (.ref q1)))), (q1, .inl (ca 7, 200, .inr (.inr (.inr (.inr (fun _ => none))))))] A H2 := hZ2
  clear hZ1 hS1
  refine lv_aload_n hx hb d_6_1_14 rfl (lv_at hl 0 rfl) ?_
  refine lv_bipush (v := iI 12) hx hb d_6_1_15 (by decide) ?_
  refine lv_sipush (v := iI 800) hx hb d_6_1_17 (by decide) ?_
  refine zxmna (ty := .int) hx hb hts hown (nm := "[[I") (by decide +kernel) k_4_112 (hX.2.2.1 _ (List.mem_of_getElem? (i := 0) rfl) :) k_1_57 hK 8 0 rfl rfl ra_int hZ2 hS2 hA (a0 := (800, .inl (zAr (fun _ => 0)))) (fun _ => rfl) (by decide) (by decide) (N' := 12) (K' := 800) (by decide) (by decide) (Nat.le_of_ble_eq_true rfl) (Nat.le_of_ble_eq_true rfl) (Nat.le_of_ble_eq_true rfl) rfl rfl (by dsimp only; omega) (by dsimp only; omega) d_6_1_20 (g := fun q j => some (q + 1 + j)) (fun _ _ _ => rfl) (fun q3 H3 hZ3 hS3 => ?_)
  replace hZ3 : zHx D ca ad lnC Ki.2 L F B [(a, .inr (4, rg 13 (va_up (fun j => defaultValue (tyX4 j)) 5 (.ref q1)))), (q1, .inl (ca 7, 200, .inr (.inr (.inr (.inr (fun _ => none)))))), (q3, .inl (ca 8, 12, .inr (.inr (.inr (.inr (fun j => some (q3 + 1 + j))))))), (q3 + 1 + 0, .inl (ca 0, 800, .inl (zAr (fun _ => 0)))), (q3 + 1 + 1, .inl (ca 0, 800, .inl (zAr (fun _ => 0)))), (q3 + 1 + 2, .inl (ca 0, 800, .inl (zAr (fun _ => 0)))), (q3 + 1 + 3, .inl (ca 0, 800, .inl (zAr (fun _ => 0)))), (q3 + 1 + 4, .inl (ca 0, 800, .inl (zAr (fun _ => 0)))), (q3 + 1 + 5, .inl (ca 0, 800, .inl (zAr (fun _ => 0)))), (q3 + 1 + 6, .inl (ca 0, 800, .inl (zAr (fun _ => 0)))), (q3 + 1 + 7, .inl (ca 0, 800, .inl (zAr (fun _ => 0)))), (q3 + 1 + 8, .inl (ca 0, 800, .inl (zAr (fun _ => 0)))), (q3 + 1 + 9, .inl (ca 0, 800, .inl (zAr (fun _ => 0)))), (q3 + 1 + 10, .inl (ca 0, 800, .inl (zAr (fun _ => 0)))), (q3 + 1 + 11, .inl (ca 0, 800, .inl (zAr (fun _ => 0))))] A H3 := hZ3
  clear hZ2 hS2
  refine W.widen (k := 14) (n := 9812) (Nat.le_of_ble_eq_true rfl) (Nat.le_of_ble_eq_true rfl) ?_
  refine zxputF hx hb hts inW_4 tyX4 tyX4_ok nmX4 hown hK hZ3 hS3 0 rfl rfl (k := 8) (by decide) k_4_142 rfl hnm rfl rfl rfl d_6_1_24 (fun H4 locs4 hZ4 hS4 => ?_)
  replace hZ4 : zHx D ca ad lnC Ki.2 L F B [(a, .inr (4, rg 13 (va_up (va_up (fun j => defaultValue (tyX4 j)) 5 (.ref q1)) 8 (.ref q3)))), (q1, .inl (ca 7, 200, .inr (.inr (.inr (.inr (fun _ => none)))))), (q3, .inl (ca 8, 12, .inr (.inr (.inr (.inr (fun j => some (q3 + 1 + j))))))), (q3 + 1 + 0, .inl (ca 0, 800, .inl (zAr (fun _ => 0)))), (q3 + 1 + 1, .inl (ca 0, 800, .inl (zAr (fun _ => 0)))), (q3 + 1 + 2, .inl (ca 0, 800, .inl (zAr (fun _ => 0)))), (q3 + 1 + 3, .inl (ca 0, 800, .inl (zAr (fun _ => 0)))), (q3 + 1 + 4, .inl (ca 0, 800, .inl (zAr (fun _ => 0)))), (q3 + 1 + 5, .inl (ca 0, 800, .inl (zAr (fun _ => 0)))), (q3 + 1 + 6, .inl (ca 0, 800, .inl (zAr (fun _ => 0)))), (q3 + 1 + 7, .inl (ca 0, 800, .inl (zAr (fun _ => 0)))), (q3 + 1 + 8, .inl (ca 0, 800, .inl (zAr (fun _ => 0)))), (q3 + 1 + 9, .inl (ca 0, 800, .inl (zAr (fun _ => 0)))), (q3 + 1 + 10, .inl (ca 0, 800, .inl (zAr (fun _ => 0)))), (q3 + 1 + 11, .inl (ca 0, 800, .inl (zAr (fun _ => 0))))] A H4 := hZ4
  clear hZ3 hS3
  refine lv_aload_n hx hb d_6_1_27 rfl (lv_at hl 0 rfl) ?_
  refine lv_sipush (v := iI 800) hx hb d_6_1_28 (by decide) ?_
  refine zxnewa (atype := .long) hx hb hts (ty := .long) rfl k_1_105 hK 1 rfl (fun _ _ => gu_long) hZ4 hS4 hA (a0 := (800, .inr (.inl (zLr (fun _ => 0))))) (fun _ => rfl) (by decide) (N' := 800) (by decide) (Nat.le_of_ble_eq_true rfl) (by dsimp only; omega) (by dsimp only; omega) d_6_1_31 (fun q5 H5 hZ5 hS5 => ?_)
  replace hZ5 : zHx D ca ad lnC Ki.2 L F B [(a, .inr (4, rg 13 (va_up (va_up (fun j => defaultValue (tyX4 j)) 5 (.ref q1)) 8 (.ref q3)))), (q1, .inl (ca 7, 200, .inr (.inr (.inr (.inr (fun _ => none)))))), (q3, .inl (ca 8, 12, .inr (.inr (.inr (.inr (fun j => some (q3 + 1 + j))))))), (q3 + 1 + 0, .inl (ca 0, 800, .inl (zAr (fun _ => 0)))), (q3 + 1 + 1, .inl (ca 0, 800, .inl (zAr (fun _ => 0)))), (q3 + 1 + 2, .inl (ca 0, 800, .inl (zAr (fun _ => 0)))), (q3 + 1 + 3, .inl (ca 0, 800, .inl (zAr (fun _ => 0)))), (q3 + 1 + 4, .inl (ca 0, 800, .inl (zAr (fun _ => 0)))), (q3 + 1 + 5, .inl (ca 0, 800, .inl (zAr (fun _ => 0)))), (q3 + 1 + 6, .inl (ca 0, 800, .inl (zAr (fun _ => 0)))), (q3 + 1 + 7, .inl (ca 0, 800, .inl (zAr (fun _ => 0)))), (q3 + 1 + 8, .inl (ca 0, 800, .inl (zAr (fun _ => 0)))), (q3 + 1 + 9, .inl (ca 0, 800, .inl (zAr (fun _ => 0)))), (q3 + 1 + 10, .inl (ca 0, 800, .inl (zAr (fun _ => 0)))), (q3 + 1 + 11, .inl (ca 0, 800, .inl (zAr (fun _ => 0)))), (q5, .inl (ca 1, 800, .inr (.inl (zLr (fun _ => 0)))))] A H5 := hZ5
  clear hZ4 hS4
  refine W.widen (k := 15) (n := 10612) (Nat.le_of_ble_eq_true rfl) (Nat.le_of_ble_eq_true rfl) ?_
  refine zxputF hx hb hts inW_4 tyX4 tyX4_ok nmX4 hown hK hZ5 hS5 0 rfl rfl (k := 9) (by decide) k_4_145 rfl hnm rfl rfl rfl d_6_1_33 (fun H6 locs6 hZ6 hS6 => ?_)
  replace hZ6 : zHx D ca ad lnC Ki.2 L F B [(a, .inr (4, rg 13 (va_up (va_up (va_up (fun j => defaultValue (tyX4 j)) 5 (.ref q1)) 8 (.ref q3)) 9 (.ref q5)))), (q1, .inl (ca 7, 200, .inr (.inr (.inr (.inr (fun _ => none)))))), (q3, .inl (ca 8, 12, .inr (.inr (.inr (.inr (fun j => some (q3 + 1 + j))))))), (q3 + 1 + 0, .inl (ca 0, 800, .inl (zAr (fun _ => 0)))), (q3 + 1 + 1, .inl (ca 0, 800, .inl (zAr (fun _ => 0)))), (q3 + 1 + 2, .inl (ca 0, 800, .inl (zAr (fun _ => 0)))), (q3 + 1 + 3, .inl (ca 0, 800, .inl (zAr (fun _ => 0)))), (q3 + 1 + 4, .inl (ca 0, 800, .inl (zAr (fun _ => 0)))), (q3 + 1 + 5, .inl (ca 0, 800, .inl (zAr (fun _ => 0)))), (q3 + 1 + 6, .inl (ca 0, 800, .inl (zAr (fun _ => 0)))), (q3 + 1 + 7, .inl (ca 0, 800, .inl (zAr (fun _ => 0)))), (q3 + 1 + 8, .inl (ca 0, 800, .inl (zAr (fun _ => 0)))), (q3 + 1 + 9, .inl (ca 0, 800, .inl (zAr (fun _ => 0)))), (q3 + 1 + 10, .inl (ca 0, 800, .inl (zAr (fun _ => 0)))), (q3 + 1 + 11, .inl (ca 0, 800, .inl (zAr (fun _ => 0)))), (q5, .inl (ca 1, 800, .inr (.inl (zLr (fun _ => 0)))))] A H6 := hZ6
  clear hZ5 hS5
  refine lv_aload_n hx hb d_6_1_36 rfl (lv_at hl 0 rfl) ?_
  refine lv_bipush (v := iI 63) hx hb d_6_1_37 (by decide) ?_
  refine zxnewa (atype := .int) hx hb hts (ty := .int) rfl k_1_57 hK 0 rfl (fun _ _ => gu_int) hZ6 hS6 hA (a0 := (63, .inl (zAr (fun _ => 0)))) (fun _ => rfl) (by decide) (N' := 63) (by decide) (Nat.le_of_ble_eq_true rfl) (by dsimp only; omega) (by dsimp only; omega) d_6_1_39 (fun q7 H7 hZ7 hS7 => ?_)
  replace hZ7 : zHx D ca ad lnC Ki.2 L F B [(a, .inr (4, rg 13 (va_up (va_up (va_up (fun j => defaultValue (tyX4 j)) 5 (.ref q1)) 8 (.ref q3)) 9 (.ref q5)))), (q1, .inl (ca 7, 200, .inr (.inr (.inr (.inr (fun _ => none)))))), (q3, .inl (ca 8, 12, .inr (.inr (.inr (.inr (fun j => some (q3 + 1 + j))))))), (q3 + 1 + 0, .inl (ca 0, 800, .inl (zAr (fun _ => 0)))), (q3 + 1 + 1, .inl (ca 0, 800, .inl (zAr (fun _ => 0)))), (q3 + 1 + 2, .inl (ca 0, 800, .inl (zAr (fun _ => 0)))), (q3 + 1 + 3, .inl (ca 0, 800, .inl (zAr (fun _ => 0)))), (q3 + 1 + 4, .inl (ca 0, 800, .inl (zAr (fun _ => 0)))), (q3 + 1 + 5, .inl (ca 0, 800, .inl (zAr (fun _ => 0)))), (q3 + 1 + 6, .inl (ca 0, 800, .inl (zAr (fun _ => 0)))), (q3 + 1 + 7, .inl (ca 0, 800, .inl (zAr (fun _ => 0)))), (q3 + 1 + 8, .inl (ca 0, 800, .inl (zAr (fun _ => 0)))), (q3 + 1 + 9, .inl (ca 0, 800, .inl (zAr (fun _ => 0)))), (q3 + 1 + 10, .inl (ca 0, 800, .inl (zAr (fun _ => 0)))), (q3 + 1 + 11, .inl (ca 0, 800, .inl (zAr (fun _ => 0)))), (q5, .inl (ca 1, 800, .inr (.inl (zLr (fun _ => 0))))), (q7, .inl (ca 0, 63, .inl (zAr (fun _ => 0))))] A H7 := hZ7
  clear hZ6 hS6
  refine W.widen (k := 16) (n := 10675) (Nat.le_of_ble_eq_true rfl) (Nat.le_of_ble_eq_true rfl) ?_
  refine zxputF hx hb hts inW_4 tyX4 tyX4_ok nmX4 hown hK hZ7 hS7 0 rfl rfl (k := 12) (by decide) k_4_152 rfl hnm rfl rfl rfl d_6_1_41 (fun H8 locs8 hZ8 hS8 => ?_)
  replace hZ8 : zHx D ca ad lnC Ki.2 L F B [(a, .inr (4, rg 13 (va_up (va_up (va_up (va_up (fun j => defaultValue (tyX4 j)) 5 (.ref q1)) 8 (.ref q3)) 9 (.ref q5)) 12 (.ref q7)))), (q1, .inl (ca 7, 200, .inr (.inr (.inr (.inr (fun _ => none)))))), (q3, .inl (ca 8, 12, .inr (.inr (.inr (.inr (fun j => some (q3 + 1 + j))))))), (q3 + 1 + 0, .inl (ca 0, 800, .inl (zAr (fun _ => 0)))), (q3 + 1 + 1, .inl (ca 0, 800, .inl (zAr (fun _ => 0)))), (q3 + 1 + 2, .inl (ca 0, 800, .inl (zAr (fun _ => 0)))), (q3 + 1 + 3, .inl (ca 0, 800, .inl (zAr (fun _ => 0)))), (q3 + 1 + 4, .inl (ca 0, 800, .inl (zAr (fun _ => 0)))), (q3 + 1 + 5, .inl (ca 0, 800, .inl (zAr (fun _ => 0)))), (q3 + 1 + 6, .inl (ca 0, 800, .inl (zAr (fun _ => 0)))), (q3 + 1 + 7, .inl (ca 0, 800, .inl (zAr (fun _ => 0)))), (q3 + 1 + 8, .inl (ca 0, 800, .inl (zAr (fun _ => 0)))), (q3 + 1 + 9, .inl (ca 0, 800, .inl (zAr (fun _ => 0)))), (q3 + 1 + 10, .inl (ca 0, 800, .inl (zAr (fun _ => 0)))), (q3 + 1 + 11, .inl (ca 0, 800, .inl (zAr (fun _ => 0)))), (q5, .inl (ca 1, 800, .inr (.inl (zLr (fun _ => 0))))), (q7, .inl (ca 0, 63, .inl (zAr (fun _ => 0))))] A H8 := hZ8
  clear hZ7 hS7
  obtain ⟨g10, hf⟩ := gif hf
  obtain ⟨g11, hf⟩ := gif hf
  have hZ12 := hZ8.repl (v := fun j => some ((([(0, a), (6, q1), (9, q3), (361, q3 + 1 + 0), (362, q3 + 1 + 1), (363, q3 + 1 + 2), (364, q3 + 1 + 3), (365, q3 + 1 + 4), (366, q3 + 1 + 5), (367, q3 + 1 + 6), (368, q3 + 1 + 7), (369, q3 + 1 + 8), (370, q3 + 1 + 9), (371, q3 + 1 + 10), (372, q3 + 1 + 11), (10, q5), (13, q7)] : List (Nat × Nat)).lookup (360 + j + 1)).getD 0)) 2 rfl (And.intro rfl (And.intro rfl (And.intro rfl (And.intro rfl (And.intro rfl (And.intro rfl (And.intro rfl (And.intro rfl (And.intro rfl (And.intro rfl (And.intro rfl (And.intro rfl trivial))))))))))))
  replace hZ12 : zHx D ca ad lnC Ki.2 L F B [(a, .inr (4, rg 13 (va_up (va_up (va_up (va_up (fun j => defaultValue (tyX4 j)) 5 (.ref q1)) 8 (.ref q3)) 9 (.ref q5)) 12 (.ref q7)))), (q1, .inl (ca 7, 200, .inr (.inr (.inr (.inr (fun _ => none)))))), (q3, .inl (ca 8, 12, .inr (.inr (.inr (.inr (fun j => some ((([(0, a), (6, q1), (9, q3), (361, q3 + 1 + 0), (362, q3 + 1 + 1), (363, q3 + 1 + 2), (364, q3 + 1 + 3), (365, q3 + 1 + 4), (366, q3 + 1 + 5), (367, q3 + 1 + 6), (368, q3 + 1 + 7), (369, q3 + 1 + 8), (370, q3 + 1 + 9), (371, q3 + 1 + 10), (372, q3 + 1 + 11), (10, q5), (13, q7)] : List (Nat × Nat)).lookup (360 + j + 1)).getD 0))))))), (q3 + 1 + 0, .inl (ca 0, 800, .inl (zAr (fun _ => 0)))), (q3 + 1 + 1, .inl (ca 0, 800, .inl (zAr (fun _ => 0)))), (q3 + 1 + 2, .inl (ca 0, 800, .inl (zAr (fun _ => 0)))), (q3 + 1 + 3, .inl (ca 0, 800, .inl (zAr (fun _ => 0)))), (q3 + 1 + 4, .inl (ca 0, 800, .inl (zAr (fun _ => 0)))), (q3 + 1 + 5, .inl (ca 0, 800, .inl (zAr (fun _ => 0)))), (q3 + 1 + 6, .inl (ca 0, 800, .inl (zAr (fun _ => 0)))), (q3 + 1 + 7, .inl (ca 0, 800, .inl (zAr (fun _ => 0)))), (q3 + 1 + 8, .inl (ca 0, 800, .inl (zAr (fun _ => 0)))), (q3 + 1 + 9, .inl (ca 0, 800, .inl (zAr (fun _ => 0)))), (q3 + 1 + 10, .inl (ca 0, 800, .inl (zAr (fun _ => 0)))), (q3 + 1 + 11, .inl (ca 0, 800, .inl (zAr (fun _ => 0)))), (q5, .inl (ca 1, 800, .inr (.inl (zLr (fun _ => 0))))), (q7, .inl (ca 0, 63, .inl (zAr (fun _ => 0))))] A H8 := hZ12
  obtain ⟨ad9, L9, hZ9, hG9, hq9⟩ : ∃ ad' L', zH D ca ad' lnC (zinN Ki.2 4) L' (zinF F 4 (Ki.2 4) [0, 0, 0, 0, 0, 0, 0, 0, 0, 0, 0, 0, 0]) (zinB B 4 (Ki.2 4) (fun k _ => if k = 5 then -1 else 0)) A H8 ∧ zG ad Ki.2 ad' (zinN Ki.2 4) ∧ ad' 4 (Ki.2 4) 0 = a := ⟨_, _, ztake2 (c := 4) (n := 13) (l := [(0, a), (6, q1), (9, q3), (361, q3 + 1 + 0), (362, q3 + 1 + 1), (363, q3 + 1 + 2), (364, q3 + 1 + 3), (365, q3 + 1 + 4), (366, q3 + 1 + 5), (367, q3 + 1 + 6), (368, q3 + 1 + 7), (369, q3 + 1 + 8), (370, q3 + 1 + 9), (371, q3 + 1 + 10), (372, q3 + 1 + 11), (10, q5), (13, q7)]) (fi := [0, 0, 0, 0, 0, 0, 0, 0, 0, 0, 0, 0, 0]) (b := (fun k _ => if k = 5 then -1 else 0)) (a := a) (r2 := []) (r3 := [(5, 11), (9, 1), (12, 0), (360, 0), (361, 0), (362, 0), (363, 0), (364, 0), (365, 0), (366, 0), (367, 0), (368, 0), (369, 0), (370, 0), (371, 0)]) (r4 := [(8, 0)]) hZ12 g10 (by decide +kernel) (by decide +kernel) (by decide +kernel) rfl (show 0 ∈ ([0, 6, 9, 361, 362, 363, 364, 365, 366, 367, 368, 369, 370, 371, 372, 10, 13] : List Nat) by decide) (show zAll [(5, 11), (9, 1), (12, 0), (360, 0), (361, 0), (362, 0), (363, 0), (364, 0), (365, 0), (366, 0), (367, 0), (368, 0), (369, 0), (370, 0), (371, 0)] (fun x : Nat × Nat => x.1 + 1 ∈ ([0, 6, 9, 361, 362, 363, 364, 365, 366, 367, 368, 369, 370, 371, 372, 10, 13] : List Nat)) from (And.intro (by decide) (And.intro (by decide) (And.intro (by decide) (And.intro (by decide) (And.intro (by decide) (And.intro (by decide) (And.intro (by decide) (And.intro (by decide) (And.intro (by decide) (And.intro (by decide) (And.intro (by decide) (And.intro (by decide) (And.intro (by decide) (And.intro (by decide) (And.intro (by decide) trivial)))))))))))))))) (show zAll [(8, 0)] (fun x : Nat × Nat => x.1 + 1 ∈ ([0, 6, 9, 361, 362, 363, 364, 365, 366, 367, 368, 369, 370, 371, 372, 10, 13] : List Nat)) from (And.intro (by decide) trivial)) rfl rfl (List.mem_of_getElem? (i := 0) rfl) (And.intro rfl (And.intro rfl (And.intro rfl (And.intro rfl (And.intro rfl (And.intro rfl (And.intro rfl (And.intro rfl (And.intro rfl (And.intro rfl (And.intro rfl (And.intro rfl (And.intro rfl trivial))))))))))))) (And.intro (List.mem_of_getElem? (i := 1) rfl) (And.intro (List.mem_of_getElem? (i := 15) rfl) (And.intro (List.mem_of_getElem? (i := 16) rfl) (And.intro (List.mem_of_getElem? (i := 3) rfl) (And.intro (List.mem_of_getElem? (i := 4) rfl) (And.intro (List.mem_of_getElem? (i := 5) rfl) (And.intro (List.mem_of_getElem? (i := 6) rfl) (And.intro (List.mem_of_getElem? (i := 7) rfl) (And.intro (List.mem_of_getElem? (i := 8) rfl) (And.intro (List.mem_of_getElem? (i := 9) rfl) (And.intro (List.mem_of_getElem? (i := 10) rfl) (And.intro (List.mem_of_getElem? (i := 11) rfl) (And.intro (List.mem_of_getElem? (i := 12) rfl) (And.intro (List.mem_of_getElem? (i := 13) rfl) (And.intro (List.mem_of_getElem? (i := 14) rfl) trivial))))))))))))))) (And.intro (List.mem_of_getElem? (i := 2) rfl) trivial) trivial (And.intro (fun _ _ => g11) (And.intro (fun h => absurd h (by decide)) (And.intro (fun h => absurd h (by decide)) (And.intro (fun h => absurd h (by decide)) (And.intro (fun h => absurd h (by decide)) (And.intro (fun h => absurd h (by decide)) (And.intro (fun h => absurd h (by decide)) (And.intro (fun h => absurd h (by decide)) (And.intro (fun h => absurd h (by decide)) (And.intro (fun h => absurd h (by decide)) (And.intro (fun h => absurd h (by decide)) (And.intro (fun h => absurd h (by decide)) (And.intro (fun h => absurd h (by decide)) (And.intro (fun h => absurd h (by decide)) (And.intro (fun h => absurd h (by decide)) trivial))))))))))))))), hG.tr zinA_G, zinA_new⟩
  have hGi := hG9
  have X9 := X.grow hZ9.inA
  have hG9r : zG ad9 (Ki.1, zinN Ki.2 4).2 ad9 (Ki.1, zinN Ki.2 4).2 := zG.rf
  replace hl : lv_has ls 2 [(0, .ref (ad9 4 (Ki.2 4) 0))] := by rw [hq9]; exact hl
  replace hZ9 : zH D ca ad9 lnC (Ki.1, zinN Ki.2 4).2 L9 (zinF F 4 (Ki.2 4) [0, 0, 0, 0, 0, 0, 0, 0, 0, 0, 0, 0, 0]) (zinB B 4 (Ki.2 4) (fun k _ => if k = 5 then -1 else 0)) A H8 := hZ9
  refine W.widen (k := 16 + cwC (Ki.1, zinN Ki.2 4) (Ki.1, zinN Ki.2 4)) (n := 10675 + swC (Ki.1, zinN Ki.2 4) (Ki.1, zinN Ki.2 4)) (Nat.le_add_right _ _) (Nat.le_add_right _ _) ?_
  refine lv_iconst (v := iI 0) hx hb d_6_1_44 rfl ?_
  refine lv_istore_n (lv' := [(1, .int (iI 0)), (0, .ref (ad9 4 (Ki.2 4) 0))]) hx hb d_6_1_45 rfl hl (by decide) rfl (fun ls hl => ?_)
  exact b_Part_init_46 hGi X9 hG9r hf hZ9 hS8 (lv_sub hl [0, 1] rfl) hq9

theorem wl_Part : ∀ {n : Nat} {K : zK} {l1 : Int} {l0 : Int} {F : zF} {B : zB} {r : Int} {F9 : zF} {B9 : zB} {K9 : zK}, f_Part_init_46 n K l1 l0 F B = some (r, F9, B9, K9) → 0 ≤ l1 → l1 ≤ 200 → cwN K9.2 = cwN K.2 + 3 * (200 - l1).toNat ∧ swN K9.2 = swN K.2 + 26 * (200 - l1).toNat := by
  intro n
  induction n with
  | zero =>
    intros
    rename_i hf _ _
    cases hf
  | succ n ih =>
    intro K l1 l0 F B r F9 B9 K9 hf h0 h1
    replace hf : (if r32 l1 then (if 200 ≤ l1 then some (l0, F, B, K) else if 0 ≤ l0 ∧ l0 < K.2 4 then zbindM (f_Event_init K F B) (fun r16 F16 B16 K16 => if 0 ≤ r16 ∧ r16 < K16.2 1 then f_Part_init_65 (f_Part_init_46 n) K16 l1 l0 l0 l1 r16 F16 B16 else none) else none) else none) = some (r, F9, B9, K9) := hf
    obtain ⟨-, hf⟩ := gif hf
    by_cases h : 200 ≤ l1
    · replace hf := gpos hf h
      cases hf
      obtain rfl : l1 = 200 := by omega
      exact ⟨rfl, rfl⟩
    · replace hf := gneg hf h
      obtain ⟨-, hf⟩ := gif hf
      obtain ⟨r1, F1, B1, K1, hc, hf⟩ := gbindM hf
      obtain ⟨-, hf⟩ := gif hf
      have hw := w_Event_init hc
      obtain ⟨-, hf⟩ := gif hf
      obtain ⟨-, hf⟩ := gif hf
      obtain ⟨-, hf⟩ := gif hf
      have hi := ih hf (by omega) (by omega)
      have e : (200 - l1).toNat = (200 - (l1 + 1)).toNat + 1 := by omega
      rw [e]
      generalize (200 - (l1 + 1)).toNat = z at hi ⊢
      omega
theorem wx_Part_init {Ki : zK} {F : zF} {B : zB} {r : Int} {F9 : zF} {B9 : zB} {K9 : zK} (hf : f_Part_init Ki F B = some (r, F9, B9, K9)) : cwN K9.2 = cwN Ki.2 + 617 ∧ swN K9.2 = swN Ki.2 + 15888 ∧ cwN (zinN Ki.2 4) = cwN Ki.2 + 17 ∧ swN (zinN Ki.2 4) = swN Ki.2 + 10688 := by
  replace hf : (if 0 ≤ Ki.2 4 then if (-1 : Int) < Ki.2 1 then f_Part_init_46 (Ki.1, zinN Ki.2 4).1 (Ki.1, zinN Ki.2 4) 0 (Ki.2 4) (zinF F 4 (Ki.2 4) [0, 0, 0, 0, 0, 0, 0, 0, 0, 0, 0, 0, 0]) (zinB B 4 (Ki.2 4) (fun k _ => if k = 5 then -1 else 0)) else none else none) = some (r, F9, B9, K9) := hf
  obtain ⟨h0, hf⟩ := gif hf
  obtain ⟨-, hf⟩ := gif hf
  have h := wl_Part hf (by decide) (by decide)
  have e : ((Ki.2 4) + 1).toNat = (Ki.2 4).toNat + 1 := by omega
  have k1 : cwN (zinN Ki.2 4) = cwN Ki.2 + 17 ∧ swN (zinN Ki.2 4) = swN Ki.2 + 10688 := by
    simp only [cwN, swN, zinN, reduceIte, Nat.reduceEqDiff, e]
    generalize (Ki.2 1).toNat = x1
    generalize (Ki.2 2).toNat = x2
    generalize (Ki.2 4).toNat = x4
    generalize (Ki.2 5).toNat = x5
    generalize (Ki.2 6).toNat = x6
    generalize (Ki.2 8).toNat = x8
    generalize (Ki.2 9).toNat = x9
    clear e h hf
    omega
  have h2 : cwN K9.2 = cwN (zinN Ki.2 4) + 3 * 200 ∧ swN K9.2 = swN (zinN Ki.2 4) + 26 * 200 := h
  omega

theorem w_Part_init {Ki : zK} {F : zF} {B : zB} {r : Int} {F9 : zF} {B9 : zB} {K9 : zK} (hf : f_Part_init Ki F B = some (r, F9, B9, K9)) : cwN K9.2 = cwN Ki.2 + 617 ∧ swN K9.2 = swN Ki.2 + 15888 := by
  have h := wx_Part_init hf
  omega

theorem c_Part_init {l : Launch} {D : va_G} {ca : Nat → ClassId} {ad : Nat → Int → Nat → Nat} {L : List Nat} {aS vS : Nat → Nat} {sz a : Nat} {Ki : zK} {F : zF} {B : zB} {r : Int} {F9 : zF} {B9 : zB} {K9 : zK} (hf : f_Part_init Ki F B = some (r, F9, B9, K9)) : Met l ({ cls := "StaveHouse$Part", name := "<init>", desc := "()V" } : Jvm.MethodName) (Cond.code ({ cls := "StaveHouse$Part", name := "<init>", desc := "()V" } : Jvm.MethodName) prog_6_method_1_code 2 (Option.none : Option Jvm.ClassFile.FieldType) :: wAll) ({ frames := 2, cells := 616, slots := 15875, locals := 32 } : Room) (va_Pc [.ref a] (zPreX D ca ad lnC Ki.2 L aS vS F B a (.inr (4, rg 13 (fun j => defaultValue (tyX4 j)))) sz)) (Q_Part_init Ki D ca ad a r F9 B9 K9 (zA (a :: L) sz)) (616) (15875) (zA (a :: L) sz) := by
  have h := wx_Part_init hf
  have h1 := cx_Part_init (l := l) (D := D) (ca := ca) (ad := ad) (L := L) (aS := aS) (vS := vS) (sz := sz) (a := a) hf
  have e1 : 16 + cwC (Ki.1, zinN Ki.2 4) K9 = 616 := by
    show _ + (cwN K9.2 - cwN (zinN Ki.2 4)) = _
    omega
  have e2 : 10675 + swC (Ki.1, zinN Ki.2 4) K9 = 15875 := by
    show _ + (swN K9.2 - swN (zinN Ki.2 4)) = _
    omega
  rw [e1, e2] at h1
  exact h1

