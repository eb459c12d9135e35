theorem k_11_87 : (Jvm.Cond.fieldLink "StaveHouseModel" (995 : Nat) "StaveHouseModel" "p" "I") ∈ wAll := wA_11 (j := 87) rfl rfl
theorem k_13_2 : (Jvm.Cond.constantLong "StaveHouseModel" (1009 : Nat) (3000 : Int64)) ∈ wAll := wA_13 (j := 2) rfl rfl
theorem k_11_88 : (Jvm.Cond.fieldLink "StaveHouseModel" (997 : Nat) "StaveHouseModel" "limit" "J") ∈ wAll := wA_11 (j := 88) rfl rfl
theorem k_11_92 : (Jvm.Cond.fieldLink "StaveHouseModel" (1011 : Nat) "StaveHouseModel" "nowSounds" "I") ∈ wAll := wA_11 (j := 92) rfl rfl
theorem k_11_89 : (Jvm.Cond.fieldLink "StaveHouseModel" (1014 : Nat) "StaveHouseModel" "hasTime" "Z") ∈ wAll := wA_11 (j := 89) rfl rfl
theorem k_11_90 : (Jvm.Cond.fieldLink "StaveHouseModel" (1017 : Nat) "StaveHouseModel" "hasKey" "Z") ∈ wAll := wA_11 (j := 90) rfl rfl
theorem k_11_91 : (Jvm.Cond.fieldLink "StaveHouseModel" (1020 : Nat) "StaveHouseModel" "hasTempo" "Z") ∈ wAll := wA_11 (j := 91) rfl rfl
theorem k_13_22 : (Jvm.Cond.code ({ cls := "StaveHouseModel", name := "failByte", desc := "(II)V" } : Jvm.MethodName) prog_15_method_135_code (3 : Nat) (Option.none : Option Jvm.ClassFile.FieldType)) ∈ wAll := wA_13 (j := 22) rfl rfl
theorem k_13_19 : (Jvm.Cond.methodLink "StaveHouseModel" (1000 : Nat) ({ cls := "StaveHouseModel", name := "failByte", desc := "(II)V" } : Jvm.MethodName)) ∈ wAll := wA_13 (j := 19) rfl rfl
theorem k_13_21 : (Jvm.Cond.instanceMethod ({ cls := "StaveHouseModel", name := "failByte", desc := "(II)V" } : Jvm.MethodName)) ∈ wAll := wA_13 (j := 21) rfl rfl
theorem ks_153 : (Jvm.Cond.selects "StaveHouseModel" ({ cls := "StaveHouseModel", name := "failByte", desc := "(II)V" } : Jvm.MethodName) ({ cls := "StaveHouseModel", name := "failByte", desc := "(II)V" } : Jvm.MethodName)) ∈ wAll := wA_s (j := 153) rfl rfl
theorem k_13_14 : (Jvm.Cond.code ({ cls := "StaveHouseModel", name := "next", desc := "()I" } : Jvm.MethodName) prog_15_method_136_code (1 : Nat) (Option.some Jvm.ClassFile.FieldType.int)) ∈ wAll := wA_13 (j := 14) rfl rfl
theorem k_13_11 : (Jvm.Cond.methodLink "StaveHouseModel" (1003 : Nat) ({ cls := "StaveHouseModel", name := "next", desc := "()I" } : Jvm.MethodName)) ∈ wAll := wA_13 (j := 11) rfl rfl
theorem k_13_13 : (Jvm.Cond.instanceMethod ({ cls := "StaveHouseModel", name := "next", desc := "()I" } : Jvm.MethodName)) ∈ wAll := wA_13 (j := 13) rfl rfl
theorem ks_151 : (Jvm.Cond.selects "StaveHouseModel" ({ cls := "StaveHouseModel", name := "next", desc := "()I" } : Jvm.MethodName) ({ cls := "StaveHouseModel", name := "next", desc := "()I" } : Jvm.MethodName)) ∈ wAll := wA_s (j := 151) rfl rfl
theorem k_13_10 : (Jvm.Cond.code ({ cls := "StaveHouseModel", name := "expect", desc := "(Ljava/lang/String;)V" } : Jvm.MethodName) prog_15_method_137_code (4 : Nat) (Option.none : Option Jvm.ClassFile.FieldType)) ∈ wAll := wA_13 (j := 10) rfl rfl
theorem k_13_7 : (Jvm.Cond.methodLink "StaveHouseModel" (1036 : Nat) ({ cls := "StaveHouseModel", name := "expect", desc := "(Ljava/lang/String;)V" } : Jvm.MethodName)) ∈ wAll := wA_13 (j := 7) rfl rfl
theorem k_13_9 : (Jvm.Cond.instanceMethod ({ cls := "StaveHouseModel", name := "expect", desc := "(Ljava/lang/String;)V" } : Jvm.MethodName)) ∈ wAll := wA_13 (j := 9) rfl rfl
theorem ks_150 : (Jvm.Cond.selects "StaveHouseModel" ({ cls := "StaveHouseModel", name := "expect", desc := "(Ljava/lang/String;)V" } : Jvm.MethodName) ({ cls := "StaveHouseModel", name := "expect", desc := "(Ljava/lang/String;)V" } : Jvm.MethodName)) ∈ wAll := wA_s (j := 150) rfl rfl
theorem k_13_30 : (Jvm.Cond.code ({ cls := "StaveHouseModel", name := "whole", desc := "(I)J" } : Jvm.MethodName) prog_15_method_138_code (5 : Nat) (Option.some Jvm.ClassFile.FieldType.long)) ∈ wAll := wA_13 (j := 30) rfl rfl
theorem k_13_27 : (Jvm.Cond.methodLink "StaveHouseModel" (1006 : Nat) ({ cls := "StaveHouseModel", name := "whole", desc := "(I)J" } : Jvm.MethodName)) ∈ wAll := wA_13 (j := 27) rfl rfl
theorem k_13_29 : (Jvm.Cond.instanceMethod ({ cls := "StaveHouseModel", name := "whole", desc := "(I)J" } : Jvm.MethodName)) ∈ wAll := wA_13 (j := 29) rfl rfl
theorem ks_155 : (Jvm.Cond.selects "StaveHouseModel" ({ cls := "StaveHouseModel", name := "whole", desc := "(I)J" } : Jvm.MethodName) ({ cls := "StaveHouseModel", name := "whole", desc := "(I)J" } : Jvm.MethodName)) ∈ wAll := wA_s (j := 155) rfl rfl
theorem k_13_35 : (Jvm.Cond.code ({ cls := "StaveHouseModel", name := "within", desc := "(III)I" } : Jvm.MethodName) prog_15_method_139_code (7 : Nat) (Option.some Jvm.ClassFile.FieldType.int)) ∈ wAll := wA_13 (j := 35) rfl rfl
theorem k_13_32 : (Jvm.Cond.methodLink "StaveHouseModel" (1041 : Nat) ({ cls := "StaveHouseModel", name := "within", desc := "(III)I" } : Jvm.MethodName)) ∈ wAll := wA_13 (j := 32) rfl rfl
theorem k_13_34 : (Jvm.Cond.instanceMethod ({ cls := "StaveHouseModel", name := "within", desc := "(III)I" } : Jvm.MethodName)) ∈ wAll := wA_13 (j := 34) rfl rfl
theorem ks_156 : (Jvm.Cond.selects "StaveHouseModel" ({ cls := "StaveHouseModel", name := "within", desc := "(III)I" } : Jvm.MethodName) ({ cls := "StaveHouseModel", name := "within", desc := "(III)I" } : Jvm.MethodName)) ∈ wAll := wA_s (j := 156) rfl rfl
theorem k_13_6 : (Jvm.Cond.code ({ cls := "StaveHouseModel", name := "header", desc := "()J" } : Jvm.MethodName) prog_15_method_141_code (6 : Nat) (Option.some Jvm.ClassFile.FieldType.long)) ∈ wAll := wA_13 (j := 6) rfl rfl
theorem k_13_3 : (Jvm.Cond.methodLink "StaveHouseModel" (1023 : Nat) ({ cls := "StaveHouseModel", name := "header", desc := "()J" } : Jvm.MethodName)) ∈ wAll := wA_13 (j := 3) rfl rfl
theorem k_13_5 : (Jvm.Cond.instanceMethod ({ cls := "StaveHouseModel", name := "header", desc := "()J" } : Jvm.MethodName)) ∈ wAll := wA_13 (j := 5) rfl rfl
theorem ks_149 : (Jvm.Cond.selects "StaveHouseModel" ({ cls := "StaveHouseModel", name := "header", desc := "()J" } : Jvm.MethodName) ({ cls := "StaveHouseModel", name := "header", desc := "()J" } : Jvm.MethodName)) ∈ wAll := wA_s (j := 149) rfl rfl
theorem d_15_140_0 : decode prog_15_method_140_code 0 = .ok (.aload_n 0, 1) := by decide +kernel
theorem d_15_140_1 : decode prog_15_method_140_code 1 = .ok (.iconst 0, 1) := by decide +kernel
theorem d_15_140_2 : decode prog_15_method_140_code 2 = .ok (.putfield 356, 3) := by decide +kernel
theorem d_15_140_5 : decode prog_15_method_140_code 5 = .ok (.aload_n 0, 1) := by decide +kernel
theorem d_15_140_6 : decode prog_15_method_140_code 6 = .ok (.iconst 0, 1) := by decide +kernel
theorem d_15_140_7 : decode prog_15_method_140_code 7 = .ok (.putfield 995, 3) := by decide +kernel
theorem d_15_140_10 : decode prog_15_method_140_code 10 = .ok (.aload_n 0, 1) := by decide +kernel
theorem d_15_140_11 : decode prog_15_method_140_code 11 = .ok (.ldc2_w 1009, 3) := by decide +kernel
theorem d_15_140_14 : decode prog_15_method_140_code 14 = .ok (.putfield 997, 3) := by decide +kernel
theorem d_15_140_17 : decode prog_15_method_140_code 17 = .ok (.aload_n 0, 1) := by decide +kernel
theorem d_15_140_18 : decode prog_15_method_140_code 18 = .ok (.iconst 0, 1) := by decide +kernel
theorem d_15_140_19 : decode prog_15_method_140_code 19 = .ok (.putfield 1011, 3) := by decide +kernel
theorem d_15_140_22 : decode prog_15_method_140_code 22 = .ok (.aload_n 0, 1) := by decide +kernel
theorem d_15_140_23 : decode prog_15_method_140_code 23 = .ok (.iconst 0, 1) := by decide +kernel
theorem d_15_140_24 : decode prog_15_method_140_code 24 = .ok (.putfield 1014, 3) := by decide +kernel
theorem d_15_140_27 : decode prog_15_method_140_code 27 = .ok (.aload_n 0, 1) := by decide +kernel
theorem d_15_140_28 : decode prog_15_method_140_code 28 = .ok (.iconst 0, 1) := by decide +kernel
theorem d_15_140_29 : decode prog_15_method_140_code 29 = .ok (.putfield 1017, 3) := by decide +kernel
theorem d_15_140_32 : decode prog_15_method_140_code 32 = .ok (.aload_n 0, 1) := by decide +kernel
theorem d_15_140_33 : decode prog_15_method_140_code 33 = .ok (.iconst 0, 1) := by decide +kernel
theorem d_15_140_34 : decode prog_15_method_140_code 34 = .ok (.putfield 1020, 3) := by decide +kernel
theorem d_15_140_37 : decode prog_15_method_140_code 37 = .ok (.aload_n 0, 1) := by decide +kernel
theorem d_15_140_38 : decode prog_15_method_140_code 38 = .ok (.getfield 233, 3) := by decide +kernel
theorem d_15_140_41 : decode prog_15_method_140_code 41 = .ok (.iconst 2, 1) := by decide +kernel
theorem d_15_140_42 : decode prog_15_method_140_code 42 = .ok (.iconst 0, 1) := by decide +kernel
theorem d_15_140_43 : decode prog_15_method_140_code 43 = .ok (.iastore, 1) := by decide +kernel
theorem d_15_140_44 : decode prog_15_method_140_code 44 = .ok (.aload_n 0, 1) := by decide +kernel
theorem d_15_140_45 : decode prog_15_method_140_code 45 = .ok (.getfield 233, 3) := by decide +kernel
theorem d_15_140_48 : decode prog_15_method_140_code 48 = .ok (.iconst 3, 1) := by decide +kernel
theorem d_15_140_49 : decode prog_15_method_140_code 49 = .ok (.iconst 0, 1) := by decide +kernel
theorem d_15_140_50 : decode prog_15_method_140_code 50 = .ok (.iastore, 1) := by decide +kernel
theorem d_15_140_51 : decode prog_15_method_140_code 51 = .ok (.aload_n 0, 1) := by decide +kernel
theorem d_15_140_52 : decode prog_15_method_140_code 52 = .ok (.getfield 233, 3) := by decide +kernel
theorem d_15_140_55 : decode prog_15_method_140_code 55 = .ok (.iconst 4, 1) := by decide +kernel
theorem d_15_140_56 : decode prog_15_method_140_code 56 = .ok (.iconst 4, 1) := by decide +kernel
theorem d_15_140_57 : decode prog_15_method_140_code 57 = .ok (.iastore, 1) := by decide +kernel
theorem d_15_140_58 : decode prog_15_method_140_code 58 = .ok (.aload_n 0, 1) := by decide +kernel
theorem d_15_140_59 : decode prog_15_method_140_code 59 = .ok (.getfield 233, 3) := by decide +kernel
theorem d_15_140_62 : decode prog_15_method_140_code 62 = .ok (.iconst 5, 1) := by decide +kernel
theorem d_15_140_63 : decode prog_15_method_140_code 63 = .ok (.iconst 4, 1) := by decide +kernel
theorem d_15_140_64 : decode prog_15_method_140_code 64 = .ok (.iastore, 1) := by decide +kernel
theorem d_15_140_65 : decode prog_15_method_140_code 65 = .ok (.aload_n 0, 1) := by decide +kernel
theorem d_15_140_66 : decode prog_15_method_140_code 66 = .ok (.getfield 233, 3) := by decide +kernel
theorem d_15_140_69 : decode prog_15_method_140_code 69 = .ok (.bipush 6, 2) := by decide +kernel
theorem d_15_140_71 : decode prog_15_method_140_code 71 = .ok (.bipush 120, 2) := by decide +kernel
theorem d_15_140_73 : decode prog_15_method_140_code 73 = .ok (.iastore, 1) := by decide +kernel
theorem d_15_140_74 : decode prog_15_method_140_code 74 = .ok (.aload_n 0, 1) := by decide +kernel
theorem d_15_140_75 : decode prog_15_method_140_code 75 = .ok (.invokevirtual 1023, 3) := by decide +kernel
theorem d_15_141_0 : decode prog_15_method_141_code 0 = .ok (.aload_n 0, 1) := by decide +kernel
theorem d_15_141_1 : decode prog_15_method_141_code 1 = .ok (.ldc_w 969, 3) := by decide +kernel
theorem d_15_141_4 : decode prog_15_method_141_code 4 = .ok (.invokevirtual 1036, 3) := by decide +kernel
theorem d_15_137_0 : decode prog_15_method_137_code 0 = .ok (.iconst 0, 1) := by decide +kernel
theorem d_15_137_1 : decode prog_15_method_137_code 1 = .ok (.istore_n 2, 1) := by decide +kernel
theorem d_15_137_2 : decode prog_15_method_137_code 2 = .ok (.iload_n 2, 1) := by decide +kernel
theorem d_15_137_3 : decode prog_15_method_137_code 3 = .ok (.aload_n 1, 1) := by decide +kernel
theorem d_15_137_4 : decode prog_15_method_137_code 4 = .ok (.invokevirtual 323, 3) := by decide +kernel
theorem d_15_137_7 : decode prog_15_method_137_code 7 = .ok (.if_icmp .ge 41, 3) := by decide +kernel
theorem d_15_137_10 : decode prog_15_method_137_code 10 = .ok (.aload_n 0, 1) := by decide +kernel
theorem d_15_137_11 : decode prog_15_method_137_code 11 = .ok (.invokevirtual 1003, 3) := by decide +kernel
theorem d_15_136_0 : decode prog_15_method_136_code 0 = .ok (.aload_n 0, 1) := by decide +kernel
theorem d_15_136_1 : decode prog_15_method_136_code 1 = .ok (.invokevirtual 376, 3) := by decide +kernel
theorem d_15_136_4 : decode prog_15_method_136_code 4 = .ok (.ifCond .ne 5, 3) := by decide +kernel
theorem d_15_136_9 : decode prog_15_method_136_code 9 = .ok (.aload_n 0, 1) := by decide +kernel
theorem d_15_136_10 : decode prog_15_method_136_code 10 = .ok (.getfield 995, 3) := by decide +kernel
theorem d_15_136_13 : decode prog_15_method_136_code 13 = .ok (.i2l, 1) := by decide +kernel
theorem d_15_136_14 : decode prog_15_method_136_code 14 = .ok (.aload_n 0, 1) := by decide +kernel
theorem d_15_136_15 : decode prog_15_method_136_code 15 = .ok (.getfield 997, 3) := by decide +kernel
theorem d_15_136_18 : decode prog_15_method_136_code 18 = .ok (.lcmp, 1) := by decide +kernel
theorem d_15_136_19 : decode prog_15_method_136_code 19 = .ok (.ifCond .ge 14, 3) := by decide +kernel
theorem d_15_136_22 : decode prog_15_method_136_code 22 = .ok (.aload_n 0, 1) := by decide +kernel
theorem d_15_136_23 : decode prog_15_method_136_code 23 = .ok (.getfield 995, 3) := by decide +kernel
theorem d_15_136_26 : decode prog_15_method_136_code 26 = .ok (.aload_n 0, 1) := by decide +kernel
theorem d_15_136_27 : decode prog_15_method_136_code 27 = .ok (.getfield 296, 3) := by decide +kernel
theorem d_15_136_30 : decode prog_15_method_136_code 30 = .ok (.if_icmp .lt 36, 3) := by decide +kernel
theorem d_15_136_33 : decode prog_15_method_136_code 33 = .ok (.aload_n 0, 1) := by decide +kernel
theorem d_15_136_34 : decode prog_15_method_136_code 34 = .ok (.iconst 2, 1) := by decide +kernel
theorem d_15_136_35 : decode prog_15_method_136_code 35 = .ok (.aload_n 0, 1) := by decide +kernel
theorem d_15_136_36 : decode prog_15_method_136_code 36 = .ok (.getfield 997, 3) := by decide +kernel
theorem d_15_136_39 : decode prog_15_method_136_code 39 = .ok (.aload_n 0, 1) := by decide +kernel
theorem d_15_136_40 : decode prog_15_method_136_code 40 = .ok (.getfield 296, 3) := by decide +kernel
theorem d_15_136_43 : decode prog_15_method_136_code 43 = .ok (.i2l, 1) := by decide +kernel
theorem d_15_136_44 : decode prog_15_method_136_code 44 = .ok (.lcmp, 1) := by decide +kernel
theorem d_15_136_45 : decode prog_15_method_136_code 45 = .ok (.ifCond .ge 10, 3) := by decide +kernel
theorem d_15_136_55 : decode prog_15_method_136_code 55 = .ok (.aload_n 0, 1) := by decide +kernel
theorem d_15_136_56 : decode prog_15_method_136_code 56 = .ok (.getfield 296, 3) := by decide +kernel
theorem d_15_136_59 : decode prog_15_method_136_code 59 = .ok (.i2l, 1) := by decide +kernel
theorem d_15_136_60 : decode prog_15_method_136_code 60 = .ok (.l2i, 1) := by decide +kernel
theorem d_15_136_61 : decode prog_15_method_136_code 61 = .ok (.invokevirtual 1000, 3) := by decide +kernel
theorem d_15_135_0 : decode prog_15_method_135_code 0 = .ok (.aload_n 0, 1) := by decide +kernel
theorem d_15_135_1 : decode prog_15_method_135_code 1 = .ok (.getfield 356, 3) := by decide +kernel
theorem d_15_135_4 : decode prog_15_method_135_code 4 = .ok (.ifCond .le 4, 3) := by decide +kernel
theorem d_15_135_8 : decode prog_15_method_135_code 8 = .ok (.aload_n 0, 1) := by decide +kernel
theorem d_15_135_9 : decode prog_15_method_135_code 9 = .ok (.iload_n 1, 1) := by decide +kernel
theorem d_15_135_10 : decode prog_15_method_135_code 10 = .ok (.putfield 356, 3) := by decide +kernel
theorem d_15_135_13 : decode prog_15_method_135_code 13 = .ok (.aload_n 0, 1) := by decide +kernel
theorem d_15_135_14 : decode prog_15_method_135_code 14 = .ok (.iload_n 2, 1) := by decide +kernel
theorem d_15_135_15 : decode prog_15_method_135_code 15 = .ok (.putfield 359, 3) := by decide +kernel
theorem d_15_135_18 : decode prog_15_method_135_code 18 = .ok (.return_, 1) := by decide +kernel
theorem d_15_136_64 : decode prog_15_method_136_code 64 = .ok (.iconst 0, 1) := by decide +kernel
theorem d_15_136_65 : decode prog_15_method_136_code 65 = .ok (.ireturn, 1) := by decide +kernel
theorem d_15_137_14 : decode prog_15_method_137_code 14 = .ok (.istore_n 3, 1) := by decide +kernel
theorem d_15_137_15 : decode prog_15_method_137_code 15 = .ok (.aload_n 0, 1) := by decide +kernel
theorem d_15_137_16 : decode prog_15_method_137_code 16 = .ok (.invokevirtual 376, 3) := by decide +kernel
theorem d_15_137_19 : decode prog_15_method_137_code 19 = .ok (.ifCond .eq 23, 3) := by decide +kernel
theorem d_15_137_42 : decode prog_15_method_137_code 42 = .ok (.iinc 2 1, 3) := by decide +kernel
theorem d_15_137_45 : decode prog_15_method_137_code 45 = .ok (.goto (-43), 3) := by decide +kernel
theorem d_15_136_7 : decode prog_15_method_136_code 7 = .ok (.iconst 0, 1) := by decide +kernel
theorem d_15_136_8 : decode prog_15_method_136_code 8 = .ok (.ireturn, 1) := by decide +kernel
theorem d_15_137_48 : decode prog_15_method_137_code 48 = .ok (.return_, 1) := by decide +kernel
theorem d_15_141_7 : decode prog_15_method_141_code 7 = .ok (.aload_n 0, 1) := by decide +kernel
theorem d_15_141_8 : decode prog_15_method_141_code 8 = .ok (.getfield 995, 3) := by decide +kernel
theorem d_15_141_11 : decode prog_15_method_141_code 11 = .ok (.istore_n 1, 1) := by decide +kernel
theorem d_15_141_12 : decode prog_15_method_141_code 12 = .ok (.aload_n 0, 1) := by decide +kernel
theorem d_15_141_13 : decode prog_15_method_141_code 13 = .ok (.iconst 4, 1) := by decide +kernel
theorem d_15_141_14 : decode prog_15_method_141_code 14 = .ok (.invokevirtual 1006, 3) := by decide +kernel
theorem d_15_138_0 : decode prog_15_method_138_code 0 = .ok (.lconst 0, 1) := by decide +kernel
theorem d_15_138_1 : decode prog_15_method_138_code 1 = .ok (.lstore_n 2, 1) := by decide +kernel
theorem d_15_138_2 : decode prog_15_method_138_code 2 = .ok (.iconst 0, 1) := by decide +kernel
theorem d_15_138_3 : decode prog_15_method_138_code 3 = .ok (.istore 4, 2) := by decide +kernel
theorem d_15_138_5 : decode prog_15_method_138_code 5 = .ok (.iload 4, 2) := by decide +kernel
theorem d_15_138_7 : decode prog_15_method_138_code 7 = .ok (.iload_n 1, 1) := by decide +kernel
theorem d_15_138_8 : decode prog_15_method_138_code 8 = .ok (.if_icmp .ge 20, 3) := by decide +kernel
theorem d_15_138_11 : decode prog_15_method_138_code 11 = .ok (.lload_n 2, 1) := by decide +kernel
theorem d_15_138_12 : decode prog_15_method_138_code 12 = .ok (.bipush 8, 2) := by decide +kernel
theorem d_15_138_14 : decode prog_15_method_138_code 14 = .ok (.lshl, 1) := by decide +kernel
theorem d_15_138_15 : decode prog_15_method_138_code 15 = .ok (.aload_n 0, 1) := by decide +kernel
theorem d_15_138_16 : decode prog_15_method_138_code 16 = .ok (.invokevirtual 1003, 3) := by decide +kernel
theorem d_15_138_19 : decode prog_15_method_138_code 19 = .ok (.i2l, 1) := by decide +kernel
theorem d_15_138_20 : decode prog_15_method_138_code 20 = .ok (.lor, 1) := by decide +kernel
theorem d_15_138_21 : decode prog_15_method_138_code 21 = .ok (.lstore_n 2, 1) := by decide +kernel
theorem d_15_138_22 : decode prog_15_method_138_code 22 = .ok (.iinc 4 1, 3) := by decide +kernel
theorem d_15_138_25 : decode prog_15_method_138_code 25 = .ok (.goto (-20), 3) := by decide +kernel
theorem d_15_138_28 : decode prog_15_method_138_code 28 = .ok (.lload_n 2, 1) := by decide +kernel
theorem d_15_138_29 : decode prog_15_method_138_code 29 = .ok (.lreturn, 1) := by decide +kernel
theorem d_15_141_17 : decode prog_15_method_141_code 17 = .ok (.lstore_n 2, 1) := by decide +kernel
theorem d_15_141_18 : decode prog_15_method_141_code 18 = .ok (.aload_n 0, 1) := by decide +kernel
theorem d_15_141_19 : decode prog_15_method_141_code 19 = .ok (.invokevirtual 376, 3) := by decide +kernel
theorem d_15_141_22 : decode prog_15_method_141_code 22 = .ok (.ifCond .eq 17, 3) := by decide +kernel
theorem d_15_141_39 : decode prog_15_method_141_code 39 = .ok (.aload_n 0, 1) := by decide +kernel
theorem d_15_141_40 : decode prog_15_method_141_code 40 = .ok (.getfield 995, 3) := by decide +kernel
theorem d_15_141_43 : decode prog_15_method_141_code 43 = .ok (.i2l, 1) := by decide +kernel
theorem d_15_141_44 : decode prog_15_method_141_code 44 = .ok (.lload_n 2, 1) := by decide +kernel
theorem d_15_141_45 : decode prog_15_method_141_code 45 = .ok (.ladd, 1) := by decide +kernel
theorem d_15_141_46 : decode prog_15_method_141_code 46 = .ok (.lstore 4, 2) := by decide +kernel
theorem d_15_141_48 : decode prog_15_method_141_code 48 = .ok (.aload_n 0, 1) := by decide +kernel
theorem d_15_141_49 : decode prog_15_method_141_code 49 = .ok (.invokevirtual 1003, 3) := by decide +kernel
theorem d_15_141_52 : decode prog_15_method_141_code 52 = .ok (.ifCond .eq 21, 3) := by decide +kernel
theorem d_15_141_73 : decode prog_15_method_141_code 73 = .ok (.aload_n 0, 1) := by decide +kernel
theorem d_15_141_74 : decode prog_15_method_141_code 74 = .ok (.invokevirtual 1003, 3) := by decide +kernel
theorem d_15_141_77 : decode prog_15_method_141_code 77 = .ok (.iconst 1, 1) := by decide +kernel
theorem d_15_141_78 : decode prog_15_method_141_code 78 = .ok (.if_icmp .le 21, 3) := by decide +kernel
theorem d_15_141_99 : decode prog_15_method_141_code 99 = .ok (.aload_n 0, 1) := by decide +kernel
theorem d_15_141_100 : decode prog_15_method_141_code 100 = .ok (.getfield 233, 3) := by decide +kernel
theorem d_15_141_103 : decode prog_15_method_141_code 103 = .ok (.iconst 0, 1) := by decide +kernel
theorem d_15_141_104 : decode prog_15_method_141_code 104 = .ok (.aload_n 0, 1) := by decide +kernel
theorem d_15_141_105 : decode prog_15_method_141_code 105 = .ok (.iconst 2, 1) := by decide +kernel
theorem d_15_141_106 : decode prog_15_method_141_code 106 = .ok (.iconst 1, 1) := by decide +kernel
theorem d_15_141_107 : decode prog_15_method_141_code 107 = .ok (.bipush 8, 2) := by decide +kernel
theorem d_15_141_109 : decode prog_15_method_141_code 109 = .ok (.invokevirtual 1041, 3) := by decide +kernel
theorem d_15_139_0 : decode prog_15_method_139_code 0 = .ok (.aload_n 0, 1) := by decide +kernel
theorem d_15_139_1 : decode prog_15_method_139_code 1 = .ok (.getfield 995, 3) := by decide +kernel
theorem d_15_139_4 : decode prog_15_method_139_code 4 = .ok (.istore 4, 2) := by decide +kernel
theorem d_15_139_6 : decode prog_15_method_139_code 6 = .ok (.aload_n 0, 1) := by decide +kernel
theorem d_15_139_7 : decode prog_15_method_139_code 7 = .ok (.iload_n 1, 1) := by decide +kernel
theorem d_15_139_8 : decode prog_15_method_139_code 8 = .ok (.invokevirtual 1006, 3) := by decide +kernel
theorem d_15_139_11 : decode prog_15_method_139_code 11 = .ok (.lstore 5, 2) := by decide +kernel
theorem d_15_139_13 : decode prog_15_method_139_code 13 = .ok (.aload_n 0, 1) := by decide +kernel
theorem d_15_139_14 : decode prog_15_method_139_code 14 = .ok (.invokevirtual 376, 3) := by decide +kernel
theorem d_15_139_17 : decode prog_15_method_139_code 17 = .ok (.ifCond .eq 26, 3) := by decide +kernel
theorem d_15_139_43 : decode prog_15_method_139_code 43 = .ok (.lload 5, 2) := by decide +kernel
theorem d_15_139_45 : decode prog_15_method_139_code 45 = .ok (.l2i, 1) := by decide +kernel
theorem d_15_139_46 : decode prog_15_method_139_code 46 = .ok (.ireturn, 1) := by decide +kernel
theorem d_15_141_112 : decode prog_15_method_141_code 112 = .ok (.iastore, 1) := by decide +kernel
theorem d_15_141_113 : decode prog_15_method_141_code 113 = .ok (.aload_n 0, 1) := by decide +kernel
theorem d_15_141_114 : decode prog_15_method_141_code 114 = .ok (.getfield 233, 3) := by decide +kernel
theorem d_15_141_117 : decode prog_15_method_141_code 117 = .ok (.iconst 1, 1) := by decide +kernel
theorem d_15_141_118 : decode prog_15_method_141_code 118 = .ok (.aload_n 0, 1) := by decide +kernel
theorem d_15_141_119 : decode prog_15_method_141_code 119 = .ok (.iconst 2, 1) := by decide +kernel
theorem d_15_141_120 : decode prog_15_method_141_code 120 = .ok (.iconst 1, 1) := by decide +kernel
theorem d_15_141_121 : decode prog_15_method_141_code 121 = .ok (.sipush 960, 3) := by decide +kernel
theorem d_15_141_124 : decode prog_15_method_141_code 124 = .ok (.invokevirtual 1041, 3) := by decide +kernel
theorem d_15_141_127 : decode prog_15_method_141_code 127 = .ok (.iastore, 1) := by decide +kernel
theorem d_15_141_128 : decode prog_15_method_141_code 128 = .ok (.lload 4, 2) := by decide +kernel
theorem d_15_141_130 : decode prog_15_method_141_code 130 = .ok (.lreturn, 1) := by decide +kernel
theorem d_15_140_78 : decode prog_15_method_140_code 78 = .ok (.lstore_n 1, 1) := by decide +kernel
theorem d_15_140_79 : decode prog_15_method_140_code 79 = .ok (.iconst 0, 1) := by decide +kernel
theorem d_15_140_80 : decode prog_15_method_140_code 80 = .ok (.istore_n 3, 1) := by decide +kernel
theorem d_15_140_81 : decode prog_15_method_140_code 81 = .ok (.aload_n 0, 1) := by decide +kernel
theorem d_15_140_82 : decode prog_15_method_140_code 82 = .ok (.invokevirtual 376, 3) := by decide +kernel
theorem d_15_140_85 : decode prog_15_method_140_code 85 = .ok (.ifCond .eq 113, 3) := by decide +kernel
theorem d_15_140_198 : decode prog_15_method_140_code 198 = .ok (.aload_n 0, 1) := by decide +kernel
theorem d_15_140_199 : decode prog_15_method_140_code 199 = .ok (.iconst 0, 1) := by decide +kernel
theorem d_15_140_200 : decode prog_15_method_140_code 200 = .ok (.putfield 296, 3) := by decide +kernel
theorem d_15_140_203 : decode prog_15_method_140_code 203 = .ok (.aload_n 0, 1) := by decide +kernel
theorem d_15_140_204 : decode prog_15_method_140_code 204 = .ok (.invokevirtual 376, 3) := by decide +kernel
theorem d_15_140_207 : decode prog_15_method_140_code 207 = .ok (.ifCond .ne 16, 3) := by decide +kernel
theorem d_15_140_210 : decode prog_15_method_140_code 210 = .ok (.aload_n 0, 1) := by decide +kernel
theorem d_15_140_211 : decode prog_15_method_140_code 211 = .ok (.getfield 356, 3) := by decide +kernel
theorem d_15_140_214 : decode prog_15_method_140_code 214 = .ok (.bipush 16, 2) := by decide +kernel
theorem d_15_140_216 : decode prog_15_method_140_code 216 = .ok (.aload_n 0, 1) := by decide +kernel
theorem d_15_140_217 : decode prog_15_method_140_code 217 = .ok (.getfield 359, 3) := by decide +kernel
theorem d_15_140_220 : decode prog_15_method_140_code 220 = .ok (.imul, 1) := by decide +kernel
theorem d_15_140_221 : decode prog_15_method_140_code 221 = .ok (.iadd, 1) := by decide +kernel
theorem d_15_140_222 : decode prog_15_method_140_code 222 = .ok (.ireturn, 1) := by decide +kernel
abbrev Q_String_coder_13 (D : va_G) (ca : Nat → ClassId)  (A : Nat → Prop) : Array Value → State → Outcome → State → Prop := va_Qi (S := Unit) (fun (r : Int32) (u : Unit) => r = 0) (fun u => gB D ca A []) A
set_option maxHeartbeats 8000000 in
set_option maxRecDepth 100000 in
theorem c_String_coder_13 (l : Launch) (D : va_G) (ca : Nat → ClassId) (ad av : Nat → Nat) (sz : Nat)   : Met l ({ cls := "java/lang/String", name := "coder", desc := "()B" } : Jvm.MethodName) (Cond.code ({ cls := "java/lang/String", name := "coder", desc := "()B" } : Jvm.MethodName) prog_21_method_152_code 1 (Option.some Jvm.ClassFile.FieldType.byte) :: wAll) ({ frames := 0, cells := 0, slots := 0, locals := 0 } : Room) (va_Pc [.ref (ad 13)] (gPre D ca ad av [] sz)) (Q_String_coder_13 D ca  (va_A [] sz)) 0 0 (va_A [] sz) := by
  refine gMet (Qc := Q_String_coder_13 D ca ) (lv := [(0, .ref (ad 13))]) (by decide) (Nat.le_of_ble_eq_true rfl) rfl (fun A p e s m below meth c ls hx hb hr hml hown hts hlk hnm hl hP hK hD hS hA hX => ?_)
  have hown : s.vm.findClass "java/lang/String" = some m.cls := hown
  have hnm : meth.name = "coder" := hnm
  refine va_gets hx hb (hX.2.2.2.1 _ (List.mem_of_getElem? (i := 0) rfl)) hS hown (hts _ k_3_79) (fun _ h => h) d_21_152_0 ?_
  refine lv_if_eq (tgt := 13) hx hb d_21_152_3 (by decide) (fun c => absurd c (by decide)) (fun _ => ?_)
  refine lv_aload_n hx hb d_21_152_6 rfl (lv_at hl 0 rfl) ?_
  refine vk_getf hx hb ((hX.2.2.2.2.1 13 _ rfl).2.1 0 (by decide)).2.1 hS hown (hts _ k_15_171) (fun _ h => h) d_21_152_7 ?_
  refine W.eq (g2 := F0 m 10 ls [.int 0]) rfl ?_
  refine lv_goto (tgt := 14) hx hb d_21_152_10 (by decide) ?_
  have hP9 := hP.sub (ws' := []) [] rfl
  have hD9 := hD.sub (ws' := []) [] (by decide) rfl
  refine W.widen (k := 0) (n := 0) (Nat.le_of_ble_eq_true rfl) (Nat.le_of_ble_eq_true rfl) ?_
  exact W.zret (v := 0) hx hb hr rfl (fun t ht hW => ⟨⟨0, (), rfl, rfl, by rw [ht]; exact hP9, va_K.moved hW.alike hK, hD9⟩, hS.F ht⟩) hS.2.2 d_21_152_14
abbrev Q_String_length_13 (D : va_G) (ca : Nat → ClassId)  (A : Nat → Prop) : Array Value → State → Outcome → State → Prop := va_Qi (S := Unit) (fun (r : Int32) (u : Unit) => r = 4) (fun u => gB D ca A []) A
set_option maxHeartbeats 8000000 in
set_option maxRecDepth 100000 in
theorem c_String_length_13 (l : Launch) (D : va_G) (ca : Nat → ClassId) (ad av : Nat → Nat) (sz : Nat)   : Met l ({ cls := "java/lang/String", name := "length", desc := "()I" } : Jvm.MethodName) (Cond.code ({ cls := "java/lang/String", name := "length", desc := "()I" } : Jvm.MethodName) prog_21_method_54_code 1 (Option.some Jvm.ClassFile.FieldType.int) :: wAll) ({ frames := 1, cells := 0, slots := 0, locals := 20 } : Room) (va_Pc [.ref (ad 13)] (gPre D ca ad av [] sz)) (Q_String_length_13 D ca  (va_A [] sz)) 0 0 (va_A [] sz) := by
  refine gMet (Qc := Q_String_length_13 D ca ) (lv := [(0, .ref (ad 13))]) (by decide) (Nat.le_of_ble_eq_true rfl) rfl (fun A p e s m below meth c ls hx hb hr hml hown hts hlk hnm hl hP hK hD hS hA hX => ?_)
  have hown : s.vm.findClass "java/lang/String" = some m.cls := hown
  have hnm : meth.name = "length" := hnm
  refine lv_aload_n hx hb d_21_54_0 rfl (lv_at hl 0 rfl) ?_
  refine vk_getf hx hb ((hX.2.2.2.2.1 13 _ rfl).2.1 0 (by decide)).2.2.1 hS hown (hts _ k_15_170) (fun _ h => h) d_21_54_1 ?_
  refine W.eq (g2 := F0 m 4 ls [.ref (av 13)]) rfl ?_
  refine va_tlen (v := 4) hx hb ((hX.2.2.2.2.1 13 _ rfl).2.1 0 (by decide)).2.2.2 hS (by decide) d_21_54_4 ?_
  refine lv_aload_n hx hb d_21_54_5 rfl (lv_at hl 0 rfl) ?_
  have hFc1 := va_free (wc := []) hD hS hA [] rfl
  refine va_calli (va_runV (As := []) (rest := [.int 4]) ⟨hx, hb, hml, hown, hts⟩ (c_String_coder_13 l D ca ad av s.heap.size  ) (cwV 0 hts (gdV k_3_85 k_3_86 k_3_87 k_1_11 k_3_88) rfl rfl rfl (by decide +kernel) ⟨Nat.le_of_ble_eq_true rfl, Nat.le_of_ble_eq_true rfl⟩) ⟨gBlind, vk_recv (i := 0) (hX.2.2.2.2.1 13 _ rfl).2 (by decide) hS, gAt hP hD hK hS hA hX [] (by decide) rfl [.ref (ad 13)]⟩ rfl rfl hl.1 rfl (lv_room (Nat.le_of_ble_eq_true rfl)) d_21_54_6 ⟨Nat.le_of_ble_eq_true rfl, Nat.le_of_ble_eq_true rfl⟩) hS (fun q _ h => hFc1 q h) hFc1 (fun r1 u1 t1 H1 locs1 ht1 hvm1 hw1 hB1 hz1 hk1 hS1 => ?_)
  have hr1 := hw1
  obtain ⟨hP1, hD1⟩ := gJoin (wr := []) (w1 := []) hP hD [] [] rfl rfl (by decide) (by decide) hk1 hFc1 ht1 hB1
  have hP1 : va_P D cls [] H1 := hP1
  have hD1 : va_D A [] := hD1
  refine W.widen (k := 0) (n := 0) (Nat.le_of_ble_eq_true rfl) (Nat.le_of_ble_eq_true rfl) ?_
  subst hr1
  refine lv_ishr hx hb d_21_54_9 ?_
  refine lv_topi (fun y2 ey2 => ?_)
  obtain rfl : y2 = 4 := ey2.trans (by decide)
  have hP9 := hP1.sub (ws' := []) [] rfl
  have hD9 := hD1.sub (ws' := []) [] (by decide) rfl
  refine W.widen (k := 0) (n := 0) (Nat.le_of_ble_eq_true rfl) (Nat.le_of_ble_eq_true rfl) ?_
  exact W.iret (v := 4) hx hb hr (fun t ht hW => ⟨⟨4, (), rfl, rfl, by rw [ht]; exact hP9, va_K.moved hW.alike hK, hD9⟩, hS1.F ht⟩) hS1.2.2 d_21_54_10
abbrev Q_M_failByte_0 (D : va_G) (ca : Nat → ClassId) (a0 : Nat) (g0 : Nat → Value) (A : Nat → Prop) : Array Value → State → Outcome → State → Prop := va_Qv (S := (Nat → Value)) (fun (u : (Nat → Value)) => gM g0 u [18, 17] ∧ gF u [(18, .int 0), (17, .int 2)]) (fun u => gB D ca A [(a0, .inr (14, rg 107 u))]) A
set_option maxHeartbeats 8000000 in
set_option maxRecDepth 100000 in
theorem c_M_failByte_0 (l : Launch) (D : va_G) (ca : Nat → ClassId) (ad av : Nat → Nat) (sz : Nat) (a0 : Nat) (g0 : Nat → Value) (hp0 : gF g0 [(17, .int 0)]) : Met l ({ cls := "StaveHouseModel", name := "failByte", desc := "(II)V" } : Jvm.MethodName) (Cond.code ({ cls := "StaveHouseModel", name := "failByte", desc := "(II)V" } : Jvm.MethodName) prog_15_method_135_code 3 (Option.none : Option Jvm.ClassFile.FieldType) :: wAll) ({ frames := 0, cells := 0, slots := 0, locals := 0 } : Room) (va_Pc [.ref a0, .int 2, .int 0] (gPre D ca ad av [(a0, .inr (14, rg 107 g0))] sz)) (Q_M_failByte_0 D ca a0 g0 (va_A [(a0, .inr (14, rg 107 g0))] sz)) 0 0 (va_A [(a0, .inr (14, rg 107 g0))] sz) := by
  refine gMet (Qc := Q_M_failByte_0 D ca a0 g0) (lv := [(0, .ref a0), (1, .int 2), (2, .int 0)]) (by decide) (Nat.le_of_ble_eq_true rfl) rfl (fun A p e s m below meth c ls hx hb hr hml hown hts hlk hnm hl hP hK hD hS hA hX => ?_)
  have hown : s.vm.findClass "StaveHouseModel" = some m.cls := hown
  have hnm : meth.name = "failByte" := hnm
  refine lv_aload_n hx hb d_15_135_0 rfl (lv_at hl 0 rfl) ?_
  refine gget hx hb hts inW_14 hown hK hP 0 rfl rfl hp0 0 rfl (by decide) k_11_15 d_15_135_1 ?_
  refine lv_if_le (tgt := 8) hx hb d_15_135_4 (by decide) (fun _ => ?_) (fun c => absurd (by decide) c)
  refine lv_aload_n hx hb d_15_135_8 rfl (lv_at hl 0 rfl) ?_
  refine lv_iload_n hx hb d_15_135_9 rfl (lv_at hl 1 rfl) ?_
  refine gput hx hb hts inW_14 tyX14 tyX14_ok nmX14 hown hK hP hD hS 0 rfl rfl hp0 17 (by decide) k_11_15 rfl rfl rfl d_15_135_10 (L' := [(17, .int 2)]) rfl (fun f1 H1 locs1 hF1 hm1 hP1 hD1 hS1 => ?_)
  have hM1 := gM.tr (gM.rf (f := g0)) hm1
  have hP1 : va_P D cls [(a0, .inr (14, rg 107 f1))] H1 := hP1
  have hD1 : va_D A [(a0, .inr (14, rg 107 f1))] := hD1
  clear hm1
  refine lv_aload_n hx hb d_15_135_13 rfl (lv_at hl 0 rfl) ?_
  refine lv_iload_n hx hb d_15_135_14 rfl (lv_at hl 2 rfl) ?_
  refine gput hx hb hts inW_14 tyX14 tyX14_ok nmX14 hown hK hP1 hD1 hS1 0 rfl rfl hF1 18 (by decide) k_11_16 rfl rfl rfl d_15_135_15 (L' := [(18, .int 0), (17, .int 2)]) rfl (fun f2 H2 locs2 hF2 hm2 hP2 hD2 hS2 => ?_)
  have hM2 := gM.tr hM1 hm2
  have hP2 : va_P D cls [(a0, .inr (14, rg 107 f2))] H2 := hP2
  have hD2 : va_D A [(a0, .inr (14, rg 107 f2))] := hD2
  clear hP1 hD1 hS1 hF1 hM1 hm2
  have hP9 := hP2.sub (ws' := [(a0, .inr (14, rg 107 f2))]) [0] rfl
  have hD9 := hD2.sub (ws' := [(a0, .inr (14, rg 107 f2))]) [0] (by decide) rfl
  refine W.widen (k := 0) (n := 0) (Nat.le_of_ble_eq_true rfl) (Nat.le_of_ble_eq_true rfl) ?_
  exact W.vret hx hb hr (fun t ht hW => ⟨⟨(f2), rfl, ⟨hM2.mono (by decide), hF2.sub [0, 1] rfl⟩, by rw [ht]; exact hP9, va_K.moved hW.alike hK, hD9⟩, hS2.F ht⟩) hS2.2.2 d_15_135_18
abbrev Q_M_next_0 (D : va_G) (ca : Nat → ClassId) (a0 : Nat) (g0 : Nat → Value) (A : Nat → Prop) : Array Value → State → Outcome → State → Prop := va_Qi (S := (Nat → Value)) (fun (r : Int32) (u : (Nat → Value)) => r = 0 ∧ gM g0 u [18, 17] ∧ gF u [(18, .int 0), (17, .int 2)]) (fun u => gB D ca A [(a0, .inr (14, rg 107 u))]) A
set_option maxHeartbeats 8000000 in
set_option maxRecDepth 100000 in
theorem c_M_next_0 (l : Launch) (D : va_G) (ca : Nat → ClassId) (ad av : Nat → Nat) (sz : Nat) (a0 : Nat) (g0 : Nat → Value) (hp0 : gF g0 [(90, .long 3000), (89, .int 0), (17, .int 0), (3, .int 0)]) : Met l ({ cls := "StaveHouseModel", name := "next", desc := "()I" } : Jvm.MethodName) (Cond.code ({ cls := "StaveHouseModel", name := "next", desc := "()I" } : Jvm.MethodName) prog_15_method_136_code 1 (Option.some Jvm.ClassFile.FieldType.int) :: wAll) ({ frames := 1, cells := 0, slots := 0, locals := 22 } : Room) (va_Pc [.ref a0] (gPre D ca ad av [(a0, .inr (14, rg 107 g0))] sz)) (Q_M_next_0 D ca a0 g0 (va_A [(a0, .inr (14, rg 107 g0))] sz)) 0 0 (va_A [(a0, .inr (14, rg 107 g0))] sz) := by
  refine gMet (Qc := Q_M_next_0 D ca a0 g0) (lv := [(0, .ref a0)]) (by decide) (Nat.le_of_ble_eq_true rfl) rfl (fun A p e s m below meth c ls hx hb hr hml hown hts hlk hnm hl hP hK hD hS hA hX => ?_)
  have hown : s.vm.findClass "StaveHouseModel" = some m.cls := hown
  have hnm : meth.name = "next" := hnm
  refine lv_aload_n hx hb d_15_136_0 rfl (lv_at hl 0 rfl) ?_
  have hFc1 := va_free (wc := [(a0, .inr (14, rg 107 g0))]) hD hS hA [0] rfl
  refine va_calli (va_runV (As := []) (rest := []) ⟨hx, hb, hml, hown, hts⟩ (c_M_good_0 l D ca ad av s.heap.size a0 g0 (hp0.sub [2] rfl)) (cwV 0 hts (gdV k_13_15 k_13_17 ks_152 k_1_9 k_13_18) rfl rfl rfl (by decide +kernel) ⟨Nat.le_of_ble_eq_true rfl, Nat.le_of_ble_eq_true rfl⟩) (gPV hP hD hK hS hA hX [0] (by decide) rfl a0 [] 0 (ci := 14) (r := (RX14, TX14, 107)) rfl rfl) rfl rfl hl.1 rfl (lv_room (Nat.le_of_ble_eq_true rfl)) d_15_136_1 ⟨Nat.le_of_ble_eq_true rfl, Nat.le_of_ble_eq_true rfl⟩) hS (fun q _ h => hFc1 q h) hFc1 (fun r1 u1 t1 H1 locs1 ht1 hvm1 hw1 hB1 hz1 hk1 hS1 => ?_)
  have hr1 := hw1
  obtain ⟨hP1, hD1⟩ := gJoin (wr := []) (w1 := [(a0, .inr (14, rg 107 g0))]) hP hD [0] [] rfl rfl (by decide) (by decide) hk1 hFc1 ht1 hB1
  have hP1 : va_P D cls [(a0, .inr (14, rg 107 g0))] H1 := hP1
  have hD1 : va_D A [(a0, .inr (14, rg 107 g0))] := hD1
  refine W.widen (k := 0) (n := 0) (Nat.le_of_ble_eq_true rfl) (Nat.le_of_ble_eq_true rfl) ?_
  subst hr1
  refine lv_if_ne (tgt := 9) hx hb d_15_136_4 (by decide) (fun _ => ?_) (fun c => absurd c (by decide))
  refine lv_aload_n hx hb d_15_136_9 rfl (lv_at hl 0 rfl) ?_
  refine gget hx hb hts inW_14 hown hK hP1 0 rfl rfl hp0 1 rfl (by decide) k_11_87 d_15_136_10 ?_
  refine lv_i2l hx hb d_15_136_13 rfl ?_
  refine lv_topl (fun y2 ey2 => ?_)
  obtain rfl : y2 = 0 := ey2.trans (by decide)
  refine lv_aload_n hx hb d_15_136_14 rfl (lv_at hl 0 rfl) ?_
  refine gget hx hb hts inW_14 hown hK hP1 0 rfl rfl hp0 0 rfl (by decide) k_11_88 d_15_136_15 ?_
  refine W.lcmp hx hb d_15_136_18 ?_
  refine lv_topi (fun y3 ey3 => ?_)
  obtain rfl : y3 = -1 := ey3.trans (by decide)
  refine lv_if_ge (tgt := 33) hx hb d_15_136_19 (by decide) (fun c => absurd c (by decide)) (fun _ => ?_)
  refine lv_aload_n hx hb d_15_136_22 rfl (lv_at hl 0 rfl) ?_
  refine gget hx hb hts inW_14 hown hK hP1 0 rfl rfl hp0 1 rfl (by decide) k_11_87 d_15_136_23 ?_
  refine lv_aload_n hx hb d_15_136_26 rfl (lv_at hl 0 rfl) ?_
  refine gget hx hb hts inW_14 hown hK hP1 0 rfl rfl hp0 3 rfl (by decide) k_11_1 d_15_136_27 ?_
  refine lv_icmp_lt (tgt := 66) hx hb d_15_136_30 (by decide) (fun c => absurd c (by decide)) (fun _ => ?_)
  refine lv_aload_n hx hb d_15_136_33 rfl (lv_at hl 0 rfl) ?_
  refine lv_iconst (v := 2) hx hb d_15_136_34 (by decide) ?_
  refine lv_aload_n hx hb d_15_136_35 rfl (lv_at hl 0 rfl) ?_
  refine gget hx hb hts inW_14 hown hK hP1 0 rfl rfl hp0 0 rfl (by decide) k_11_88 d_15_136_36 ?_
  refine lv_aload_n hx hb d_15_136_39 rfl (lv_at hl 0 rfl) ?_
  refine gget hx hb hts inW_14 hown hK hP1 0 rfl rfl hp0 3 rfl (by decide) k_11_1 d_15_136_40 ?_
  refine lv_i2l hx hb d_15_136_43 rfl ?_
  refine lv_topl (fun y4 ey4 => ?_)
  obtain rfl : y4 = 0 := ey4.trans (by decide)
  refine W.lcmp hx hb d_15_136_44 ?_
  refine lv_topi (fun y5 ey5 => ?_)
  obtain rfl : y5 = 1 := ey5.trans (by decide)
  refine lv_if_ge (tgt := 55) hx hb d_15_136_45 (by decide) (fun _ => ?_) (fun c => absurd (by decide) c)
  refine lv_aload_n hx hb d_15_136_55 rfl (lv_at hl 0 rfl) ?_
  refine gget hx hb hts inW_14 hown hK hP1 0 rfl rfl hp0 3 rfl (by decide) k_11_1 d_15_136_56 ?_
  refine lv_i2l hx hb d_15_136_59 rfl ?_
  refine lv_topl (fun y6 ey6 => ?_)
  obtain rfl : y6 = 0 := ey6.trans (by decide)
  refine lv_l2i hx hb d_15_136_60 rfl ?_
  refine lv_topi (fun y7 ey7 => ?_)
  obtain rfl : y7 = 0 := ey7.trans (by decide)
  have hFc8 := va_free (wc := [(a0, .inr (14, rg 107 g0))]) hD1 hS1 hA [0] rfl
  refine va_callv (va_runV (As := [.int 2, .int 0]) (rest := []) ⟨hx, hb, hml, hown, hts⟩ (c_M_failByte_0 l D ca ad av H1.size a0 g0 (hp0.sub [2] rfl)) (cwV 2 hts (gdV k_13_19 k_13_21 ks_153 k_1_9 k_13_22) rfl rfl rfl (by decide +kernel) ⟨Nat.le_of_ble_eq_true rfl, Nat.le_of_ble_eq_true rfl⟩) (gPV hP1 hD1 hK hS1 hA hX [0] (by decide) rfl a0 [.int 2, .int 0] 0 (ci := 14) (r := (RX14, TX14, 107)) rfl rfl) rfl rfl hl.1 rfl (lv_room (Nat.le_of_ble_eq_true rfl)) d_15_136_61 ⟨Nat.le_of_ble_eq_true rfl, Nat.le_of_ble_eq_true rfl⟩) hS1 (fun q _ h => hFc8 q h) hFc8 (fun x8_0 t8 H8 locs8 ht8 hvm8 hw8 hB8 hz8 hk8 hS8 => ?_)
  obtain ⟨hw8_0, hw8_1⟩ := hw8
  obtain ⟨hP8, hD8⟩ := gJoin (wr := []) (w1 := [(a0, .inr (14, rg 107 x8_0))]) hP1 hD1 [0] [] rfl rfl (by decide) (by decide) hk8 hFc8 ht8 hB8
  have hF8_0 : gF x8_0 [(18, .int 0), (17, .int 2), (90, .long 3000), (89, .int 0), (3, .int 0)] := gF.upd hp0 hw8_0 hw8_1 rfl
  have hM8_0 := gM.tr (gM.rf (f := g0)) hw8_0
  have hP8 : va_P D cls [(a0, .inr (14, rg 107 x8_0))] H8 := hP8
  have hD8 : va_D A [(a0, .inr (14, rg 107 x8_0))] := hD8
  refine W.widen (k := 0) (n := 0) (Nat.le_of_ble_eq_true rfl) (Nat.le_of_ble_eq_true rfl) ?_
  refine lv_iconst (v := 0) hx hb d_15_136_64 (by decide) ?_
  have hP9 := hP8.sub (ws' := [(a0, .inr (14, rg 107 x8_0))]) [0] rfl
  have hD9 := hD8.sub (ws' := [(a0, .inr (14, rg 107 x8_0))]) [0] (by decide) rfl
  refine W.widen (k := 0) (n := 0) (Nat.le_of_ble_eq_true rfl) (Nat.le_of_ble_eq_true rfl) ?_
  exact W.iret (v := 0) hx hb hr (fun t ht hW => ⟨⟨0, (x8_0), rfl, ⟨rfl, hM8_0.mono (by decide), hF8_0.sub [0, 1] rfl⟩, by rw [ht]; exact hP9, va_K.moved hW.alike hK, hD9⟩, hS8.F ht⟩) hS8.2.2 d_15_136_65
abbrev Q_M_next_1 (D : va_G) (ca : Nat → ClassId) (a0 : Nat) (g0 : Nat → Value) (A : Nat → Prop) : Array Value → State → Outcome → State → Prop := va_Qi (S := Unit) (fun (r : Int32) (u : Unit) => r = 0) (fun u => gB D ca A [(a0, .inr (14, rg 107 g0))]) A
set_option maxHeartbeats 8000000 in
set_option maxRecDepth 100000 in
theorem c_M_next_1 (l : Launch) (D : va_G) (ca : Nat → ClassId) (ad av : Nat → Nat) (sz : Nat) (a0 : Nat) (g0 : Nat → Value) (hp0 : gF g0 [(17, .int 2)]) : Met l ({ cls := "StaveHouseModel", name := "next", desc := "()I" } : Jvm.MethodName) (Cond.code ({ cls := "StaveHouseModel", name := "next", desc := "()I" } : Jvm.MethodName) prog_15_method_136_code 1 (Option.some Jvm.ClassFile.FieldType.int) :: wAll) ({ frames := 1, cells := 0, slots := 0, locals := 20 } : Room) (va_Pc [.ref a0] (gPre D ca ad av [(a0, .inr (14, rg 107 g0))] sz)) (Q_M_next_1 D ca a0 g0 (va_A [(a0, .inr (14, rg 107 g0))] sz)) 0 0 (va_A [(a0, .inr (14, rg 107 g0))] sz) := by
  refine gMet (Qc := Q_M_next_1 D ca a0 g0) (lv := [(0, .ref a0)]) (by decide) (Nat.le_of_ble_eq_true rfl) rfl (fun A p e s m below meth c ls hx hb hr hml hown hts hlk hnm hl hP hK hD hS hA hX => ?_)
  have hown : s.vm.findClass "StaveHouseModel" = some m.cls := hown
  have hnm : meth.name = "next" := hnm
  refine lv_aload_n hx hb d_15_136_0 rfl (lv_at hl 0 rfl) ?_
  have hFc1 := va_free (wc := [(a0, .inr (14, rg 107 g0))]) hD hS hA [0] rfl
  refine va_calli (va_runV (As := []) (rest := []) ⟨hx, hb, hml, hown, hts⟩ (c_M_good_1 l D ca ad av s.heap.size a0 g0 (hp0.sub [0] rfl)) (cwV 0 hts (gdV k_13_15 k_13_17 ks_152 k_1_9 k_13_18) rfl rfl rfl (by decide +kernel) ⟨Nat.le_of_ble_eq_true rfl, Nat.le_of_ble_eq_true rfl⟩) (gPV hP hD hK hS hA hX [0] (by decide) rfl a0 [] 0 (ci := 14) (r := (RX14, TX14, 107)) rfl rfl) rfl rfl hl.1 rfl (lv_room (Nat.le_of_ble_eq_true rfl)) d_15_136_1 ⟨Nat.le_of_ble_eq_true rfl, Nat.le_of_ble_eq_true rfl⟩) hS (fun q _ h => hFc1 q h) hFc1 (fun r1 u1 t1 H1 locs1 ht1 hvm1 hw1 hB1 hz1 hk1 hS1 => ?_)
  have hr1 := hw1
  obtain ⟨hP1, hD1⟩ := gJoin (wr := []) (w1 := [(a0, .inr (14, rg 107 g0))]) hP hD [0] [] rfl rfl (by decide) (by decide) hk1 hFc1 ht1 hB1
  have hP1 : va_P D cls [(a0, .inr (14, rg 107 g0))] H1 := hP1
  have hD1 : va_D A [(a0, .inr (14, rg 107 g0))] := hD1
  refine W.widen (k := 0) (n := 0) (Nat.le_of_ble_eq_true rfl) (Nat.le_of_ble_eq_true rfl) ?_
  subst hr1
  refine lv_if_ne (tgt := 9) hx hb d_15_136_4 (by decide) (fun c => absurd c (by decide)) (fun _ => ?_)
  refine lv_iconst (v := 0) hx hb d_15_136_7 (by decide) ?_
  have hP9 := hP1.sub (ws' := [(a0, .inr (14, rg 107 g0))]) [0] rfl
  have hD9 := hD1.sub (ws' := [(a0, .inr (14, rg 107 g0))]) [0] (by decide) rfl
  refine W.widen (k := 0) (n := 0) (Nat.le_of_ble_eq_true rfl) (Nat.le_of_ble_eq_true rfl) ?_
  exact W.iret (v := 0) hx hb hr (fun t ht hW => ⟨⟨0, (), rfl, rfl, by rw [ht]; exact hP9, va_K.moved hW.alike hK, hD9⟩, hS1.F ht⟩) hS1.2.2 d_15_136_8
abbrev Q_M_expect_0 (D : va_G) (ca : Nat → ClassId) (a0 : Nat) (g0 : Nat → Value) (A : Nat → Prop) : Array Value → State → Outcome → State → Prop := va_Qv (S := (Nat → Value)) (fun (u : (Nat → Value)) => gM g0 u [18, 17] ∧ gF u [(18, .int 0), (17, .int 2)]) (fun u => gB D ca A [(a0, .inr (14, rg 107 u))]) A
set_option maxHeartbeats 8000000 in
set_option maxRecDepth 100000 in
theorem c_M_expect_0 (l : Launch) (D : va_G) (ca : Nat → ClassId) (ad av : Nat → Nat) (sz : Nat) (a0 : Nat) (g0 : Nat → Value) (hp0 : gF g0 [(90, .long 3000), (89, .int 0), (17, .int 0), (3, .int 0)]) : Met l ({ cls := "StaveHouseModel", name := "expect", desc := "(Ljava/lang/String;)V" } : Jvm.MethodName) (Cond.code ({ cls := "StaveHouseModel", name := "expect", desc := "(Ljava/lang/String;)V" } : Jvm.MethodName) prog_15_method_137_code 4 (Option.none : Option Jvm.ClassFile.FieldType) :: wAll) ({ frames := 2, cells := 0, slots := 0, locals := 42 } : Room) (va_Pc [.ref a0, .ref (ad 13)] (gPre D ca ad av [(a0, .inr (14, rg 107 g0))] sz)) (Q_M_expect_0 D ca a0 g0 (va_A [(a0, .inr (14, rg 107 g0))] sz)) 0 0 (va_A [(a0, .inr (14, rg 107 g0))] sz) := by
  refine gMet (Qc := Q_M_expect_0 D ca a0 g0) (lv := [(0, .ref a0), (1, .ref (ad 13))]) (by decide) (Nat.le_of_ble_eq_true rfl) rfl (fun A p e s m below meth c ls hx hb hr hml hown hts hlk hnm hl hP hK hD hS hA hX => ?_)
  have hown : s.vm.findClass "StaveHouseModel" = some m.cls := hown
  have hnm : meth.name = "expect" := hnm
  refine lv_iconst (v := 0) hx hb d_15_137_0 (by decide) ?_
  refine lv_istore_n (lv' := [(2, .int 0), (0, .ref a0), (1, .ref (ad 13))]) hx hb d_15_137_1 rfl hl (by decide) rfl (fun ls hl => ?_)
  refine lv_iload_n hx hb d_15_137_2 rfl (lv_at hl 0 rfl) ?_
  refine lv_aload_n hx hb d_15_137_3 rfl (lv_at hl 2 rfl) ?_
  have hFc1 := va_free (wc := []) hD hS hA [] rfl
  refine va_calli (va_runV (As := []) (rest := [.int 0]) ⟨hx, hb, hml, hown, hts⟩ (c_String_length_13 l D ca ad av s.heap.size  ) (cwV 0 hts (gdV k_10_194 k_3_82 k_3_83 k_1_11 k_3_84) rfl rfl rfl (by decide +kernel) ⟨Nat.le_of_ble_eq_true rfl, Nat.le_of_ble_eq_true rfl⟩) ⟨gBlind, vk_recv (i := 0) (hX.2.2.2.2.1 13 _ rfl).2 (by decide) hS, gAt hP hD hK hS hA hX [] (by decide) rfl [.ref (ad 13)]⟩ rfl rfl hl.1 rfl (lv_room (Nat.le_of_ble_eq_true rfl)) d_15_137_4 ⟨Nat.le_of_ble_eq_true rfl, Nat.le_of_ble_eq_true rfl⟩) hS (fun q _ h => hFc1 q h) hFc1 (fun r1 u1 t1 H1 locs1 ht1 hvm1 hw1 hB1 hz1 hk1 hS1 => ?_)
  have hr1 := hw1
  obtain ⟨hP1, hD1⟩ := gJoin (wr := [(a0, .inr (14, rg 107 g0))]) (w1 := []) hP hD [] [0] rfl rfl (by decide) (by decide) hk1 hFc1 ht1 hB1
  have hP1 : va_P D cls [(a0, .inr (14, rg 107 g0))] H1 := hP1
  have hD1 : va_D A [(a0, .inr (14, rg 107 g0))] := hD1
  refine W.widen (k := 0) (n := 0) (Nat.le_of_ble_eq_true rfl) (Nat.le_of_ble_eq_true rfl) ?_
  subst hr1
  refine lv_icmp_ge (tgt := 48) hx hb d_15_137_7 (by decide) (fun c => absurd c (by decide)) (fun _ => ?_)
  refine lv_aload_n hx hb d_15_137_10 rfl (lv_at hl 1 rfl) ?_
  have hFc2 := va_free (wc := [(a0, .inr (14, rg 107 g0))]) hD1 hS1 hA [0] rfl
  refine va_calli (va_runV (As := []) (rest := []) ⟨hx, hb, hml, hown, hts⟩ (c_M_next_0 l D ca ad av H1.size a0 g0 (hp0.sub [0, 1, 2, 3] rfl)) (cwV 0 hts (gdV k_13_11 k_13_13 ks_151 k_1_9 k_13_14) rfl rfl rfl (by decide +kernel) ⟨Nat.le_of_ble_eq_true rfl, Nat.le_of_ble_eq_true rfl⟩) (gPV hP1 hD1 hK hS1 hA hX [0] (by decide) rfl a0 [] 0 (ci := 14) (r := (RX14, TX14, 107)) rfl rfl) rfl rfl hl.1 rfl (lv_room (Nat.le_of_ble_eq_true rfl)) d_15_137_11 ⟨Nat.le_of_ble_eq_true rfl, Nat.le_of_ble_eq_true rfl⟩) hS1 (fun q _ h => hFc2 q h) hFc2 (fun r2 x2_0 t2 H2 locs2 ht2 hvm2 hw2 hB2 hz2 hk2 hS2 => ?_)
  obtain ⟨hr2, hw2_1, hw2_2⟩ := hw2
  obtain ⟨hP2, hD2⟩ := gJoin (wr := []) (w1 := [(a0, .inr (14, rg 107 x2_0))]) hP1 hD1 [0] [] rfl rfl (by decide) (by decide) hk2 hFc2 ht2 hB2
  have hF2_0 : gF x2_0 [(18, .int 0), (17, .int 2), (90, .long 3000), (89, .int 0), (3, .int 0)] := gF.upd hp0 hw2_1 hw2_2 rfl
  have hM2_0 := gM.tr (gM.rf (f := g0)) hw2_1
  have hP2 : va_P D cls [(a0, .inr (14, rg 107 x2_0))] H2 := hP2
  have hD2 : va_D A [(a0, .inr (14, rg 107 x2_0))] := hD2
  refine W.widen (k := 0) (n := 0) (Nat.le_of_ble_eq_true rfl) (Nat.le_of_ble_eq_true rfl) ?_
  subst hr2
  refine lv_istore_n (lv' := [(3, .int 0), (2, .int 0), (0, .ref a0), (1, .ref (ad 13))]) hx hb d_15_137_14 rfl hl (by decide) rfl (fun ls hl => ?_)
  refine lv_aload_n hx hb d_15_137_15 rfl (lv_at hl 2 rfl) ?_
  have hFc3 := va_free (wc := [(a0, .inr (14, rg 107 x2_0))]) hD2 hS2 hA [0] rfl
  refine va_calli (va_runV (As := []) (rest := []) ⟨hx, hb, hml, hown, hts⟩ (c_M_good_1 l D ca ad av H2.size a0 x2_0 (hF2_0.sub [1] rfl)) (cwV 0 hts (gdV k_13_15 k_13_17 ks_152 k_1_9 k_13_18) rfl rfl rfl (by decide +kernel) ⟨Nat.le_of_ble_eq_true rfl, Nat.le_of_ble_eq_true rfl⟩) (gPV hP2 hD2 hK hS2 hA hX [0] (by decide) rfl a0 [] 0 (ci := 14) (r := (RX14, TX14, 107)) rfl rfl) rfl rfl hl.1 rfl (lv_room (Nat.le_of_ble_eq_true rfl)) d_15_137_16 ⟨Nat.le_of_ble_eq_true rfl, Nat.le_of_ble_eq_true rfl⟩) hS2 (fun q _ h => hFc3 q h) hFc3 (fun r3 u3 t3 H3 locs3 ht3 hvm3 hw3 hB3 hz3 hk3 hS3 => ?_)
  have hr3 := hw3
  obtain ⟨hP3, hD3⟩ := gJoin (wr := []) (w1 := [(a0, .inr (14, rg 107 x2_0))]) hP2 hD2 [0] [] rfl rfl (by decide) (by decide) hk3 hFc3 ht3 hB3
  have hP3 : va_P D cls [(a0, .inr (14, rg 107 x2_0))] H3 := hP3
  have hD3 : va_D A [(a0, .inr (14, rg 107 x2_0))] := hD3
  refine W.widen (k := 0) (n := 0) (Nat.le_of_ble_eq_true rfl) (Nat.le_of_ble_eq_true rfl) ?_
  subst hr3
  refine lv_if_eq (tgt := 42) hx hb d_15_137_19 (by decide) (fun _ => ?_) (fun c => absurd (by decide) c)
  refine lv_iinc (v := 1) (lv' := [(2, .int 1), (3, .int 0), (0, .ref a0), (1, .ref (ad 13))]) hx hb d_15_137_42 hl (k := 1) rfl (by decide) (by decide) rfl (fun ls hl => ?_)
  refine lv_goto (tgt := 2) hx hb d_15_137_45 (by decide) ?_
  refine lv_iload_n hx hb d_15_137_2 rfl (lv_at hl 0 rfl) ?_
  refine lv_aload_n hx hb d_15_137_3 rfl (lv_at hl 3 rfl) ?_
  have hFc4 := va_free (wc := []) hD3 hS3 hA [] rfl
  refine va_calli (va_runV (As := []) (rest := [.int 1]) ⟨hx, hb, hml, hown, hts⟩ (c_String_length_13 l D ca ad av H3.size  ) (cwV 0 hts (gdV k_10_194 k_3_82 k_3_83 k_1_11 k_3_84) rfl rfl rfl (by decide +kernel) ⟨Nat.le_of_ble_eq_true rfl, Nat.le_of_ble_eq_true rfl⟩) ⟨gBlind, vk_recv (i := 0) (hX.2.2.2.2.1 13 _ rfl).2 (by decide) hS3, gAt hP3 hD3 hK hS3 hA hX [] (by decide) rfl [.ref (ad 13)]⟩ rfl rfl hl.1 rfl (lv_room (Nat.le_of_ble_eq_true rfl)) d_15_137_4 ⟨Nat.le_of_ble_eq_true rfl, Nat.le_of_ble_eq_true rfl⟩) hS3 (fun q _ h => hFc4 q h) hFc4 (fun r4 u4 t4 H4 locs4 ht4 hvm4 hw4 hB4 hz4 hk4 hS4 => ?_)
  have hr4 := hw4
  obtain ⟨hP4, hD4⟩ := gJoin (wr := [(a0, .inr (14, rg 107 x2_0))]) (w1 := []) hP3 hD3 [] [0] rfl rfl (by decide) (by decide) hk4 hFc4 ht4 hB4
  have hP4 : va_P D cls [(a0, .inr (14, rg 107 x2_0))] H4 := hP4
  have hD4 : va_D A [(a0, .inr (14, rg 107 x2_0))] := hD4
  refine W.widen (k := 0) (n := 0) (Nat.le_of_ble_eq_true rfl) (Nat.le_of_ble_eq_true rfl) ?_
  subst hr4
  refine lv_icmp_ge (tgt := 48) hx hb d_15_137_7 (by decide) (fun c => absurd c (by decide)) (fun _ => ?_)
  refine lv_aload_n hx hb d_15_137_10 rfl (lv_at hl 2 rfl) ?_
  have hFc5 := va_free (wc := [(a0, .inr (14, rg 107 x2_0))]) hD4 hS4 hA [0] rfl
  refine va_calli (va_runV (As := []) (rest := []) ⟨hx, hb, hml, hown, hts⟩ (c_M_next_1 l D ca ad av H4.size a0 x2_0 (hF2_0.sub [1] rfl)) (cwV 0 hts (gdV k_13_11 k_13_13 ks_151 k_1_9 k_13_14) rfl rfl rfl (by decide +kernel) ⟨Nat.le_of_ble_eq_true rfl, Nat.le_of_ble_eq_true rfl⟩) (gPV hP4 hD4 hK hS4 hA hX [0] (by decide) rfl a0 [] 0 (ci := 14) (r := (RX14, TX14, 107)) rfl rfl) rfl rfl hl.1 rfl (lv_room (Nat.le_of_ble_eq_true rfl)) d_15_137_11 ⟨Nat.le_of_ble_eq_true rfl, Nat.le_of_ble_eq_true rfl⟩) hS4 (fun q _ h => hFc5 q h) hFc5 (fun r5 u5 t5 H5 locs5 ht5 hvm5 hw5 hB5 hz5 hk5 hS5 => ?_)
  have hr5 := hw5
  obtain ⟨hP5, hD5⟩ := gJoin (wr := []) (w1 := [(a0, .inr (14, rg 107 x2_0))]) hP4 hD4 [0] [] rfl rfl (by decide) (by decide) hk5 hFc5 ht5 hB5
  have hP5 : va_P D cls [(a0, .inr (14, rg 107 x2_0))] H5 := hP5
  have hD5 : va_D A [(a0, .inr (14, rg 107 x2_0))] := hD5
  refine W.widen (k := 0) (n := 0) (Nat.le_of_ble_eq_true rfl) (Nat.le_of_ble_eq_true rfl) ?_
  subst hr5
  refine lv_istore_n (lv' := [(3, .int 0), (2, .int 1), (0, .ref a0), (1, .ref (ad 13))]) hx hb d_15_137_14 rfl hl (by decide) rfl (fun ls hl => ?_)
  refine lv_aload_n hx hb d_15_137_15 rfl (lv_at hl 2 rfl) ?_
  have hFc6 := va_free (wc := [(a0, .inr (14, rg 107 x2_0))]) hD5 hS5 hA [0] rfl
  refine va_calli (va_runV (As := []) (rest := []) ⟨hx, hb, hml, hown, hts⟩ (c_M_good_1 l D ca ad av H5.size a0 x2_0 (hF2_0.sub [1] rfl)) (cwV 0 hts (gdV k_13_15 k_13_17 ks_152 k_1_9 k_13_18) rfl rfl rfl (by decide +kernel) ⟨Nat.le_of_ble_eq_true rfl, Nat.le_of_ble_eq_true rfl⟩) (gPV hP5 hD5 hK hS5 hA hX [0] (by decide) rfl a0 [] 0 (ci := 14) (r := (RX14, TX14, 107)) rfl rfl) rfl rfl hl.1 rfl (lv_room (Nat.le_of_ble_eq_true rfl)) d_15_137_16 ⟨Nat.le_of_ble_eq_true rfl, Nat.le_of_ble_eq_true rfl⟩) hS5 (fun q _ h => hFc6 q h) hFc6 (fun r6 u6 t6 H6 locs6 ht6 hvm6 hw6 hB6 hz6 hk6 hS6 => ?_)
  have hr6 := hw6
  obtain ⟨hP6, hD6⟩ := gJoin (wr := []) (w1 := [(a0, .inr (14, rg 107 x2_0))]) hP5 hD5 [0] [] rfl rfl (by decide) (by decide) hk6 hFc6 ht6 hB6
  have hP6 : va_P D cls [(a0, .inr (14, rg 107 x2_0))] H6 := hP6
  have hD6 : va_D A [(a0, .inr (14, rg 107 x2_0))] := hD6
  refine W.widen (k := 0) (n := 0) (Nat.le_of_ble_eq_true rfl) (Nat.le_of_ble_eq_true rfl) ?_
  subst hr6
  refine lv_if_eq (tgt := 42) hx hb d_15_137_19 (by decide) (fun _ => ?_) (fun c => absurd (by decide) c)
  refine lv_iinc (v := 2) (lv' := [(2, .int 2), (3, .int 0), (0, .ref a0), (1, .ref (ad 13))]) hx hb d_15_137_42 hl (k := 1) rfl (by decide) (by decide) rfl (fun ls hl => ?_)
  refine lv_goto (tgt := 2) hx hb d_15_137_45 (by decide) ?_
  refine lv_iload_n hx hb d_15_137_2 rfl (lv_at hl 0 rfl) ?_
  refine lv_aload_n hx hb d_15_137_3 rfl (lv_at hl 3 rfl) ?_
  have hFc7 := va_free (wc := []) hD6 hS6 hA [] rfl
  refine va_calli (va_runV (As := []) (rest := [.int 2]) ⟨hx, hb, hml, hown, hts⟩ (c_String_length_13 l D ca ad av H6.size  ) (cwV 0 hts (gdV k_10_194 k_3_82 k_3_83 k_1_11 k_3_84) rfl rfl rfl (by decide +kernel) ⟨Nat.le_of_ble_eq_true rfl, Nat.le_of_ble_eq_true rfl⟩) ⟨gBlind, vk_recv (i := 0) (hX.2.2.2.2.1 13 _ rfl).2 (by decide) hS6, gAt hP6 hD6 hK hS6 hA hX [] (by decide) rfl [.ref (ad 13)]⟩ rfl rfl hl.1 rfl (lv_room (Nat.le_of_ble_eq_true rfl)) d_15_137_4 ⟨Nat.le_of_ble_eq_true rfl, Nat.le_of_ble_eq_true rfl⟩) hS6 (fun q _ h => hFc7 q h) hFc7 (fun r7 u7 t7 H7 locs7 ht7 hvm7 hw7 hB7 hz7 hk7 hS7 => ?_)
  have hr7 := hw7
  obtain ⟨hP7, hD7⟩ := gJoin (wr := [(a0, .inr (14, rg 107 x2_0))]) (w1 := []) hP6 hD6 [] [0] rfl rfl (by decide) (by decide) hk7 hFc7 ht7 hB7
  have hP7 : va_P D cls [(a0, .inr (14, rg 107 x2_0))] H7 := hP7
  have hD7 : va_D A [(a0, .inr (14, rg 107 x2_0))] := hD7
  refine W.widen (k := 0) (n := 0) (Nat.le_of_ble_eq_true rfl) (Nat.le_of_ble_eq_true rfl) ?_
  subst hr7
  refine lv_icmp_ge (tgt := 48) hx hb d_15_137_7 (by decide) (fun c => absurd c (by decide)) (fun _ => ?_)
  refine lv_aload_n hx hb d_15_137_10 rfl (lv_at hl 2 rfl) ?_
  have hFc8 := va_free (wc := [(a0, .inr (14, rg 107 x2_0))]) hD7 hS7 hA [0] rfl
  refine va_calli (va_runV (As := []) (rest := []) ⟨hx, hb, hml, hown, hts⟩ (c_M_next_1 l D ca ad av H7.size a0 x2_0 (hF2_0.sub [1] rfl)) (cwV 0 hts (gdV k_13_11 k_13_13 ks_151 k_1_9 k_13_14) rfl rfl rfl (by decide +kernel) ⟨Nat.le_of_ble_eq_true rfl, Nat.le_of_ble_eq_true rfl⟩) (gPV hP7 hD7 hK hS7 hA hX [0] (by decide) rfl a0 [] 0 (ci := 14) (r := (RX14, TX14, 107)) rfl rfl) rfl rfl hl.1 rfl (lv_room (Nat.le_of_ble_eq_true rfl)) d_15_137_11 ⟨Nat.le_of_ble_eq_true rfl, Nat.le_of_ble_eq_true rfl⟩) hS7 (fun q _ h => hFc8 q h) hFc8 (fun r8 u8 t8 H8 locs8 ht8 hvm8 hw8 hB8 hz8 hk8 hS8 => ?_)
  have hr8 := hw8
  obtain ⟨hP8, hD8⟩ := gJoin (wr := []) (w1 := [(a0, .inr (14, rg 107 x2_0))]) hP7 hD7 [0] [] rfl rfl (by decide) (by decide) hk8 hFc8 ht8 hB8
  have hP8 : va_P D cls [(a0, .inr (14, rg 107 x2_0))] H8 := hP8
  have hD8 : va_D A [(a0, .inr (14, rg 107 x2_0))] := hD8
  refine W.widen (k := 0) (n := 0) (Nat.le_of_ble_eq_true rfl) (Nat.le_of_ble_eq_true rfl) ?_
  subst hr8
  refine lv_istore_n (lv' := [(3, .int 0), (2, .int 2), (0, .ref a0), (1, .ref (ad 13))]) hx hb d_15_137_14 rfl hl (by decide) rfl (fun ls hl => ?_)
  refine lv_aload_n hx hb d_15_137_15 rfl (lv_at hl 2 rfl) ?_
  have hFc9 := va_free (wc := [(a0, .inr (14, rg 107 x2_0))]) hD8 hS8 hA [0] rfl
  refine va_calli (va_runV (As := []) (rest := []) ⟨hx, hb, hml, hown, hts⟩ (c_M_good_1 l D ca ad av H8.size a0 x2_0 (hF2_0.sub [1] rfl)) (cwV 0 hts (gdV k_13_15 k_13_17 ks_152 k_1_9 k_13_18) rfl rfl rfl (by decide +kernel) ⟨Nat.le_of_ble_eq_true rfl, Nat.le_of_ble_eq_true rfl⟩) (gPV hP8 hD8 hK hS8 hA hX [0] (by decide) rfl a0 [] 0 (ci := 14) (r := (RX14, TX14, 107)) rfl rfl) rfl rfl hl.1 rfl (lv_room (Nat.le_of_ble_eq_true rfl)) d_15_137_16 ⟨Nat.le_of_ble_eq_true rfl, Nat.le_of_ble_eq_true rfl⟩) hS8 (fun q _ h => hFc9 q h) hFc9 (fun r9 u9 t9 H9 locs9 ht9 hvm9 hw9 hB9 hz9 hk9 hS9 => ?_)
  have hr9 := hw9
  obtain ⟨hP9, hD9⟩ := gJoin (wr := []) (w1 := [(a0, .inr (14, rg 107 x2_0))]) hP8 hD8 [0] [] rfl rfl (by decide) (by decide) hk9 hFc9 ht9 hB9
  have hP9 : va_P D cls [(a0, .inr (14, rg 107 x2_0))] H9 := hP9
  have hD9 : va_D A [(a0, .inr (14, rg 107 x2_0))] := hD9
  refine W.widen (k := 0) (n := 0) (Nat.le_of_ble_eq_true rfl) (Nat.le_of_ble_eq_true rfl) ?_
  subst hr9
  refine lv_if_eq (tgt := 42) hx hb d_15_137_19 (by decide) (fun _ => ?_) (fun c => absurd (by decide) c)
  refine lv_iinc (v := 3) (lv' := [(2, .int 3), (3, .int 0), (0, .ref a0), (1, .ref (ad 13))]) hx hb d_15_137_42 hl (k := 1) rfl (by decide) (by decide) rfl (fun ls hl => ?_)
  refine lv_goto (tgt := 2) hx hb d_15_137_45 (by decide) ?_
  refine lv_iload_n hx hb d_15_137_2 rfl (lv_at hl 0 rfl) ?_
  refine lv_aload_n hx hb d_15_137_3 rfl (lv_at hl 3 rfl) ?_
  have hFc10 := va_free (wc := []) hD9 hS9 hA [] rfl
  refine va_calli (va_runV (As := []) (rest := [.int 3]) ⟨hx, hb, hml, hown, hts⟩ (c_String_length_13 l D ca ad av H9.size  ) (cwV 0 hts (gdV k_10_194 k_3_82 k_3_83 k_1_11 k_3_84) rfl rfl rfl (by decide +kernel) ⟨Nat.le_of_ble_eq_true rfl, Nat.le_of_ble_eq_true rfl⟩) ⟨gBlind, vk_recv (i := 0) (hX.2.2.2.2.1 13 _ rfl).2 (by decide) hS9, gAt hP9 hD9 hK hS9 hA hX [] (by decide) rfl [.ref (ad 13)]⟩ rfl rfl hl.1 rfl (lv_room (Nat.le_of_ble_eq_true rfl)) d_15_137_4 ⟨Nat.le_of_ble_eq_true rfl, Nat.le_of_ble_eq_true rfl⟩) hS9 (fun q _ h => hFc10 q h) hFc10 (fun r10 u10 t10 H10 locs10 ht10 hvm10 hw10 hB10 hz10 hk10 hS10 => ?_)
  have hr10 := hw10
  obtain ⟨hP10, hD10⟩ := gJoin (wr := [(a0, .inr (14, rg 107 x2_0))]) (w1 := []) hP9 hD9 [] [0] rfl rfl (by decide) (by decide) hk10 hFc10 ht10 hB10
  have hP10 : va_P D cls [(a0, .inr (14, rg 107 x2_0))] H10 := hP10
  have hD10 : va_D A [(a0, .inr (14, rg 107 x2_0))] := hD10
  refine W.widen (k := 0) (n := 0) (Nat.le_of_ble_eq_true rfl) (Nat.le_of_ble_eq_true rfl) ?_
  subst hr10
  refine lv_icmp_ge (tgt := 48) hx hb d_15_137_7 (by decide) (fun c => absurd c (by decide)) (fun _ => ?_)
  refine lv_aload_n hx hb d_15_137_10 rfl (lv_at hl 2 rfl) ?_
  have hFc11 := va_free (wc := [(a0, .inr (14, rg 107 x2_0))]) hD10 hS10 hA [0] rfl
  refine va_calli (va_runV (As := []) (rest := []) ⟨hx, hb, hml, hown, hts⟩ (c_M_next_1 l D ca ad av H10.size a0 x2_0 (hF2_0.sub [1] rfl)) (cwV 0 hts (gdV k_13_11 k_13_13 ks_151 k_1_9 k_13_14) rfl rfl rfl (by decide +kernel) ⟨Nat.le_of_ble_eq_true rfl, Nat.le_of_ble_eq_true rfl⟩) (gPV hP10 hD10 hK hS10 hA hX [0] (by decide) rfl a0 [] 0 (ci := 14) (r := (RX14, TX14, 107)) rfl rfl) rfl rfl hl.1 rfl (lv_room (Nat.le_of_ble_eq_true rfl)) d_15_137_11 ⟨Nat.le_of_ble_eq_true rfl, Nat.le_of_ble_eq_true rfl⟩) hS10 (fun q _ h => hFc11 q h) hFc11 (fun r11 u11 t11 H11 locs11 ht11 hvm11 hw11 hB11 hz11 hk11 hS11 => ?_)
  have hr11 := hw11
  obtain ⟨hP11, hD11⟩ := gJoin (wr := []) (w1 := [(a0, .inr (14, rg 107 x2_0))]) hP10 hD10 [0] [] rfl rfl (by decide) (by decide) hk11 hFc11 ht11 hB11
  have hP11 : va_P D cls [(a0, .inr (14, rg 107 x2_0))] H11 := hP11
  have hD11 : va_D A [(a0, .inr (14, rg 107 x2_0))] := hD11
  refine W.widen (k := 0) (n := 0) (Nat.le_of_ble_eq_true rfl) (Nat.le_of_ble_eq_true rfl) ?_
  subst hr11
  refine lv_istore_n (lv' := [(3, .int 0), (2, .int 3), (0, .ref a0), (1, .ref (ad 13))]) hx hb d_15_137_14 rfl hl (by decide) rfl (fun ls hl => ?_)
  refine lv_aload_n hx hb d_15_137_15 rfl (lv_at hl 2 rfl) ?_
  have hFc12 := va_free (wc := [(a0, .inr (14, rg 107 x2_0))]) hD11 hS11 hA [0] rfl
  refine va_calli (va_runV (As := []) (rest := []) ⟨hx, hb, hml, hown, hts⟩ (c_M_good_1 l D ca ad av H11.size a0 x2_0 (hF2_0.sub [1] rfl)) (cwV 0 hts (gdV k_13_15 k_13_17 ks_152 k_1_9 k_13_18) rfl rfl rfl (by decide +kernel) ⟨Nat.le_of_ble_eq_true rfl, Nat.le_of_ble_eq_true rfl⟩) (gPV hP11 hD11 hK hS11 hA hX [0] (by decide) rfl a0 [] 0 (ci := 14) (r := (RX14, TX14, 107)) rfl rfl) rfl rfl hl.1 rfl (lv_room (Nat.le_of_ble_eq_true rfl)) d_15_137_16 ⟨Nat.le_of_ble_eq_true rfl, Nat.le_of_ble_eq_true rfl⟩) hS11 (fun q _ h => hFc12 q h) hFc12 (fun r12 u12 t12 H12 locs12 ht12 hvm12 hw12 hB12 hz12 hk12 hS12 => ?_)
  have hr12 := hw12
  obtain ⟨hP12, hD12⟩ := gJoin (wr := []) (w1 := [(a0, .inr (14, rg 107 x2_0))]) hP11 hD11 [0] [] rfl rfl (by decide) (by decide) hk12 hFc12 ht12 hB12
  have hP12 : va_P D cls [(a0, .inr (14, rg 107 x2_0))] H12 := hP12
  have hD12 : va_D A [(a0, .inr (14, rg 107 x2_0))] := hD12
  refine W.widen (k := 0) (n := 0) (Nat.le_of_ble_eq_true rfl) (Nat.le_of_ble_eq_true rfl) ?_
  subst hr12
  refine lv_if_eq (tgt := 42) hx hb d_15_137_19 (by decide) (fun _ => ?_) (fun c => absurd (by decide) c)
  refine lv_iinc (v := 4) (lv' := [(2, .int 4), (3, .int 0), (0, .ref a0), (1, .ref (ad 13))]) hx hb d_15_137_42 hl (k := 1) rfl (by decide) (by decide) rfl (fun ls hl => ?_)
  refine lv_goto (tgt := 2) hx hb d_15_137_45 (by decide) ?_
  refine lv_iload_n hx hb d_15_137_2 rfl (lv_at hl 0 rfl) ?_
  refine lv_aload_n hx hb d_15_137_3 rfl (lv_at hl 3 rfl) ?_
  have hFc13 := va_free (wc := []) hD12 hS12 hA [] rfl
  refine va_calli (va_runV (As := []) (rest := [.int 4]) ⟨hx, hb, hml, hown, hts⟩ (c_String_length_13 l D ca ad av H12.size  ) (cwV 0 hts (gdV k_10_194 k_3_82 k_3_83 k_1_11 k_3_84) rfl rfl rfl (by decide +kernel) ⟨Nat.le_of_ble_eq_true rfl, Nat.le_of_ble_eq_true rfl⟩) ⟨gBlind, vk_recv (i := 0) (hX.2.2.2.2.1 13 _ rfl).2 (by decide) hS12, gAt hP12 hD12 hK hS12 hA hX [] (by decide) rfl [.ref (ad 13)]⟩ rfl rfl hl.1 rfl (lv_room (Nat.le_of_ble_eq_true rfl)) d_15_137_4 ⟨Nat.le_of_ble_eq_true rfl, Nat.le_of_ble_eq_true rfl⟩) hS12 (fun q _ h => hFc13 q h) hFc13 (fun r13 u13 t13 H13 locs13 ht13 hvm13 hw13 hB13 hz13 hk13 hS13 => ?_)
  have hr13 := hw13
  obtain ⟨hP13, hD13⟩ := gJoin (wr := [(a0, .inr (14, rg 107 x2_0))]) (w1 := []) hP12 hD12 [] [0] rfl rfl (by decide) (by decide) hk13 hFc13 ht13 hB13
  have hP13 : va_P D cls [(a0, .inr (14, rg 107 x2_0))] H13 := hP13
  have hD13 : va_D A [(a0, .inr (14, rg 107 x2_0))] := hD13
  refine W.widen (k := 0) (n := 0) (Nat.le_of_ble_eq_true rfl) (Nat.le_of_ble_eq_true rfl) ?_
  subst hr13
  refine lv_icmp_ge (tgt := 48) hx hb d_15_137_7 (by decide) (fun _ => ?_) (fun c => absurd (by decide) c)
  have hP9 := hP13.sub (ws' := [(a0, .inr (14, rg 107 x2_0))]) [0] rfl
  have hD9 := hD13.sub (ws' := [(a0, .inr (14, rg 107 x2_0))]) [0] (by decide) rfl
  refine W.widen (k := 0) (n := 0) (Nat.le_of_ble_eq_true rfl) (Nat.le_of_ble_eq_true rfl) ?_
  exact W.vret hx hb hr (fun t ht hW => ⟨⟨(x2_0), rfl, ⟨hM2_0.mono (by decide), hF2_0.sub [0, 1] rfl⟩, by rw [ht]; exact hP9, va_K.moved hW.alike hK, hD9⟩, hS13.F ht⟩) hS13.2.2 d_15_137_48
abbrev Q_M_whole_0 (D : va_G) (ca : Nat → ClassId) (a0 : Nat) (g0 : Nat → Value) (A : Nat → Prop) : Array Value → State → Outcome → State → Prop := va_Ql (S := Unit) (fun (r : Int64) (u : Unit) => r = 0) (fun u => gB D ca A [(a0, .inr (14, rg 107 g0))]) A
set_option maxHeartbeats 8000000 in
set_option maxRecDepth 100000 in
theorem c_M_whole_0 (l : Launch) (D : va_G) (ca : Nat → ClassId) (ad av : Nat → Nat) (sz : Nat) (a0 : Nat) (g0 : Nat → Value) (hp0 : gF g0 [(17, .int 2)]) : Met l ({ cls := "StaveHouseModel", name := "whole", desc := "(I)J" } : Jvm.MethodName) (Cond.code ({ cls := "StaveHouseModel", name := "whole", desc := "(I)J" } : Jvm.MethodName) prog_15_method_138_code 5 (Option.some Jvm.ClassFile.FieldType.long) :: wAll) ({ frames := 2, cells := 0, slots := 0, locals := 40 } : Room) (va_Pc [.ref a0, .int 4] (gPre D ca ad av [(a0, .inr (14, rg 107 g0))] sz)) (Q_M_whole_0 D ca a0 g0 (va_A [(a0, .inr (14, rg 107 g0))] sz)) 0 0 (va_A [(a0, .inr (14, rg 107 g0))] sz) := by
  refine gMet (Qc := Q_M_whole_0 D ca a0 g0) (lv := [(0, .ref a0), (1, .int 4)]) (by decide) (Nat.le_of_ble_eq_true rfl) rfl (fun A p e s m below meth c ls hx hb hr hml hown hts hlk hnm hl hP hK hD hS hA hX => ?_)
  have hown : s.vm.findClass "StaveHouseModel" = some m.cls := hown
  have hnm : meth.name = "whole" := hnm
  refine lv_lconst (v := 0) hx hb d_15_138_0 (by decide) ?_
  refine lv_lstore_n (lv' := [(2, .long 0), (0, .ref a0), (1, .int 4)]) hx hb d_15_138_1 rfl hl (by decide) rfl (fun ls hl => ?_)
  refine lv_iconst (v := 0) hx hb d_15_138_2 (by decide) ?_
  refine lv_istore (lv' := [(4, .int 0), (2, .long 0), (0, .ref a0), (1, .int 4)]) hx hb d_15_138_3 hl (by decide) rfl (fun ls hl => ?_)
  refine lv_iload hx hb d_15_138_5 (lv_at hl 0 rfl) ?_
  refine lv_iload_n hx hb d_15_138_7 rfl (lv_at hl 3 rfl) ?_
  refine lv_icmp_ge (tgt := 28) hx hb d_15_138_8 (by decide) (fun c => absurd c (by decide)) (fun _ => ?_)
  refine lv_lload_n hx hb d_15_138_11 rfl (lv_at hl 1 rfl) ?_
  refine lv_bipush (v := 8) hx hb d_15_138_12 (by decide) ?_
  refine lv_lshl hx hb d_15_138_14 rfl ?_
  refine lv_topl (fun y1 ey1 => ?_)
  obtain rfl : y1 = 0 := ey1.trans (by decide)
  refine lv_aload_n hx hb d_15_138_15 rfl (lv_at hl 2 rfl) ?_
  have hFc2 := va_free (wc := [(a0, .inr (14, rg 107 g0))]) hD hS hA [0] rfl
  refine va_calli (va_runV (As := []) (rest := [.long 0]) ⟨hx, hb, hml, hown, hts⟩ (c_M_next_1 l D ca ad av s.heap.size a0 g0 (hp0.sub [0] rfl)) (cwV 0 hts (gdV k_13_11 k_13_13 ks_151 k_1_9 k_13_14) rfl rfl rfl (by decide +kernel) ⟨Nat.le_of_ble_eq_true rfl, Nat.le_of_ble_eq_true rfl⟩) (gPV hP hD hK hS hA hX [0] (by decide) rfl a0 [] 0 (ci := 14) (r := (RX14, TX14, 107)) rfl rfl) rfl rfl hl.1 rfl (lv_room (Nat.le_of_ble_eq_true rfl)) d_15_138_16 ⟨Nat.le_of_ble_eq_true rfl, Nat.le_of_ble_eq_true rfl⟩) hS (fun q _ h => hFc2 q h) hFc2 (fun r2 u2 t2 H2 locs2 ht2 hvm2 hw2 hB2 hz2 hk2 hS2 => ?_)
  have hr2 := hw2
  obtain ⟨hP2, hD2⟩ := gJoin (wr := []) (w1 := [(a0, .inr (14, rg 107 g0))]) hP hD [0] [] rfl rfl (by decide) (by decide) hk2 hFc2 ht2 hB2
  have hP2 : va_P D cls [(a0, .inr (14, rg 107 g0))] H2 := hP2
  have hD2 : va_D A [(a0, .inr (14, rg 107 g0))] := hD2
  refine W.widen (k := 0) (n := 0) (Nat.le_of_ble_eq_true rfl) (Nat.le_of_ble_eq_true rfl) ?_
  subst hr2
  refine lv_i2l hx hb d_15_138_19 rfl ?_
  refine lv_topl (fun y3 ey3 => ?_)
  obtain rfl : y3 = 0 := ey3.trans (by decide)
  refine lv_lor hx hb d_15_138_20 ?_
  refine lv_topl (fun y4 ey4 => ?_)
  obtain rfl : y4 = 0 := ey4.trans (by decide)
  refine lv_lstore_n (lv' := [(2, .long 0), (4, .int 0), (0, .ref a0), (1, .int 4)]) hx hb d_15_138_21 rfl hl (by decide) rfl (fun ls hl => ?_)
  refine lv_iinc (v := 1) (lv' := [(4, .int 1), (2, .long 0), (0, .ref a0), (1, .int 4)]) hx hb d_15_138_22 hl (k := 1) rfl (by decide) (by decide) rfl (fun ls hl => ?_)
  refine lv_goto (tgt := 5) hx hb d_15_138_25 (by decide) ?_
  refine lv_iload hx hb d_15_138_5 (lv_at hl 0 rfl) ?_
  refine lv_iload_n hx hb d_15_138_7 rfl (lv_at hl 3 rfl) ?_
  refine lv_icmp_ge (tgt := 28) hx hb d_15_138_8 (by decide) (fun c => absurd c (by decide)) (fun _ => ?_)
  refine lv_lload_n hx hb d_15_138_11 rfl (lv_at hl 1 rfl) ?_
  refine lv_bipush (v := 8) hx hb d_15_138_12 (by decide) ?_
  refine lv_lshl hx hb d_15_138_14 rfl ?_
  refine lv_topl (fun y5 ey5 => ?_)
  obtain rfl : y5 = 0 := ey5.trans (by decide)
  refine lv_aload_n hx hb d_15_138_15 rfl (lv_at hl 2 rfl) ?_
  have hFc6 := va_free (wc := [(a0, .inr (14, rg 107 g0))]) hD2 hS2 hA [0] rfl
  refine va_calli (va_runV (As := []) (rest := [.long 0]) ⟨hx, hb, hml, hown, hts⟩ (c_M_next_1 l D ca ad av H2.size a0 g0 (hp0.sub [0] rfl)) (cwV 0 hts (gdV k_13_11 k_13_13 ks_151 k_1_9 k_13_14) rfl rfl rfl (by decide +kernel) ⟨Nat.le_of_ble_eq_true rfl, Nat.le_of_ble_eq_true rfl⟩) (gPV hP2 hD2 hK hS2 hA hX [0] (by decide) rfl a0 [] 0 (ci := 14) (r := (RX14, TX14, 107)) rfl rfl) rfl rfl hl.1 rfl (lv_room (Nat.le_of_ble_eq_true rfl)) d_15_138_16 ⟨Nat.le_of_ble_eq_true rfl, Nat.le_of_ble_eq_true rfl⟩) hS2 (fun q _ h => hFc6 q h) hFc6 (fun r6 u6 t6 H6 locs6 ht6 hvm6 hw6 hB6 hz6 hk6 hS6 => ?_)
  have hr6 := hw6
  obtain ⟨hP6, hD6⟩ := gJoin (wr := []) (w1 := [(a0, .inr (14, rg 107 g0))]) hP2 hD2 [0] [] rfl rfl (by decide) (by decide) hk6 hFc6 ht6 hB6
  have hP6 : va_P D cls [(a0, .inr (14, rg 107 g0))] H6 := hP6
  have hD6 : va_D A [(a0, .inr (14, rg 107 g0))] := hD6
  refine W.widen (k := 0) (n := 0) (Nat.le_of_ble_eq_true rfl) (Nat.le_of_ble_eq_true rfl) ?_
  subst hr6
  refine lv_i2l hx hb d_15_138_19 rfl ?_
  refine lv_topl (fun y7 ey7 => ?_)
  obtain rfl : y7 = 0 := ey7.trans (by decide)
  refine lv_lor hx hb d_15_138_20 ?_
  refine lv_topl (fun y8 ey8 => ?_)
  obtain rfl : y8 = 0 := ey8.trans (by decide)
  refine lv_lstore_n (lv' := [(2, .long 0), (4, .int 1), (0, .ref a0), (1, .int 4)]) hx hb d_15_138_21 rfl hl (by decide) rfl (fun ls hl => ?_)
  refine lv_iinc (v := 2) (lv' := [(4, .int 2), (2, .long 0), (0, .ref a0), (1, .int 4)]) hx hb d_15_138_22 hl (k := 1) rfl (by decide) (by decide) rfl (fun ls hl => ?_)
  refine lv_goto (tgt := 5) hx hb d_15_138_25 (by decide) ?_
  refine lv_iload hx hb d_15_138_5 (lv_at hl 0 rfl) ?_
  refine lv_iload_n hx hb d_15_138_7 rfl (lv_at hl 3 rfl) ?_
  refine lv_icmp_ge (tgt := 28) hx hb d_15_138_8 (by decide) (fun c => absurd c (by decide)) (fun _ => ?_)
  refine lv_lload_n hx hb d_15_138_11 rfl (lv_at hl 1 rfl) ?_
  refine lv_bipush (v := 8) hx hb d_15_138_12 (by decide) ?_
  refine lv_lshl hx hb d_15_138_14 rfl ?_
  refine lv_topl (fun y9 ey9 => ?_)
  obtain rfl : y9 = 0 := ey9.trans (by decide)
  refine lv_aload_n hx hb d_15_138_15 rfl (lv_at hl 2 rfl) ?_
  have hFc10 := va_free (wc := [(a0, .inr (14, rg 107 g0))]) hD6 hS6 hA [0] rfl
  refine va_calli (va_runV (As := []) (rest := [.long 0]) ⟨hx, hb, hml, hown, hts⟩ (c_M_next_1 l D ca ad av H6.size a0 g0 (hp0.sub [0] rfl)) (cwV 0 hts (gdV k_13_11 k_13_13 ks_151 k_1_9 k_13_14) rfl rfl rfl (by decide +kernel) ⟨Nat.le_of_ble_eq_true rfl, Nat.le_of_ble_eq_true rfl⟩) (gPV hP6 hD6 hK hS6 hA hX [0] (by decide) rfl a0 [] 0 (ci := 14) (r := (RX14, TX14, 107)) rfl rfl) rfl rfl hl.1 rfl (lv_room (Nat.le_of_ble_eq_true rfl)) d_15_138_16 ⟨Nat.le_of_ble_eq_true rfl, Nat.le_of_ble_eq_true rfl⟩) hS6 (fun q _ h => hFc10 q h) hFc10 (fun r10 u10 t10 H10 locs10 ht10 hvm10 hw10 hB10 hz10 hk10 hS10 => ?_)
  have hr10 := hw10
  obtain ⟨hP10, hD10⟩ := gJoin (wr := []) (w1 := [(a0, .inr (14, rg 107 g0))]) hP6 hD6 [0] [] rfl rfl (by decide) (by decide) hk10 hFc10 ht10 hB10
  have hP10 : va_P D cls [(a0, .inr (14, rg 107 g0))] H10 := hP10
  have hD10 : va_D A [(a0, .inr (14, rg 107 g0))] := hD10
  refine W.widen (k := 0) (n := 0) (Nat.le_of_ble_eq_true rfl) (Nat.le_of_ble_eq_true rfl) ?_
  subst hr10
  refine lv_i2l hx hb d_15_138_19 rfl ?_
  refine lv_topl (fun y11 ey11 => ?_)
  obtain rfl : y11 = 0 := ey11.trans (by decide)
  refine lv_lor hx hb d_15_138_20 ?_
  refine lv_topl (fun y12 ey12 => ?_)
  obtain rfl : y12 = 0 := ey12.trans (by decide)
  refine lv_lstore_n (lv' := [(2, .long 0), (4, .int 2), (0, .ref a0), (1, .int 4)]) hx hb d_15_138_21 rfl hl (by decide) rfl (fun ls hl => ?_)
  refine lv_iinc (v := 3) (lv' := [(4, .int 3), (2, .long 0), (0, .ref a0), (1, .int 4)]) hx hb d_15_138_22 hl (k := 1) rfl (by decide) (by decide) rfl (fun ls hl => ?_)
  refine lv_goto (tgt := 5) hx hb d_15_138_25 (by decide) ?_
  refine lv_iload hx hb d_15_138_5 (lv_at hl 0 rfl) ?_
  refine lv_iload_n hx hb d_15_138_7 rfl (lv_at hl 3 rfl) ?_
  refine lv_icmp_ge (tgt := 28) hx hb d_15_138_8 (by decide) (fun c => absurd c (by decide)) (fun _ => ?_)
  refine lv_lload_n hx hb d_15_138_11 rfl (lv_at hl 1 rfl) ?_
  refine lv_bipush (v := 8) hx hb d_15_138_12 (by decide) ?_
  refine lv_lshl hx hb d_15_138_14 rfl ?_
  refine lv_topl (fun y13 ey13 => ?_)
  obtain rfl : y13 = 0 := ey13.trans (by decide)
  refine lv_aload_n hx hb d_15_138_15 rfl (lv_at hl 2 rfl) ?_
  have hFc14 := va_free (wc := [(a0, .inr (14, rg 107 g0))]) hD10 hS10 hA [0] rfl
  refine va_calli (va_runV (As := []) (rest := [.long 0]) ⟨hx, hb, hml, hown, hts⟩ (c_M_next_1 l D ca ad av H10.size a0 g0 (hp0.sub [0] rfl)) (cwV 0 hts (gdV k_13_11 k_13_13 ks_151 k_1_9 k_13_14) rfl rfl rfl (by decide +kernel) ⟨Nat.le_of_ble_eq_true rfl, Nat.le_of_ble_eq_true rfl⟩) (gPV hP10 hD10 hK hS10 hA hX [0] (by decide) rfl a0 [] 0 (ci := 14) (r := (RX14, TX14, 107)) rfl rfl) rfl rfl hl.1 rfl (lv_room (Nat.le_of_ble_eq_true rfl)) d_15_138_16 ⟨Nat.le_of_ble_eq_true rfl, Nat.le_of_ble_eq_true rfl⟩) hS10 (fun q _ h => hFc14 q h) hFc14 (fun r14 u14 t14 H14 locs14 ht14 hvm14 hw14 hB14 hz14 hk14 hS14 => ?_)
  have hr14 := hw14
  obtain ⟨hP14, hD14⟩ := gJoin (wr := []) (w1 := [(a0, .inr (14, rg 107 g0))]) hP10 hD10 [0] [] rfl rfl (by decide) (by decide) hk14 hFc14 ht14 hB14
  have hP14 : va_P D cls [(a0, .inr (14, rg 107 g0))] H14 := hP14
  have hD14 : va_D A [(a0, .inr (14, rg 107 g0))] := hD14
  refine W.widen (k := 0) (n := 0) (Nat.le_of_ble_eq_true rfl) (Nat.le_of_ble_eq_true rfl) ?_
  subst hr14
  refine lv_i2l hx hb d_15_138_19 rfl ?_
  refine lv_topl (fun y15 ey15 => ?_)
  obtain rfl : y15 = 0 := ey15.trans (by decide)
  refine lv_lor hx hb d_15_138_20 ?_
  refine lv_topl (fun y16 ey16 => ?_)
  obtain rfl : y16 = 0 := ey16.trans (by decide)
  refine lv_lstore_n (lv' := [(2, .long 0), (4, .int 3), (0, .ref a0), (1, .int 4)]) hx hb d_15_138_21 rfl hl (by decide) rfl (fun ls hl => ?_)
  refine lv_iinc (v := 4) (lv' := [(4, .int 4), (2, .long 0), (0, .ref a0), (1, .int 4)]) hx hb d_15_138_22 hl (k := 1) rfl (by decide) (by decide) rfl (fun ls hl => ?_)
  refine lv_goto (tgt := 5) hx hb d_15_138_25 (by decide) ?_
  refine lv_iload hx hb d_15_138_5 (lv_at hl 0 rfl) ?_
  refine lv_iload_n hx hb d_15_138_7 rfl (lv_at hl 3 rfl) ?_
  refine lv_icmp_ge (tgt := 28) hx hb d_15_138_8 (by decide) (fun _ => ?_) (fun c => absurd (by decide) c)
  refine lv_lload_n hx hb d_15_138_28 rfl (lv_at hl 1 rfl) ?_
  have hP9 := hP14.sub (ws' := [(a0, .inr (14, rg 107 g0))]) [0] rfl
  have hD9 := hD14.sub (ws' := [(a0, .inr (14, rg 107 g0))]) [0] (by decide) rfl
  refine W.widen (k := 0) (n := 0) (Nat.le_of_ble_eq_true rfl) (Nat.le_of_ble_eq_true rfl) ?_
  exact W.lret (v := 0) hx hb hr (fun t ht hW => ⟨⟨0, (), rfl, rfl, by rw [ht]; exact hP9, va_K.moved hW.alike hK, hD9⟩, hS14.F ht⟩) hS14.2.2 d_15_138_29
abbrev Q_M_whole_1 (D : va_G) (ca : Nat → ClassId) (a0 : Nat) (g0 : Nat → Value) (A : Nat → Prop) : Array Value → State → Outcome → State → Prop := va_Ql (S := Unit) (fun (r : Int64) (u : Unit) => r = 0) (fun u => gB D ca A [(a0, .inr (14, rg 107 g0))]) A
set_option maxHeartbeats 8000000 in
set_option maxRecDepth 100000 in
theorem c_M_whole_1 (l : Launch) (D : va_G) (ca : Nat → ClassId) (ad av : Nat → Nat) (sz : Nat) (a0 : Nat) (g0 : Nat → Value) (hp0 : gF g0 [(17, .int 2)]) : Met l ({ cls := "StaveHouseModel", name := "whole", desc := "(I)J" } : Jvm.MethodName) (Cond.code ({ cls := "StaveHouseModel", name := "whole", desc := "(I)J" } : Jvm.MethodName) prog_15_method_138_code 5 (Option.some Jvm.ClassFile.FieldType.long) :: wAll) ({ frames := 2, cells := 0, slots := 0, locals := 40 } : Room) (va_Pc [.ref a0, .int 2] (gPre D ca ad av [(a0, .inr (14, rg 107 g0))] sz)) (Q_M_whole_1 D ca a0 g0 (va_A [(a0, .inr (14, rg 107 g0))] sz)) 0 0 (va_A [(a0, .inr (14, rg 107 g0))] sz) := by
  refine gMet (Qc := Q_M_whole_1 D ca a0 g0) (lv := [(0, .ref a0), (1, .int 2)]) (by decide) (Nat.le_of_ble_eq_true rfl) rfl (fun A p e s m below meth c ls hx hb hr hml hown hts hlk hnm hl hP hK hD hS hA hX => ?_)
  have hown : s.vm.findClass "StaveHouseModel" = some m.cls := hown
  have hnm : meth.name = "whole" := hnm
  refine lv_lconst (v := 0) hx hb d_15_138_0 (by decide) ?_
  refine lv_lstore_n (lv' := [(2, .long 0), (0, .ref a0), (1, .int 2)]) hx hb d_15_138_1 rfl hl (by decide) rfl (fun ls hl => ?_)
  refine lv_iconst (v := 0) hx hb d_15_138_2 (by decide) ?_
  refine lv_istore (lv' := [(4, .int 0), (2, .long 0), (0, .ref a0), (1, .int 2)]) hx hb d_15_138_3 hl (by decide) rfl (fun ls hl => ?_)
  refine lv_iload hx hb d_15_138_5 (lv_at hl 0 rfl) ?_
  refine lv_iload_n hx hb d_15_138_7 rfl (lv_at hl 3 rfl) ?_
  refine lv_icmp_ge (tgt := 28) hx hb d_15_138_8 (by decide) (fun c => absurd c (by decide)) (fun _ => ?_)
  refine lv_lload_n hx hb d_15_138_11 rfl (lv_at hl 1 rfl) ?_
  refine lv_bipush (v := 8) hx hb d_15_138_12 (by decide) ?_
  refine lv_lshl hx hb d_15_138_14 rfl ?_
  refine lv_topl (fun y1 ey1 => ?_)
  obtain rfl : y1 = 0 := ey1.trans (by decide)
  refine lv_aload_n hx hb d_15_138_15 rfl (lv_at hl 2 rfl) ?_
  have hFc2 := va_free (wc := [(a0, .inr (14, rg 107 g0))]) hD hS hA [0] rfl
  refine va_calli (va_runV (As := []) (rest := [.long 0]) ⟨hx, hb, hml, hown, hts⟩ (c_M_next_1 l D ca ad av s.heap.size a0 g0 (hp0.sub [0] rfl)) (cwV 0 hts (gdV k_13_11 k_13_13 ks_151 k_1_9 k_13_14) rfl rfl rfl (by decide +kernel) ⟨Nat.le_of_ble_eq_true rfl, Nat.le_of_ble_eq_true rfl⟩) (gPV hP hD hK hS hA hX [0] (by decide) rfl a0 [] 0 (ci := 14) (r := (RX14, TX14, 107)) rfl rfl) rfl rfl hl.1 rfl (lv_room (Nat.le_of_ble_eq_true rfl)) d_15_138_16 ⟨Nat.le_of_ble_eq_true rfl, Nat.le_of_ble_eq_true rfl⟩) hS (fun q _ h => hFc2 q h) hFc2 (fun r2 u2 t2 H2 locs2 ht2 hvm2 hw2 hB2 hz2 hk2 hS2 => ?_)
  have hr2 := hw2
  obtain ⟨hP2, hD2⟩ := gJoin (wr := []) (w1 := [(a0, .inr (14, rg 107 g0))]) hP hD [0] [] rfl rfl (by decide) (by decide) hk2 hFc2 ht2 hB2
  have hP2 : va_P D cls [(a0, .inr (14, rg 107 g0))] H2 := hP2
  have hD2 : va_D A [(a0, .inr (14, rg 107 g0))] := hD2
  refine W.widen (k := 0) (n := 0) (Nat.le_of_ble_eq_true rfl) (Nat.le_of_ble_eq_true rfl) ?_
  subst hr2
  refine lv_i2l hx hb d_15_138_19 rfl ?_
  refine lv_topl (fun y3 ey3 => ?_)
  obtain rfl : y3 = 0 := ey3.trans (by decide)
  refine lv_lor hx hb d_15_138_20 ?_
  refine lv_topl (fun y4 ey4 => ?_)
  obtain rfl : y4 = 0 := ey4.trans (by decide)
  refine lv_lstore_n (lv' := [(2, .long 0), (4, .int 0), (0, .ref a0), (1, .int 2)]) hx hb d_15_138_21 rfl hl (by decide) rfl (fun ls hl => ?_)
  refine lv_iinc (v := 1) (lv' := [(4, .int 1), (2, .long 0), (0, .ref a0), (1, .int 2)]) hx hb d_15_138_22 hl (k := 1) rfl (by decide) (by decide) rfl (fun ls hl => ?_)
  refine lv_goto (tgt := 5) hx hb d_15_138_25 (by decide) ?_
  refine lv_iload hx hb d_15_138_5 (lv_at hl 0 rfl) ?_
  refine lv_iload_n hx hb d_15_138_7 rfl (lv_at hl 3 rfl) ?_
  refine lv_icmp_ge (tgt := 28) hx hb d_15_138_8 (by decide) (fun c => absurd c (by decide)) (fun _ => ?_)
  refine lv_lload_n hx hb d_15_138_11 rfl (lv_at hl 1 rfl) ?_
  refine lv_bipush (v := 8) hx hb d_15_138_12 (by decide) ?_
  refine lv_lshl hx hb d_15_138_14 rfl ?_
  refine lv_topl (fun y5 ey5 => ?_)
  obtain rfl : y5 = 0 := ey5.trans (by decide)
  refine lv_aload_n hx hb d_15_138_15 rfl (lv_at hl 2 rfl) ?_
  have hFc6 := va_free (wc := [(a0, .inr (14, rg 107 g0))]) hD2 hS2 hA [0] rfl
  refine va_calli (va_runV (As := []) (rest := [.long 0]) ⟨hx, hb, hml, hown, hts⟩ (c_M_next_1 l D ca ad av H2.size a0 g0 (hp0.sub [0] rfl)) (cwV 0 hts (gdV k_13_11 k_13_13 ks_151 k_1_9 k_13_14) rfl rfl rfl (by decide +kernel) ⟨Nat.le_of_ble_eq_true rfl, Nat.le_of_ble_eq_true rfl⟩) (gPV hP2 hD2 hK hS2 hA hX [0] (by decide) rfl a0 [] 0 (ci := 14) (r := (RX14, TX14, 107)) rfl rfl) rfl rfl hl.1 rfl (lv_room (Nat.le_of_ble_eq_true rfl)) d_15_138_16 ⟨Nat.le_of_ble_eq_true rfl, Nat.le_of_ble_eq_true rfl⟩) hS2 (fun q _ h => hFc6 q h) hFc6 (fun r6 u6 t6 H6 locs6 ht6 hvm6 hw6 hB6 hz6 hk6 hS6 => ?_)
  have hr6 := hw6
  obtain ⟨hP6, hD6⟩ := gJoin (wr := []) (w1 := [(a0, .inr (14, rg 107 g0))]) hP2 hD2 [0] [] rfl rfl (by decide) (by decide) hk6 hFc6 ht6 hB6
  have hP6 : va_P D cls [(a0, .inr (14, rg 107 g0))] H6 := hP6
  have hD6 : va_D A [(a0, .inr (14, rg 107 g0))] := hD6
  refine W.widen (k := 0) (n := 0) (Nat.le_of_ble_eq_true rfl) (Nat.le_of_ble_eq_true rfl) ?_
  subst hr6
  refine lv_i2l hx hb d_15_138_19 rfl ?_
  refine lv_topl (fun y7 ey7 => ?_)
  obtain rfl : y7 = 0 := ey7.trans (by decide)
  refine lv_lor hx hb d_15_138_20 ?_
  refine lv_topl (fun y8 ey8 => ?_)
  obtain rfl : y8 = 0 := ey8.trans (by decide)
  refine lv_lstore_n (lv' := [(2, .long 0), (4, .int 1), (0, .ref a0), (1, .int 2)]) hx hb d_15_138_21 rfl hl (by decide) rfl (fun ls hl => ?_)
  refine lv_iinc (v := 2) (lv' := [(4, .int 2), (2, .long 0), (0, .ref a0), (1, .int 2)]) hx hb d_15_138_22 hl (k := 1) rfl (by decide) (by decide) rfl (fun ls hl => ?_)
  refine lv_goto (tgt := 5) hx hb d_15_138_25 (by decide) ?_
  refine lv_iload hx hb d_15_138_5 (lv_at hl 0 rfl) ?_
  refine lv_iload_n hx hb d_15_138_7 rfl (lv_at hl 3 rfl) ?_
  refine lv_icmp_ge (tgt := 28) hx hb d_15_138_8 (by decide) (fun _ => ?_) (fun c => absurd (by decide) c)
  refine lv_lload_n hx hb d_15_138_28 rfl (lv_at hl 1 rfl) ?_
  have hP9 := hP6.sub (ws' := [(a0, .inr (14, rg 107 g0))]) [0] rfl
  have hD9 := hD6.sub (ws' := [(a0, .inr (14, rg 107 g0))]) [0] (by decide) rfl
  refine W.widen (k := 0) (n := 0) (Nat.le_of_ble_eq_true rfl) (Nat.le_of_ble_eq_true rfl) ?_
  exact W.lret (v := 0) hx hb hr (fun t ht hW => ⟨⟨0, (), rfl, rfl, by rw [ht]; exact hP9, va_K.moved hW.alike hK, hD9⟩, hS6.F ht⟩) hS6.2.2 d_15_138_29
abbrev Q_M_within_0 (D : va_G) (ca : Nat → ClassId) (a0 : Nat) (g0 : Nat → Value) (A : Nat → Prop) : Array Value → State → Outcome → State → Prop := va_Qi (S := Unit) (fun (r : Int32) (u : Unit) => r = 0) (fun u => gB D ca A [(a0, .inr (14, rg 107 g0))]) A
set_option maxHeartbeats 8000000 in
set_option maxRecDepth 100000 in
theorem c_M_within_0 (l : Launch) (D : va_G) (ca : Nat → ClassId) (ad av : Nat → Nat) (sz : Nat) (a0 : Nat) (g0 : Nat → Value) (hp0 : gF g0 [(17, .int 2), (89, .int 0)]) : Met l ({ cls := "StaveHouseModel", name := "within", desc := "(III)I" } : Jvm.MethodName) (Cond.code ({ cls := "StaveHouseModel", name := "within", desc := "(III)I" } : Jvm.MethodName) prog_15_method_139_code 7 (Option.some Jvm.ClassFile.FieldType.int) :: wAll) ({ frames := 3, cells := 0, slots := 0, locals := 64 } : Room) (va_Pc [.ref a0, .int 2, .int 1, .int 8] (gPre D ca ad av [(a0, .inr (14, rg 107 g0))] sz)) (Q_M_within_0 D ca a0 g0 (va_A [(a0, .inr (14, rg 107 g0))] sz)) 0 0 (va_A [(a0, .inr (14, rg 107 g0))] sz) := by
  refine gMet (Qc := Q_M_within_0 D ca a0 g0) (lv := [(0, .ref a0), (1, .int 2), (2, .int 1), (3, .int 8)]) (by decide) (Nat.le_of_ble_eq_true rfl) rfl (fun A p e s m below meth c ls hx hb hr hml hown hts hlk hnm hl hP hK hD hS hA hX => ?_)
  have hown : s.vm.findClass "StaveHouseModel" = some m.cls := hown
  have hnm : meth.name = "within" := hnm
  refine lv_aload_n hx hb d_15_139_0 rfl (lv_at hl 0 rfl) ?_
  refine gget hx hb hts inW_14 hown hK hP 0 rfl rfl hp0 1 rfl (by decide) k_11_87 d_15_139_1 ?_
  refine lv_istore (lv' := [(4, .int 0), (0, .ref a0), (1, .int 2), (2, .int 1), (3, .int 8)]) hx hb d_15_139_4 hl (by decide) rfl (fun ls hl => ?_)
  refine lv_aload_n hx hb d_15_139_6 rfl (lv_at hl 1 rfl) ?_
  refine lv_iload_n hx hb d_15_139_7 rfl (lv_at hl 2 rfl) ?_
  have hFc1 := va_free (wc := [(a0, .inr (14, rg 107 g0))]) hD hS hA [0] rfl
  refine va_calll (va_runV (As := [.int 2]) (rest := []) ⟨hx, hb, hml, hown, hts⟩ (c_M_whole_1 l D ca ad av s.heap.size a0 g0 (hp0.sub [0] rfl)) (cwV 1 hts (gdV k_13_27 k_13_29 ks_155 k_1_9 k_13_30) rfl rfl rfl (by decide +kernel) ⟨Nat.le_of_ble_eq_true rfl, Nat.le_of_ble_eq_true rfl⟩) (gPV hP hD hK hS hA hX [0] (by decide) rfl a0 [.int 2] 0 (ci := 14) (r := (RX14, TX14, 107)) rfl rfl) rfl rfl hl.1 rfl (lv_room (Nat.le_of_ble_eq_true rfl)) d_15_139_8 ⟨Nat.le_of_ble_eq_true rfl, Nat.le_of_ble_eq_true rfl⟩) hS (fun q _ h => hFc1 q h) hFc1 (fun r1 u1 t1 H1 locs1 ht1 hvm1 hw1 hB1 hz1 hk1 hS1 => ?_)
  have hr1 := hw1
  obtain ⟨hP1, hD1⟩ := gJoin (wr := []) (w1 := [(a0, .inr (14, rg 107 g0))]) hP hD [0] [] rfl rfl (by decide) (by decide) hk1 hFc1 ht1 hB1
  have hP1 : va_P D cls [(a0, .inr (14, rg 107 g0))] H1 := hP1
  have hD1 : va_D A [(a0, .inr (14, rg 107 g0))] := hD1
  refine W.widen (k := 0) (n := 0) (Nat.le_of_ble_eq_true rfl) (Nat.le_of_ble_eq_true rfl) ?_
  subst hr1
  refine lv_lstore (lv' := [(5, .long 0), (4, .int 0), (0, .ref a0), (1, .int 2), (2, .int 1), (3, .int 8)]) hx hb d_15_139_11 hl (by decide) rfl (fun ls hl => ?_)
  refine lv_aload_n hx hb d_15_139_13 rfl (lv_at hl 2 rfl) ?_
  have hFc2 := va_free (wc := [(a0, .inr (14, rg 107 g0))]) hD1 hS1 hA [0] rfl
  refine va_calli (va_runV (As := []) (rest := []) ⟨hx, hb, hml, hown, hts⟩ (c_M_good_1 l D ca ad av H1.size a0 g0 (hp0.sub [0] rfl)) (cwV 0 hts (gdV k_13_15 k_13_17 ks_152 k_1_9 k_13_18) rfl rfl rfl (by decide +kernel) ⟨Nat.le_of_ble_eq_true rfl, Nat.le_of_ble_eq_true rfl⟩) (gPV hP1 hD1 hK hS1 hA hX [0] (by decide) rfl a0 [] 0 (ci := 14) (r := (RX14, TX14, 107)) rfl rfl) rfl rfl hl.1 rfl (lv_room (Nat.le_of_ble_eq_true rfl)) d_15_139_14 ⟨Nat.le_of_ble_eq_true rfl, Nat.le_of_ble_eq_true rfl⟩) hS1 (fun q _ h => hFc2 q h) hFc2 (fun r2 u2 t2 H2 locs2 ht2 hvm2 hw2 hB2 hz2 hk2 hS2 => ?_)
  have hr2 := hw2
  obtain ⟨hP2, hD2⟩ := gJoin (wr := []) (w1 := [(a0, .inr (14, rg 107 g0))]) hP1 hD1 [0] [] rfl rfl (by decide) (by decide) hk2 hFc2 ht2 hB2
  have hP2 : va_P D cls [(a0, .inr (14, rg 107 g0))] H2 := hP2
  have hD2 : va_D A [(a0, .inr (14, rg 107 g0))] := hD2
  refine W.widen (k := 0) (n := 0) (Nat.le_of_ble_eq_true rfl) (Nat.le_of_ble_eq_true rfl) ?_
  subst hr2
  refine lv_if_eq (tgt := 43) hx hb d_15_139_17 (by decide) (fun _ => ?_) (fun c => absurd (by decide) c)
  refine lv_lload hx hb d_15_139_43 (lv_at hl 0 rfl) ?_
  refine lv_l2i hx hb d_15_139_45 rfl ?_
  refine lv_topi (fun y3 ey3 => ?_)
  obtain rfl : y3 = 0 := ey3.trans (by decide)
  have hP9 := hP2.sub (ws' := [(a0, .inr (14, rg 107 g0))]) [0] rfl
  have hD9 := hD2.sub (ws' := [(a0, .inr (14, rg 107 g0))]) [0] (by decide) rfl
  refine W.widen (k := 0) (n := 0) (Nat.le_of_ble_eq_true rfl) (Nat.le_of_ble_eq_true rfl) ?_
  exact W.iret (v := 0) hx hb hr (fun t ht hW => ⟨⟨0, (), rfl, rfl, by rw [ht]; exact hP9, va_K.moved hW.alike hK, hD9⟩, hS2.F ht⟩) hS2.2.2 d_15_139_46
abbrev Q_M_within_1 (D : va_G) (ca : Nat → ClassId) (a0 : Nat) (g0 : Nat → Value) (A : Nat → Prop) : Array Value → State → Outcome → State → Prop := va_Qi (S := Unit) (fun (r : Int32) (u : Unit) => r = 0) (fun u => gB D ca A [(a0, .inr (14, rg 107 g0))]) A
set_option maxHeartbeats 8000000 in
set_option maxRecDepth 100000 in
theorem c_M_within_1 (l : Launch) (D : va_G) (ca : Nat → ClassId) (ad av : Nat → Nat) (sz : Nat) (a0 : Nat) (g0 : Nat → Value) (hp0 : gF g0 [(17, .int 2), (89, .int 0)]) : Met l ({ cls := "StaveHouseModel", name := "within", desc := "(III)I" } : Jvm.MethodName) (Cond.code ({ cls := "StaveHouseModel", name := "within", desc := "(III)I" } : Jvm.MethodName) prog_15_method_139_code 7 (Option.some Jvm.ClassFile.FieldType.int) :: wAll) ({ frames := 3, cells := 0, slots := 0, locals := 64 } : Room) (va_Pc [.ref a0, .int 2, .int 1, .int 960] (gPre D ca ad av [(a0, .inr (14, rg 107 g0))] sz)) (Q_M_within_1 D ca a0 g0 (va_A [(a0, .inr (14, rg 107 g0))] sz)) 0 0 (va_A [(a0, .inr (14, rg 107 g0))] sz) := by
  refine gMet (Qc := Q_M_within_1 D ca a0 g0) (lv := [(0, .ref a0), (1, .int 2), (2, .int 1), (3, .int 960)]) (by decide) (Nat.le_of_ble_eq_true rfl) rfl (fun A p e s m below meth c ls hx hb hr hml hown hts hlk hnm hl hP hK hD hS hA hX => ?_)
  have hown : s.vm.findClass "StaveHouseModel" = some m.cls := hown
  have hnm : meth.name = "within" := hnm
  refine lv_aload_n hx hb d_15_139_0 rfl (lv_at hl 0 rfl) ?_
  refine gget hx hb hts inW_14 hown hK hP 0 rfl rfl hp0 1 rfl (by decide) k_11_87 d_15_139_1 ?_
  refine lv_istore (lv' := [(4, .int 0), (0, .ref a0), (1, .int 2), (2, .int 1), (3, .int 960)]) hx hb d_15_139_4 hl (by decide) rfl (fun ls hl => ?_)
  refine lv_aload_n hx hb d_15_139_6 rfl (lv_at hl 1 rfl) ?_
  refine lv_iload_n hx hb d_15_139_7 rfl (lv_at hl 2 rfl) ?_
  have hFc1 := va_free (wc := [(a0, .inr (14, rg 107 g0))]) hD hS hA [0] rfl
  refine va_calll (va_runV (As := [.int 2]) (rest := []) ⟨hx, hb, hml, hown, hts⟩ (c_M_whole_1 l D ca ad av s.heap.size a0 g0 (hp0.sub [0] rfl)) (cwV 1 hts (gdV k_13_27 k_13_29 ks_155 k_1_9 k_13_30) rfl rfl rfl (by decide +kernel) ⟨Nat.le_of_ble_eq_true rfl, Nat.le_of_ble_eq_true rfl⟩) (gPV hP hD hK hS hA hX [0] (by decide) rfl a0 [.int 2] 0 (ci := 14) (r := (RX14, TX14, 107)) rfl rfl) rfl rfl hl.1 rfl (lv_room (Nat.le_of_ble_eq_true rfl)) d_15_139_8 ⟨Nat.le_of_ble_eq_true rfl, Nat.le_of_ble_eq_true rfl⟩) hS (fun q _ h => hFc1 q h) hFc1 (fun r1 u1 t1 H1 locs1 ht1 hvm1 hw1 hB1 hz1 hk1 hS1 => ?_)
  have hr1 := hw1
  obtain ⟨hP1, hD1⟩ := gJoin (wr := []) (w1 := [(a0, .inr (14, rg 107 g0))]) hP hD [0] [] rfl rfl (by decide) (by decide) hk1 hFc1 ht1 hB1
  have hP1 : va_P D cls [(a0, .inr (14, rg 107 g0))] H1 := hP1
  have hD1 : va_D A [(a0, .inr (14, rg 107 g0))] := hD1
  refine W.widen (k := 0) (n := 0) (Nat.le_of_ble_eq_true rfl) (Nat.le_of_ble_eq_true rfl) ?_
  subst hr1
  refine lv_lstore (lv' := [(5, .long 0), (4, .int 0), (0, .ref a0), (1, .int 2), (2, .int 1), (3, .int 960)]) hx hb d_15_139_11 hl (by decide) rfl (fun ls hl => ?_)
  refine lv_aload_n hx hb d_15_139_13 rfl (lv_at hl 2 rfl) ?_
  have hFc2 := va_free (wc := [(a0, .inr (14, rg 107 g0))]) hD1 hS1 hA [0] rfl
  refine va_calli (va_runV (As := []) (rest := []) ⟨hx, hb, hml, hown, hts⟩ (c_M_good_1 l D ca ad av H1.size a0 g0 (hp0.sub [0] rfl)) (cwV 0 hts (gdV k_13_15 k_13_17 ks_152 k_1_9 k_13_18) rfl rfl rfl (by decide +kernel) ⟨Nat.le_of_ble_eq_true rfl, Nat.le_of_ble_eq_true rfl⟩) (gPV hP1 hD1 hK hS1 hA hX [0] (by decide) rfl a0 [] 0 (ci := 14) (r := (RX14, TX14, 107)) rfl rfl) rfl rfl hl.1 rfl (lv_room (Nat.le_of_ble_eq_true rfl)) d_15_139_14 ⟨Nat.le_of_ble_eq_true rfl, Nat.le_of_ble_eq_true rfl⟩) hS1 (fun q _ h => hFc2 q h) hFc2 (fun r2 u2 t2 H2 locs2 ht2 hvm2 hw2 hB2 hz2 hk2 hS2 => ?_)
  have hr2 := hw2
  obtain ⟨hP2, hD2⟩ := gJoin (wr := []) (w1 := [(a0, .inr (14, rg 107 g0))]) hP1 hD1 [0] [] rfl rfl (by decide) (by decide) hk2 hFc2 ht2 hB2
  have hP2 : va_P D cls [(a0, .inr (14, rg 107 g0))] H2 := hP2
  have hD2 : va_D A [(a0, .inr (14, rg 107 g0))] := hD2
  refine W.widen (k := 0) (n := 0) (Nat.le_of_ble_eq_true rfl) (Nat.le_of_ble_eq_true rfl) ?_
  subst hr2
  refine lv_if_eq (tgt := 43) hx hb d_15_139_17 (by decide) (fun _ => ?_) (fun c => absurd (by decide) c)
  refine lv_lload hx hb d_15_139_43 (lv_at hl 0 rfl) ?_
  refine lv_l2i hx hb d_15_139_45 rfl ?_
  refine lv_topi (fun y3 ey3 => ?_)
  obtain rfl : y3 = 0 := ey3.trans (by decide)
  have hP9 := hP2.sub (ws' := [(a0, .inr (14, rg 107 g0))]) [0] rfl
  have hD9 := hD2.sub (ws' := [(a0, .inr (14, rg 107 g0))]) [0] (by decide) rfl
  refine W.widen (k := 0) (n := 0) (Nat.le_of_ble_eq_true rfl) (Nat.le_of_ble_eq_true rfl) ?_
  exact W.iret (v := 0) hx hb hr (fun t ht hW => ⟨⟨0, (), rfl, rfl, by rw [ht]; exact hP9, va_K.moved hW.alike hK, hD9⟩, hS2.F ht⟩) hS2.2.2 d_15_139_46
abbrev Q_M_header_0 (D : va_G) (ca : Nat → ClassId) (a0 : Nat) (a1 : Nat) (g0 : Nat → Value) (g1 : Nat → Int32) (A : Nat → Prop) : Array Value → State → Outcome → State → Prop := va_Ql (S := (Nat → Value) × (Nat → Int32)) (fun (r : Int64) (u : (Nat → Value) × (Nat → Int32)) => r = 0 ∧ gM g0 u.1 [18, 17] ∧ gF u.1 [(18, .int 0), (17, .int 2)] ∧ gF u.2 [(1, 0), (0, 0)]) (fun u => gB D ca A [(a0, .inr (14, rg 107 u.1)), (a1, .inl (ca 0, 8, .inl u.2))]) A
set_option maxHeartbeats 8000000 in
set_option maxRecDepth 100000 in
theorem c_M_header_0 (l : Launch) (D : va_G) (ca : Nat → ClassId) (ad av : Nat → Nat) (sz : Nat) (a0 : Nat) (a1 : Nat) (g0 : Nat → Value) (g1 : Nat → Int32) (hp0 : gF g0 [(90, .long 3000), (89, .int 0), (17, .int 0), (74, .ref a1), (3, .int 0)]) (hp1 : gF g1 []) : Met l ({ cls := "StaveHouseModel", name := "header", desc := "()J" } : Jvm.MethodName) (Cond.code ({ cls := "StaveHouseModel", name := "header", desc := "()J" } : Jvm.MethodName) prog_15_method_141_code 6 (Option.some Jvm.ClassFile.FieldType.long) :: wAll) ({ frames := 4, cells := 0, slots := 0, locals := 90 } : Room) (va_Pc [.ref a0] (gPre D ca ad av [(a0, .inr (14, rg 107 g0)), (a1, .inl (ca 0, 8, .inl g1))] sz)) (Q_M_header_0 D ca a0 a1 g0 g1 (va_A [(a0, .inr (14, rg 107 g0)), (a1, .inl (ca 0, 8, .inl g1))] sz)) 0 0 (va_A [(a0, .inr (14, rg 107 g0)), (a1, .inl (ca 0, 8, .inl g1))] sz) := by
  refine gMet (Qc := Q_M_header_0 D ca a0 a1 g0 g1) (lv := [(0, .ref a0)]) (by decide) (Nat.le_of_ble_eq_true rfl) rfl (fun A p e s m below meth c ls hx hb hr hml hown hts hlk hnm hl hP hK hD hS hA hX => ?_)
  have hown : s.vm.findClass "StaveHouseModel" = some m.cls := hown
  have hnm : meth.name = "header" := hnm
  refine lv_aload_n hx hb d_15_141_0 rfl (lv_at hl 0 rfl) ?_
  refine gldcwS hx hb hown (hX.2.2.2.2.1 13 _ rfl).1 d_15_141_1 ?_
  have hFc1 := va_free (wc := [(a0, .inr (14, rg 107 g0))]) hD hS hA [0] rfl
  refine va_callv (va_runV (As := [.ref (ad 13)]) (rest := []) ⟨hx, hb, hml, hown, hts⟩ (c_M_expect_0 l D ca ad av s.heap.size a0 g0 (hp0.sub [0, 1, 2, 4] rfl)) (cwV 1 hts (gdV k_13_7 k_13_9 ks_150 k_1_9 k_13_10) rfl rfl rfl (by decide +kernel) ⟨Nat.le_of_ble_eq_true rfl, Nat.le_of_ble_eq_true rfl⟩) (gPV hP hD hK hS hA hX [0] (by decide) rfl a0 [.ref (ad 13)] 0 (ci := 14) (r := (RX14, TX14, 107)) rfl rfl) rfl rfl hl.1 rfl (lv_room (Nat.le_of_ble_eq_true rfl)) d_15_141_4 ⟨Nat.le_of_ble_eq_true rfl, Nat.le_of_ble_eq_true rfl⟩) hS (fun q _ h => hFc1 q h) hFc1 (fun x1_0 t1 H1 locs1 ht1 hvm1 hw1 hB1 hz1 hk1 hS1 => ?_)
  obtain ⟨hw1_0, hw1_1⟩ := hw1
  obtain ⟨hP1, hD1⟩ := gJoin (wr := [(a1, .inl (ca 0, 8, .inl g1))]) (w1 := [(a0, .inr (14, rg 107 x1_0))]) hP hD [0] [1] rfl rfl (by decide) (by decide) hk1 hFc1 ht1 hB1
  have hF1_0 : gF x1_0 [(18, .int 0), (17, .int 2), (90, .long 3000), (89, .int 0), (74, .ref a1), (3, .int 0)] := gF.upd hp0 hw1_0 hw1_1 rfl
  have hM1_0 := gM.tr (gM.rf (f := g0)) hw1_0
  have hP1 : va_P D cls [(a1, .inl (ca 0, 8, .inl g1)), (a0, .inr (14, rg 107 x1_0))] H1 := hP1
  have hD1 : va_D A [(a1, .inl (ca 0, 8, .inl g1)), (a0, .inr (14, rg 107 x1_0))] := hD1
  refine W.widen (k := 0) (n := 0) (Nat.le_of_ble_eq_true rfl) (Nat.le_of_ble_eq_true rfl) ?_
  refine lv_aload_n hx hb d_15_141_7 rfl (lv_at hl 0 rfl) ?_
  refine gget hx hb hts inW_14 hown hK hP1 1 rfl rfl hF1_0 3 rfl (by decide) k_11_87 d_15_141_8 ?_
  refine lv_istore_n (lv' := [(1, .int 0), (0, .ref a0)]) hx hb d_15_141_11 rfl hl (by decide) rfl (fun ls hl => ?_)
  refine lv_aload_n hx hb d_15_141_12 rfl (lv_at hl 1 rfl) ?_
  refine lv_iconst (v := 4) hx hb d_15_141_13 (by decide) ?_
  have hFc2 := va_free (wc := [(a0, .inr (14, rg 107 x1_0))]) hD1 hS1 hA [1] rfl
  refine va_calll (va_runV (As := [.int 4]) (rest := []) ⟨hx, hb, hml, hown, hts⟩ (c_M_whole_0 l D ca ad av H1.size a0 x1_0 (hF1_0.sub [1] rfl)) (cwV 1 hts (gdV k_13_27 k_13_29 ks_155 k_1_9 k_13_30) rfl rfl rfl (by decide +kernel) ⟨Nat.le_of_ble_eq_true rfl, Nat.le_of_ble_eq_true rfl⟩) (gPV hP1 hD1 hK hS1 hA hX [1] (by decide) rfl a0 [.int 4] 1 (ci := 14) (r := (RX14, TX14, 107)) rfl rfl) rfl rfl hl.1 rfl (lv_room (Nat.le_of_ble_eq_true rfl)) d_15_141_14 ⟨Nat.le_of_ble_eq_true rfl, Nat.le_of_ble_eq_true rfl⟩) hS1 (fun q _ h => hFc2 q h) hFc2 (fun r2 u2 t2 H2 locs2 ht2 hvm2 hw2 hB2 hz2 hk2 hS2 => ?_)
  have hr2 := hw2
  obtain ⟨hP2, hD2⟩ := gJoin (wr := [(a1, .inl (ca 0, 8, .inl g1))]) (w1 := [(a0, .inr (14, rg 107 x1_0))]) hP1 hD1 [1] [0] rfl rfl (by decide) (by decide) hk2 hFc2 ht2 hB2
  have hP2 : va_P D cls [(a1, .inl (ca 0, 8, .inl g1)), (a0, .inr (14, rg 107 x1_0))] H2 := hP2
  have hD2 : va_D A [(a1, .inl (ca 0, 8, .inl g1)), (a0, .inr (14, rg 107 x1_0))] := hD2
  refine W.widen (k := 0) (n := 0) (Nat.le_of_ble_eq_true rfl) (Nat.le_of_ble_eq_true rfl) ?_
  subst hr2
  refine lv_lstore_n (lv' := [(2, .long 0), (1, .int 0), (0, .ref a0)]) hx hb d_15_141_17 rfl hl (by decide) rfl (fun ls hl => ?_)
  refine lv_aload_n hx hb d_15_141_18 rfl (lv_at hl 2 rfl) ?_
  have hFc3 := va_free (wc := [(a0, .inr (14, rg 107 x1_0))]) hD2 hS2 hA [1] rfl
  refine va_calli (va_runV (As := []) (rest := []) ⟨hx, hb, hml, hown, hts⟩ (c_M_good_1 l D ca ad av H2.size a0 x1_0 (hF1_0.sub [1] rfl)) (cwV 0 hts (gdV k_13_15 k_13_17 ks_152 k_1_9 k_13_18) rfl rfl rfl (by decide +kernel) ⟨Nat.le_of_ble_eq_true rfl, Nat.le_of_ble_eq_true rfl⟩) (gPV hP2 hD2 hK hS2 hA hX [1] (by decide) rfl a0 [] 1 (ci := 14) (r := (RX14, TX14, 107)) rfl rfl) rfl rfl hl.1 rfl (lv_room (Nat.le_of_ble_eq_true rfl)) d_15_141_19 ⟨Nat.le_of_ble_eq_true rfl, Nat.le_of_ble_eq_true rfl⟩) hS2 (fun q _ h => hFc3 q h) hFc3 (fun r3 u3 t3 H3 locs3 ht3 hvm3 hw3 hB3 hz3 hk3 hS3 => ?_)
  have hr3 := hw3
  obtain ⟨hP3, hD3⟩ := gJoin (wr := [(a1, .inl (ca 0, 8, .inl g1))]) (w1 := [(a0, .inr (14, rg 107 x1_0))]) hP2 hD2 [1] [0] rfl rfl (by decide) (by decide) hk3 hFc3 ht3 hB3
  have hP3 : va_P D cls [(a1, .inl (ca 0, 8, .inl g1)), (a0, .inr (14, rg 107 x1_0))] H3 := hP3
  have hD3 : va_D A [(a1, .inl (ca 0, 8, .inl g1)), (a0, .inr (14, rg 107 x1_0))] := hD3
  refine W.widen (k := 0) (n := 0) (Nat.le_of_ble_eq_true rfl) (Nat.le_of_ble_eq_true rfl) ?_
  subst hr3
  refine lv_if_eq (tgt := 39) hx hb d_15_141_22 (by decide) (fun _ => ?_) (fun c => absurd (by decide) c)
  refine lv_aload_n hx hb d_15_141_39 rfl (lv_at hl 2 rfl) ?_
  refine gget hx hb hts inW_14 hown hK hP3 1 rfl rfl hF1_0 3 rfl (by decide) k_11_87 d_15_141_40 ?_
  refine lv_i2l hx hb d_15_141_43 rfl ?_
  refine lv_topl (fun y4 ey4 => ?_)
  obtain rfl : y4 = 0 := ey4.trans (by decide)
  refine lv_lload_n hx hb d_15_141_44 rfl (lv_at hl 0 rfl) ?_
  refine lv_ladd hx hb d_15_141_45 ?_
  refine lv_topl (fun y5 ey5 => ?_)
  obtain rfl : y5 = 0 := ey5.trans (by decide)
  refine lv_lstore (lv' := [(4, .long 0), (2, .long 0), (1, .int 0), (0, .ref a0)]) hx hb d_15_141_46 hl (by decide) rfl (fun ls hl => ?_)
  refine lv_aload_n hx hb d_15_141_48 rfl (lv_at hl 3 rfl) ?_
  have hFc6 := va_free (wc := [(a0, .inr (14, rg 107 x1_0))]) hD3 hS3 hA [1] rfl
  refine va_calli (va_runV (As := []) (rest := []) ⟨hx, hb, hml, hown, hts⟩ (c_M_next_1 l D ca ad av H3.size a0 x1_0 (hF1_0.sub [1] rfl)) (cwV 0 hts (gdV k_13_11 k_13_13 ks_151 k_1_9 k_13_14) rfl rfl rfl (by decide +kernel) ⟨Nat.le_of_ble_eq_true rfl, Nat.le_of_ble_eq_true rfl⟩) (gPV hP3 hD3 hK hS3 hA hX [1] (by decide) rfl a0 [] 1 (ci := 14) (r := (RX14, TX14, 107)) rfl rfl) rfl rfl hl.1 rfl (lv_room (Nat.le_of_ble_eq_true rfl)) d_15_141_49 ⟨Nat.le_of_ble_eq_true rfl, Nat.le_of_ble_eq_true rfl⟩) hS3 (fun q _ h => hFc6 q h) hFc6 (fun r6 u6 t6 H6 locs6 ht6 hvm6 hw6 hB6 hz6 hk6 hS6 => ?_)
  have hr6 := hw6
  obtain ⟨hP6, hD6⟩ := gJoin (wr := [(a1, .inl (ca 0, 8, .inl g1))]) (w1 := [(a0, .inr (14, rg 107 x1_0))]) hP3 hD3 [1] [0] rfl rfl (by decide) (by decide) hk6 hFc6 ht6 hB6
  have hP6 : va_P D cls [(a1, .inl (ca 0, 8, .inl g1)), (a0, .inr (14, rg 107 x1_0))] H6 := hP6
  have hD6 : va_D A [(a1, .inl (ca 0, 8, .inl g1)), (a0, .inr (14, rg 107 x1_0))] := hD6
  refine W.widen (k := 0) (n := 0) (Nat.le_of_ble_eq_true rfl) (Nat.le_of_ble_eq_true rfl) ?_
  subst hr6
  refine lv_if_eq (tgt := 73) hx hb d_15_141_52 (by decide) (fun _ => ?_) (fun c => absurd (by decide) c)
  refine lv_aload_n hx hb d_15_141_73 rfl (lv_at hl 3 rfl) ?_
  have hFc7 := va_free (wc := [(a0, .inr (14, rg 107 x1_0))]) hD6 hS6 hA [1] rfl
  refine va_calli (va_runV (As := []) (rest := []) ⟨hx, hb, hml, hown, hts⟩ (c_M_next_1 l D ca ad av H6.size a0 x1_0 (hF1_0.sub [1] rfl)) (cwV 0 hts (gdV k_13_11 k_13_13 ks_151 k_1_9 k_13_14) rfl rfl rfl (by decide +kernel) ⟨Nat.le_of_ble_eq_true rfl, Nat.le_of_ble_eq_true rfl⟩) (gPV hP6 hD6 hK hS6 hA hX [1] (by decide) rfl a0 [] 1 (ci := 14) (r := (RX14, TX14, 107)) rfl rfl) rfl rfl hl.1 rfl (lv_room (Nat.le_of_ble_eq_true rfl)) d_15_141_74 ⟨Nat.le_of_ble_eq_true rfl, Nat.le_of_ble_eq_true rfl⟩) hS6 (fun q _ h => hFc7 q h) hFc7 (fun r7 u7 t7 H7 locs7 ht7 hvm7 hw7 hB7 hz7 hk7 hS7 => ?_)
  have hr7 := hw7
  obtain ⟨hP7, hD7⟩ := gJoin (wr := [(a1, .inl (ca 0, 8, .inl g1))]) (w1 := [(a0, .inr (14, rg 107 x1_0))]) hP6 hD6 [1] [0] rfl rfl (by decide) (by decide) hk7 hFc7 ht7 hB7
  have hP7 : va_P D cls [(a1, .inl (ca 0, 8, .inl g1)), (a0, .inr (14, rg 107 x1_0))] H7 := hP7
  have hD7 : va_D A [(a1, .inl (ca 0, 8, .inl g1)), (a0, .inr (14, rg 107 x1_0))] := hD7
  refine W.widen (k := 0) (n := 0) (Nat.le_of_ble_eq_true rfl) (Nat.le_of_ble_eq_true rfl) ?_
  subst hr7
  refine lv_iconst (v := 1) hx hb d_15_141_77 (by decide) ?_
  refine lv_icmp_le (tgt := 99) hx hb d_15_141_78 (by decide) (fun _ => ?_) (fun c => absurd (by decide) c)
  refine lv_aload_n hx hb d_15_141_99 rfl (lv_at hl 3 rfl) ?_
  refine gget hx hb hts inW_14 hown hK hP7 1 rfl rfl hF1_0 4 rfl (by decide) k_11_72 d_15_141_100 ?_
  refine lv_iconst (v := 0) hx hb d_15_141_103 (by decide) ?_
  refine lv_aload_n hx hb d_15_141_104 rfl (lv_at hl 3 rfl) ?_
  refine lv_iconst (v := 2) hx hb d_15_141_105 (by decide) ?_
  refine lv_iconst (v := 1) hx hb d_15_141_106 (by decide) ?_
  refine lv_bipush (v := 8) hx hb d_15_141_107 (by decide) ?_
  have hFc8 := va_free (wc := [(a0, .inr (14, rg 107 x1_0))]) hD7 hS7 hA [1] rfl
  refine va_calli (va_runV (As := [.int 2, .int 1, .int 8]) (rest := [.int 0, .ref a1]) ⟨hx, hb, hml, hown, hts⟩ (c_M_within_0 l D ca ad av H7.size a0 x1_0 (hF1_0.sub [1, 3] rfl)) (cwV 3 hts (gdV k_13_32 k_13_34 ks_156 k_1_9 k_13_35) rfl rfl rfl (by decide +kernel) ⟨Nat.le_of_ble_eq_true rfl, Nat.le_of_ble_eq_true rfl⟩) (gPV hP7 hD7 hK hS7 hA hX [1] (by decide) rfl a0 [.int 2, .int 1, .int 8] 1 (ci := 14) (r := (RX14, TX14, 107)) rfl rfl) rfl rfl hl.1 rfl (lv_room (Nat.le_of_ble_eq_true rfl)) d_15_141_109 ⟨Nat.le_of_ble_eq_true rfl, Nat.le_of_ble_eq_true rfl⟩) hS7 (fun q _ h => hFc8 q h) hFc8 (fun r8 u8 t8 H8 locs8 ht8 hvm8 hw8 hB8 hz8 hk8 hS8 => ?_)
  have hr8 := hw8
  obtain ⟨hP8, hD8⟩ := gJoin (wr := [(a1, .inl (ca 0, 8, .inl g1))]) (w1 := [(a0, .inr (14, rg 107 x1_0))]) hP7 hD7 [1] [0] rfl rfl (by decide) (by decide) hk8 hFc8 ht8 hB8
  have hP8 : va_P D cls [(a1, .inl (ca 0, 8, .inl g1)), (a0, .inr (14, rg 107 x1_0))] H8 := hP8
  have hD8 : va_D A [(a1, .inl (ca 0, 8, .inl g1)), (a0, .inr (14, rg 107 x1_0))] := hD8
  refine W.widen (k := 0) (n := 0) (Nat.le_of_ble_eq_true rfl) (Nat.le_of_ble_eq_true rfl) ?_
  subst hr8
  refine gast hx hb hK hP8 hD8 hS8 0 0 rfl rfl hp1 (k := 0) (by decide) (vinC (by decide)) d_15_141_112 (L' := [(0, 0)]) rfl (fun f9 H9 locs9 hF9 hP9 hD9 hS9 => ?_)
  have hP9 : va_P D cls [(a1, .inl (ca 0, 8, .inl f9)), (a0, .inr (14, rg 107 x1_0))] H9 := hP9
  have hD9 : va_D A [(a1, .inl (ca 0, 8, .inl f9)), (a0, .inr (14, rg 107 x1_0))] := hD9
  clear hP8 hD8 hS8
  refine lv_aload_n hx hb d_15_141_113 rfl (lv_at hl 3 rfl) ?_
  refine gget hx hb hts inW_14 hown hK hP9 1 rfl rfl hF1_0 4 rfl (by decide) k_11_72 d_15_141_114 ?_
  refine lv_iconst (v := 1) hx hb d_15_141_117 (by decide) ?_
  refine lv_aload_n hx hb d_15_141_118 rfl (lv_at hl 3 rfl) ?_
  refine lv_iconst (v := 2) hx hb d_15_141_119 (by decide) ?_
  refine lv_iconst (v := 1) hx hb d_15_141_120 (by decide) ?_
  refine lv_sipush (v := 960) hx hb d_15_141_121 (by decide) ?_
  have hFc10 := va_free (wc := [(a0, .inr (14, rg 107 x1_0))]) hD9 hS9 hA [1] rfl
  refine va_calli (va_runV (As := [.int 2, .int 1, .int 960]) (rest := [.int 1, .ref a1]) ⟨hx, hb, hml, hown, hts⟩ (c_M_within_1 l D ca ad av H9.size a0 x1_0 (hF1_0.sub [1, 3] rfl)) (cwV 3 hts (gdV k_13_32 k_13_34 ks_156 k_1_9 k_13_35) rfl rfl rfl (by decide +kernel) ⟨Nat.le_of_ble_eq_true rfl, Nat.le_of_ble_eq_true rfl⟩) (gPV hP9 hD9 hK hS9 hA hX [1] (by decide) rfl a0 [.int 2, .int 1, .int 960] 1 (ci := 14) (r := (RX14, TX14, 107)) rfl rfl) rfl rfl hl.1 rfl (lv_room (Nat.le_of_ble_eq_true rfl)) d_15_141_124 ⟨Nat.le_of_ble_eq_true rfl, Nat.le_of_ble_eq_true rfl⟩) hS9 (fun q _ h => hFc10 q h) hFc10 (fun r10 u10 t10 H10 locs10 ht10 hvm10 hw10 hB10 hz10 hk10 hS10 => ?_)
  have hr10 := hw10
  obtain ⟨hP10, hD10⟩ := gJoin (wr := [(a1, .inl (ca 0, 8, .inl f9))]) (w1 := [(a0, .inr (14, rg 107 x1_0))]) hP9 hD9 [1] [0] rfl rfl (by decide) (by decide) hk10 hFc10 ht10 hB10
  have hP10 : va_P D cls [(a1, .inl (ca 0, 8, .inl f9)), (a0, .inr (14, rg 107 x1_0))] H10 := hP10
  have hD10 : va_D A [(a1, .inl (ca 0, 8, .inl f9)), (a0, .inr (14, rg 107 x1_0))] := hD10
  refine W.widen (k := 0) (n := 0) (Nat.le_of_ble_eq_true rfl) (Nat.le_of_ble_eq_true rfl) ?_
  subst hr10
  refine gast hx hb hK hP10 hD10 hS10 0 0 rfl rfl hF9 (k := 1) (by decide) (vinC (by decide)) d_15_141_127 (L' := [(1, 0), (0, 0)]) rfl (fun f11 H11 locs11 hF11 hP11 hD11 hS11 => ?_)
  have hP11 : va_P D cls [(a1, .inl (ca 0, 8, .inl f11)), (a0, .inr (14, rg 107 x1_0))] H11 := hP11
  have hD11 : va_D A [(a1, .inl (ca 0, 8, .inl f11)), (a0, .inr (14, rg 107 x1_0))] := hD11
  clear hP10 hD10 hS10 hF9
  refine lv_lload hx hb d_15_141_128 (lv_at hl 0 rfl) ?_
  have hP9 := hP11.sub (ws' := [(a0, .inr (14, rg 107 x1_0)), (a1, .inl (ca 0, 8, .inl f11))]) [1, 0] rfl
  have hD9 := hD11.sub (ws' := [(a0, .inr (14, rg 107 x1_0)), (a1, .inl (ca 0, 8, .inl f11))]) [1, 0] (by decide) rfl
  refine W.widen (k := 0) (n := 0) (Nat.le_of_ble_eq_true rfl) (Nat.le_of_ble_eq_true rfl) ?_
  exact W.lret (v := 0) hx hb hr (fun t ht hW => ⟨⟨0, (x1_0, f11), rfl, ⟨rfl, hM1_0.mono (by decide), hF1_0.sub [0, 1] rfl, hF11.sub [0, 1] rfl⟩, by rw [ht]; exact hP9, va_K.moved hW.alike hK, hD9⟩, hS11.F ht⟩) hS11.2.2 d_15_141_130
abbrev Q_M_open_0 (D : va_G) (ca : Nat → ClassId) (a0 : Nat) (a1 : Nat) (g0 : Nat → Value) (g1 : Nat → Int32) (A : Nat → Prop) : Array Value → State → Outcome → State → Prop := va_Qi (S := (Nat → Value) × (Nat → Int32)) (fun (r : Int32) (u : (Nat → Value) × (Nat → Int32)) => r = 2 ∧ gM g0 u.1 [3, 18, 17, 93, 92, 91, 94, 90, 89] ∧ gF u.1 [(3, .int 0), (18, .int 0), (17, .int 2), (94, .int 0), (90, .long 3000), (89, .int 0)] ∧ gF u.2 [(1, 0), (0, 0)]) (fun u => gB D ca A [(a0, .inr (14, rg 107 u.1)), (a1, .inl (ca 0, 8, .inl u.2))]) A
set_option maxHeartbeats 8000000 in
set_option maxRecDepth 100000 in
theorem c_M_open_0 (l : Launch) (D : va_G) (ca : Nat → ClassId) (ad av : Nat → Nat) (sz : Nat) (a0 : Nat) (a1 : Nat) (g0 : Nat → Value) (g1 : Nat → Int32) (hp0 : gF g0 [(74, .ref a1), (3, .int 0)]) (hp1 : gF g1 []) : Met l ({ cls := "StaveHouseModel", name := "open", desc := "()I" } : Jvm.MethodName) (Cond.code ({ cls := "StaveHouseModel", name := "open", desc := "()I" } : Jvm.MethodName) prog_15_method_140_code 7 (Option.some Jvm.ClassFile.FieldType.int) :: wAll) ({ frames := 5, cells := 0, slots := 0, locals := 115 } : Room) (va_Pc [.ref a0] (gPre D ca ad av [(a0, .inr (14, rg 107 g0)), (a1, .inl (ca 0, 8, .inl g1))] sz)) (Q_M_open_0 D ca a0 a1 g0 g1 (va_A [(a0, .inr (14, rg 107 g0)), (a1, .inl (ca 0, 8, .inl g1))] sz)) 0 0 (va_A [(a0, .inr (14, rg 107 g0)), (a1, .inl (ca 0, 8, .inl g1))] sz) := by
  refine gMet (Qc := Q_M_open_0 D ca a0 a1 g0 g1) (lv := [(0, .ref a0)]) (by decide) (Nat.le_of_ble_eq_true rfl) rfl (fun A p e s m below meth c ls hx hb hr hml hown hts hlk hnm hl hP hK hD hS hA hX => ?_)
  have hown : s.vm.findClass "StaveHouseModel" = some m.cls := hown
  have hnm : meth.name = "open" := hnm
  refine lv_aload_n hx hb d_15_140_0 rfl (lv_at hl 0 rfl) ?_
  refine lv_iconst (v := 0) hx hb d_15_140_1 (by decide) ?_
  refine gput hx hb hts inW_14 tyX14 tyX14_ok nmX14 hown hK hP hD hS 0 rfl rfl hp0 17 (by decide) k_11_15 rfl rfl rfl d_15_140_2 (L' := [(17, .int 0), (74, .ref a1), (3, .int 0)]) rfl (fun f1 H1 locs1 hF1 hm1 hP1 hD1 hS1 => ?_)
  have hM1 := gM.tr (gM.rf (f := g0)) hm1
  have hP1 : va_P D cls [(a0, .inr (14, rg 107 f1)), (a1, .inl (ca 0, 8, .inl g1))] H1 := hP1
  have hD1 : va_D A [(a0, .inr (14, rg 107 f1)), (a1, .inl (ca 0, 8, .inl g1))] := hD1
  clear hm1
  refine lv_aload_n hx hb d_15_140_5 rfl (lv_at hl 0 rfl) ?_
  refine lv_iconst (v := 0) hx hb d_15_140_6 (by decide) ?_
  refine gput hx hb hts inW_14 tyX14 tyX14_ok nmX14 hown hK hP1 hD1 hS1 0 rfl rfl hF1 89 (by decide) k_11_87 rfl rfl rfl d_15_140_7 (L' := [(89, .int 0), (17, .int 0), (74, .ref a1), (3, .int 0)]) rfl (fun f2 H2 locs2 hF2 hm2 hP2 hD2 hS2 => ?_)
  have hM2 := gM.tr hM1 hm2
  have hP2 : va_P D cls [(a0, .inr (14, rg 107 f2)), (a1, .inl (ca 0, 8, .inl g1))] H2 := hP2
  have hD2 : va_D A [(a0, .inr (14, rg 107 f2)), (a1, .inl (ca 0, 8, .inl g1))] := hD2
  clear hP1 hD1 hS1 hF1 hM1 hm2
  refine lv_aload_n hx hb d_15_140_10 rfl (lv_at hl 0 rfl) ?_
  refine lv_ldc2 hx hb hown (hts _ k_13_2) d_15_140_11 ?_
  refine gput hx hb hts inW_14 tyX14 tyX14_ok nmX14 hown hK hP2 hD2 hS2 0 rfl rfl hF2 90 (by decide) k_11_88 rfl rfl rfl d_15_140_14 (L' := [(90, .long 3000), (89, .int 0), (17, .int 0), (74, .ref a1), (3, .int 0)]) rfl (fun f3 H3 locs3 hF3 hm3 hP3 hD3 hS3 => ?_)
  have hM3 := gM.tr hM2 hm3
  have hP3 : va_P D cls [(a0, .inr (14, rg 107 f3)), (a1, .inl (ca 0, 8, .inl g1))] H3 := hP3
  have hD3 : va_D A [(a0, .inr (14, rg 107 f3)), (a1, .inl (ca 0, 8, .inl g1))] := hD3
  clear hP2 hD2 hS2 hF2 hM2 hm3
  refine lv_aload_n hx hb d_15_140_17 rfl (lv_at hl 0 rfl) ?_
  refine lv_iconst (v := 0) hx hb d_15_140_18 (by decide) ?_
  refine gput hx hb hts inW_14 tyX14 tyX14_ok nmX14 hown hK hP3 hD3 hS3 0 rfl rfl hF3 94 (by decide) k_11_92 rfl rfl rfl d_15_140_19 (L' := [(94, .int 0), (90, .long 3000), (89, .int 0), (17, .int 0), (74, .ref a1), (3, .int 0)]) rfl (fun f4 H4 locs4 hF4 hm4 hP4 hD4 hS4 => ?_)
  have hM4 := gM.tr hM3 hm4
  have hP4 : va_P D cls [(a0, .inr (14, rg 107 f4)), (a1, .inl (ca 0, 8, .inl g1))] H4 := hP4
  have hD4 : va_D A [(a0, .inr (14, rg 107 f4)), (a1, .inl (ca 0, 8, .inl g1))] := hD4
  clear hP3 hD3 hS3 hF3 hM3 hm4
  refine lv_aload_n hx hb d_15_140_22 rfl (lv_at hl 0 rfl) ?_
  refine lv_iconst (v := 0) hx hb d_15_140_23 (by decide) ?_
  refine gputX hx hb hts inW_14 tyX14 tyX14_ok nmX14 hown hK hP4 hD4 hS4 0 rfl rfl hF4 91 (by decide) k_11_89 rfl rfl rfl d_15_140_24 (L' := [(94, .int 0), (90, .long 3000), (89, .int 0), (17, .int 0), (74, .ref a1), (3, .int 0)]) rfl (fun f5 H5 locs5 hF5 hm5 hP5 hD5 hS5 => ?_)
  have hM5 := gM.tr hM4 hm5
  have hP5 : va_P D cls [(a0, .inr (14, rg 107 f5)), (a1, .inl (ca 0, 8, .inl g1))] H5 := hP5
  have hD5 : va_D A [(a0, .inr (14, rg 107 f5)), (a1, .inl (ca 0, 8, .inl g1))] := hD5
  clear hP4 hD4 hS4 hF4 hM4 hm5
  refine lv_aload_n hx hb d_15_140_27 rfl (lv_at hl 0 rfl) ?_
  refine lv_iconst (v := 0) hx hb d_15_140_28 (by decide) ?_
  refine gputX hx hb hts inW_14 tyX14 tyX14_ok nmX14 hown hK hP5 hD5 hS5 0 rfl rfl hF5 92 (by decide) k_11_90 rfl rfl rfl d_15_140_29 (L' := [(94, .int 0), (90, .long 3000), (89, .int 0), (17, .int 0), (74, .ref a1), (3, .int 0)]) rfl (fun f6 H6 locs6 hF6 hm6 hP6 hD6 hS6 => ?_)
  have hM6 := gM.tr hM5 hm6
  have hP6 : va_P D cls [(a0, .inr (14, rg 107 f6)), (a1, .inl (ca 0, 8, .inl g1))] H6 := hP6
  have hD6 : va_D A [(a0, .inr (14, rg 107 f6)), (a1, .inl (ca 0, 8, .inl g1))] := hD6
  clear hP5 hD5 hS5 hF5 hM5 hm6
  refine lv_aload_n hx hb d_15_140_32 rfl (lv_at hl 0 rfl) ?_
  refine lv_iconst (v := 0) hx hb d_15_140_33 (by decide) ?_
  refine gputX hx hb hts inW_14 tyX14 tyX14_ok nmX14 hown hK hP6 hD6 hS6 0 rfl rfl hF6 93 (by decide) k_11_91 rfl rfl rfl d_15_140_34 (L' := [(94, .int 0), (90, .long 3000), (89, .int 0), (17, .int 0), (74, .ref a1), (3, .int 0)]) rfl (fun f7 H7 locs7 hF7 hm7 hP7 hD7 hS7 => ?_)
  have hM7 := gM.tr hM6 hm7
  have hP7 : va_P D cls [(a0, .inr (14, rg 107 f7)), (a1, .inl (ca 0, 8, .inl g1))] H7 := hP7
  have hD7 : va_D A [(a0, .inr (14, rg 107 f7)), (a1, .inl (ca 0, 8, .inl g1))] := hD7
  clear hP6 hD6 hS6 hF6 hM6 hm7
  refine lv_aload_n hx hb d_15_140_37 rfl (lv_at hl 0 rfl) ?_
  refine gget hx hb hts inW_14 hown hK hP7 0 rfl rfl hF7 4 rfl (by decide) k_11_72 d_15_140_38 ?_
  refine lv_iconst (v := 2) hx hb d_15_140_41 (by decide) ?_
  refine lv_iconst (v := 0) hx hb d_15_140_42 (by decide) ?_
  refine gast hx hb hK hP7 hD7 hS7 1 0 rfl rfl hp1 (k := 2) (by decide) (vinC (by decide)) d_15_140_43 (L' := [(2, 0)]) rfl (fun f8 H8 locs8 hF8 hP8 hD8 hS8 => ?_)
  have hP8 : va_P D cls [(a0, .inr (14, rg 107 f7)), (a1, .inl (ca 0, 8, .inl f8))] H8 := hP8
  have hD8 : va_D A [(a0, .inr (14, rg 107 f7)), (a1, .inl (ca 0, 8, .inl f8))] := hD8
  clear hP7 hD7 hS7
  refine lv_aload_n hx hb d_15_140_44 rfl (lv_at hl 0 rfl) ?_
  refine gget hx hb hts inW_14 hown hK hP8 0 rfl rfl hF7 4 rfl (by decide) k_11_72 d_15_140_45 ?_
  refine lv_iconst (v := 3) hx hb d_15_140_48 (by decide) ?_
  refine lv_iconst (v := 0) hx hb d_15_140_49 (by decide) ?_
  refine gast hx hb hK hP8 hD8 hS8 1 0 rfl rfl hF8 (k := 3) (by decide) (vinC (by decide)) d_15_140_50 (L' := [(3, 0), (2, 0)]) rfl (fun f9 H9 locs9 hF9 hP9 hD9 hS9 => ?_)
  have hP9 : va_P D cls [(a0, .inr (14, rg 107 f7)), (a1, .inl (ca 0, 8, .inl f9))] H9 := hP9
  have hD9 : va_D A [(a0, .inr (14, rg 107 f7)), (a1, .inl (ca 0, 8, .inl f9))] := hD9
  clear hP8 hD8 hS8 hF8
  refine lv_aload_n hx hb d_15_140_51 rfl (lv_at hl 0 rfl) ?_
  refine gget hx hb hts inW_14 hown hK hP9 0 rfl rfl hF7 4 rfl (by decide) k_11_72 d_15_140_52 ?_
  refine lv_iconst (v := 4) hx hb d_15_140_55 (by decide) ?_
  refine lv_iconst (v := 4) hx hb d_15_140_56 (by decide) ?_
  refine gast hx hb hK hP9 hD9 hS9 1 0 rfl rfl hF9 (k := 4) (by decide) (vinC (by decide)) d_15_140_57 (L' := [(4, 4), (3, 0), (2, 0)]) rfl (fun f10 H10 locs10 hF10 hP10 hD10 hS10 => ?_)
  have hP10 : va_P D cls [(a0, .inr (14, rg 107 f7)), (a1, .inl (ca 0, 8, .inl f10))] H10 := hP10
  have hD10 : va_D A [(a0, .inr (14, rg 107 f7)), (a1, .inl (ca 0, 8, .inl f10))] := hD10
  clear hP9 hD9 hS9 hF9
  refine lv_aload_n hx hb d_15_140_58 rfl (lv_at hl 0 rfl) ?_
  refine gget hx hb hts inW_14 hown hK hP10 0 rfl rfl hF7 4 rfl (by decide) k_11_72 d_15_140_59 ?_
  refine lv_iconst (v := 5) hx hb d_15_140_62 (by decide) ?_
  refine lv_iconst (v := 4) hx hb d_15_140_63 (by decide) ?_
  refine gast hx hb hK hP10 hD10 hS10 1 0 rfl rfl hF10 (k := 5) (by decide) (vinC (by decide)) d_15_140_64 (L' := [(5, 4), (4, 4), (3, 0), (2, 0)]) rfl (fun f11 H11 locs11 hF11 hP11 hD11 hS11 => ?_)
  have hP11 : va_P D cls [(a0, .inr (14, rg 107 f7)), (a1, .inl (ca 0, 8, .inl f11))] H11 := hP11
  have hD11 : va_D A [(a0, .inr (14, rg 107 f7)), (a1, .inl (ca 0, 8, .inl f11))] := hD11
  clear hP10 hD10 hS10 hF10
  refine lv_aload_n hx hb d_15_140_65 rfl (lv_at hl 0 rfl) ?_
  refine gget hx hb hts inW_14 hown hK hP11 0 rfl rfl hF7 4 rfl (by decide) k_11_72 d_15_140_66 ?_
  refine lv_bipush (v := 6) hx hb d_15_140_69 (by decide) ?_
  refine lv_bipush (v := 120) hx hb d_15_140_71 (by decide) ?_
  refine gast hx hb hK hP11 hD11 hS11 1 0 rfl rfl hF11 (k := 6) (by decide) (vinC (by decide)) d_15_140_73 (L' := [(6, 120), (5, 4), (4, 4), (3, 0), (2, 0)]) rfl (fun f12 H12 locs12 hF12 hP12 hD12 hS12 => ?_)
  have hP12 : va_P D cls [(a0, .inr (14, rg 107 f7)), (a1, .inl (ca 0, 8, .inl f12))] H12 := hP12
  have hD12 : va_D A [(a0, .inr (14, rg 107 f7)), (a1, .inl (ca 0, 8, .inl f12))] := hD12
  clear hP11 hD11 hS11 hF11
  refine lv_aload_n hx hb d_15_140_74 rfl (lv_at hl 0 rfl) ?_
  have hFc13 := va_free (wc := [(a0, .inr (14, rg 107 f7)), (a1, .inl (ca 0, 8, .inl f12))]) hD12 hS12 hA [0, 1] rfl
  refine va_calll (va_runV (As := []) (rest := []) ⟨hx, hb, hml, hown, hts⟩ (c_M_header_0 l D ca ad av H12.size a0 a1 f7 f12 (hF7.sub [1, 2, 3, 4, 5] rfl) (hF12.sub [] rfl)) (cwV 0 hts (gdV k_13_3 k_13_5 ks_149 k_1_9 k_13_6) rfl rfl rfl (by decide +kernel) ⟨Nat.le_of_ble_eq_true rfl, Nat.le_of_ble_eq_true rfl⟩) (gPV hP12 hD12 hK hS12 hA hX [0, 1] (by decide) rfl a0 [] 0 (ci := 14) (r := (RX14, TX14, 107)) rfl rfl) rfl rfl hl.1 rfl (lv_room (Nat.le_of_ble_eq_true rfl)) d_15_140_75 ⟨Nat.le_of_ble_eq_true rfl, Nat.le_of_ble_eq_true rfl⟩) hS12 (fun q _ h => hFc13 q h) hFc13 (fun r13 u13 t13 H13 locs13 ht13 hvm13 hw13 hB13 hz13 hk13 hS13 => ?_)
  obtain ⟨x13_0, x13_1⟩ := u13
  try dsimp only at hw13 hB13
  obtain ⟨hr13, hw13_1, hw13_2, hw13_3⟩ := hw13
  obtain ⟨hP13, hD13⟩ := gJoin (wr := []) (w1 := [(a0, .inr (14, rg 107 x13_0)), (a1, .inl (ca 0, 8, .inl x13_1))]) hP12 hD12 [0, 1] [] rfl rfl (by decide) (by decide) hk13 hFc13 ht13 hB13
  have hF13_0 : gF x13_0 [(18, .int 0), (17, .int 2), (94, .int 0), (90, .long 3000), (89, .int 0), (74, .ref a1), (3, .int 0)] := gF.upd hF7 hw13_1 hw13_2 rfl
  have hM13_0 := gM.tr hM7 hw13_1
  have hP13 : va_P D cls [(a0, .inr (14, rg 107 x13_0)), (a1, .inl (ca 0, 8, .inl x13_1))] H13 := hP13
  have hD13 : va_D A [(a0, .inr (14, rg 107 x13_0)), (a1, .inl (ca 0, 8, .inl x13_1))] := hD13
  refine W.widen (k := 0) (n := 0) (Nat.le_of_ble_eq_true rfl) (Nat.le_of_ble_eq_true rfl) ?_
  subst hr13
  refine lv_lstore_n (lv' := [(1, .long 0), (0, .ref a0)]) hx hb d_15_140_78 rfl hl (by decide) rfl (fun ls hl => ?_)
  refine lv_iconst (v := 0) hx hb d_15_140_79 (by decide) ?_
  refine lv_istore_n (lv' := [(3, .int 0), (1, .long 0), (0, .ref a0)]) hx hb d_15_140_80 rfl hl (by decide) rfl (fun ls hl => ?_)
  refine lv_aload_n hx hb d_15_140_81 rfl (lv_at hl 2 rfl) ?_
  have hFc14 := va_free (wc := [(a0, .inr (14, rg 107 x13_0))]) hD13 hS13 hA [0] rfl
  refine va_calli (va_runV (As := []) (rest := []) ⟨hx, hb, hml, hown, hts⟩ (c_M_good_1 l D ca ad av H13.size a0 x13_0 (hF13_0.sub [1] rfl)) (cwV 0 hts (gdV k_13_15 k_13_17 ks_152 k_1_9 k_13_18) rfl rfl rfl (by decide +kernel) ⟨Nat.le_of_ble_eq_true rfl, Nat.le_of_ble_eq_true rfl⟩) (gPV hP13 hD13 hK hS13 hA hX [0] (by decide) rfl a0 [] 0 (ci := 14) (r := (RX14, TX14, 107)) rfl rfl) rfl rfl hl.1 rfl (lv_room (Nat.le_of_ble_eq_true rfl)) d_15_140_82 ⟨Nat.le_of_ble_eq_true rfl, Nat.le_of_ble_eq_true rfl⟩) hS13 (fun q _ h => hFc14 q h) hFc14 (fun r14 u14 t14 H14 locs14 ht14 hvm14 hw14 hB14 hz14 hk14 hS14 => ?_)
  have hr14 := hw14
  obtain ⟨hP14, hD14⟩ := gJoin (wr := [(a1, .inl (ca 0, 8, .inl x13_1))]) (w1 := [(a0, .inr (14, rg 107 x13_0))]) hP13 hD13 [0] [1] rfl rfl (by decide) (by decide) hk14 hFc14 ht14 hB14
  have hP14 : va_P D cls [(a1, .inl (ca 0, 8, .inl x13_1)), (a0, .inr (14, rg 107 x13_0))] H14 := hP14
  have hD14 : va_D A [(a1, .inl (ca 0, 8, .inl x13_1)), (a0, .inr (14, rg 107 x13_0))] := hD14
  refine W.widen (k := 0) (n := 0) (Nat.le_of_ble_eq_true rfl) (Nat.le_of_ble_eq_true rfl) ?_
  subst hr14
  refine lv_if_eq (tgt := 198) hx hb d_15_140_85 (by decide) (fun _ => ?_) (fun c => absurd (by decide) c)
  refine lv_aload_n hx hb d_15_140_198 rfl (lv_at hl 2 rfl) ?_
  refine lv_iconst (v := 0) hx hb d_15_140_199 (by decide) ?_
  refine gput hx hb hts inW_14 tyX14 tyX14_ok nmX14 hown hK hP14 hD14 hS14 1 rfl rfl hF13_0 3 (by decide) k_11_1 rfl rfl rfl d_15_140_200 (L' := [(3, .int 0), (18, .int 0), (17, .int 2), (94, .int 0), (90, .long 3000), (89, .int 0), (74, .ref a1)]) rfl (fun f15 H15 locs15 hF15 hm15 hP15 hD15 hS15 => ?_)
  have hM15 := gM.tr hM13_0 hm15
  have hP15 : va_P D cls [(a1, .inl (ca 0, 8, .inl x13_1)), (a0, .inr (14, rg 107 f15))] H15 := hP15
  have hD15 : va_D A [(a1, .inl (ca 0, 8, .inl x13_1)), (a0, .inr (14, rg 107 f15))] := hD15
  clear hP14 hD14 hS14 hF13_0 hM13_0 hm15
  refine lv_aload_n hx hb d_15_140_203 rfl (lv_at hl 2 rfl) ?_
  have hFc16 := va_free (wc := [(a0, .inr (14, rg 107 f15))]) hD15 hS15 hA [1] rfl
  refine va_calli (va_runV (As := []) (rest := []) ⟨hx, hb, hml, hown, hts⟩ (c_M_good_1 l D ca ad av H15.size a0 f15 (hF15.sub [2] rfl)) (cwV 0 hts (gdV k_13_15 k_13_17 ks_152 k_1_9 k_13_18) rfl rfl rfl (by decide +kernel) ⟨Nat.le_of_ble_eq_true rfl, Nat.le_of_ble_eq_true rfl⟩) (gPV hP15 hD15 hK hS15 hA hX [1] (by decide) rfl a0 [] 1 (ci := 14) (r := (RX14, TX14, 107)) rfl rfl) rfl rfl hl.1 rfl (lv_room (Nat.le_of_ble_eq_true rfl)) d_15_140_204 ⟨Nat.le_of_ble_eq_true rfl, Nat.le_of_ble_eq_true rfl⟩) hS15 (fun q _ h => hFc16 q h) hFc16 (fun r16 u16 t16 H16 locs16 ht16 hvm16 hw16 hB16 hz16 hk16 hS16 => ?_)
  have hr16 := hw16
  obtain ⟨hP16, hD16⟩ := gJoin (wr := [(a1, .inl (ca 0, 8, .inl x13_1))]) (w1 := [(a0, .inr (14, rg 107 f15))]) hP15 hD15 [1] [0] rfl rfl (by decide) (by decide) hk16 hFc16 ht16 hB16
  have hP16 : va_P D cls [(a1, .inl (ca 0, 8, .inl x13_1)), (a0, .inr (14, rg 107 f15))] H16 := hP16
  have hD16 : va_D A [(a1, .inl (ca 0, 8, .inl x13_1)), (a0, .inr (14, rg 107 f15))] := hD16
  refine W.widen (k := 0) (n := 0) (Nat.le_of_ble_eq_true rfl) (Nat.le_of_ble_eq_true rfl) ?_
  subst hr16
  refine lv_if_ne (tgt := 223) hx hb d_15_140_207 (by decide) (fun c => absurd c (by decide)) (fun _ => ?_)
  refine lv_aload_n hx hb d_15_140_210 rfl (lv_at hl 2 rfl) ?_
  refine gget hx hb hts inW_14 hown hK hP16 1 rfl rfl hF15 2 rfl (by decide) k_11_15 d_15_140_211 ?_
  refine lv_bipush (v := 16) hx hb d_15_140_214 (by decide) ?_
  refine lv_aload_n hx hb d_15_140_216 rfl (lv_at hl 2 rfl) ?_
  refine gget hx hb hts inW_14 hown hK hP16 1 rfl rfl hF15 1 rfl (by decide) k_11_16 d_15_140_217 ?_
  refine lv_imul hx hb d_15_140_220 ?_
  refine lv_topi (fun y17 ey17 => ?_)
  obtain rfl : y17 = 0 := ey17.trans (by decide)
  refine lv_iadd hx hb d_15_140_221 ?_
  refine lv_topi (fun y18 ey18 => ?_)
  obtain rfl : y18 = 2 := ey18.trans (by decide)
  have hP9 := hP16.sub (ws' := [(a0, .inr (14, rg 107 f15)), (a1, .inl (ca 0, 8, .inl x13_1))]) [1, 0] rfl
  have hD9 := hD16.sub (ws' := [(a0, .inr (14, rg 107 f15)), (a1, .inl (ca 0, 8, .inl x13_1))]) [1, 0] (by decide) rfl
  refine W.widen (k := 0) (n := 0) (Nat.le_of_ble_eq_true rfl) (Nat.le_of_ble_eq_true rfl) ?_
  exact W.iret (v := 2) hx hb hr (fun t ht hW => ⟨⟨2, (f15, x13_1), rfl, ⟨rfl, hM15.mono (by decide), hF15.sub [0, 1, 2, 3, 4, 5] rfl, hw13_3.sub [0, 1] rfl⟩, by rw [ht]; exact hP9, va_K.moved hW.alike hK, hD9⟩, hS16.F ht⟩) hS16.2.2 d_15_140_222
