theorem k_5_185 : (Jvm.Cond.code ({ cls := "StaveHouse", name := "pieceAt", desc := "(I)LStaveHouse$Piece;" } : Jvm.MethodName) prog_1_method_6_code (2 : Nat) (Option.some (Jvm.ClassFile.FieldType.object "StaveHouse$Piece"))) ∈ wAll := wA_5 (j := 185) rfl rfl
theorem k_5_182 : (Jvm.Cond.methodLink "StaveHouse" (97 : Nat) ({ cls := "StaveHouse", name := "pieceAt", desc := "(I)LStaveHouse$Piece;" } : Jvm.MethodName)) ∈ wAll := wA_5 (j := 182) rfl rfl
theorem k_5_184 : (Jvm.Cond.instanceMethod ({ cls := "StaveHouse", name := "pieceAt", desc := "(I)LStaveHouse$Piece;" } : Jvm.MethodName)) ∈ wAll := wA_5 (j := 184) rfl rfl
theorem ks_65 : (Jvm.Cond.selects "StaveHouse" ({ cls := "StaveHouse", name := "pieceAt", desc := "(I)LStaveHouse$Piece;" } : Jvm.MethodName) ({ cls := "StaveHouse", name := "pieceAt", desc := "(I)LStaveHouse$Piece;" } : Jvm.MethodName)) ∈ wAll := wA_s (j := 65) rfl rfl
theorem k_1_1 : (Jvm.Cond.initialized "StaveHouse") ∈ wAll := wA_1 (j := 1) rfl rfl
theorem k_6_171 : (Jvm.Cond.code ({ cls := "StaveHouse", name := "partAt", desc := "(II)LStaveHouse$Part;" } : Jvm.MethodName) prog_1_method_7_code (4 : Nat) (Option.some (Jvm.ClassFile.FieldType.object "StaveHouse$Part"))) ∈ wAll := wA_6 (j := 171) rfl rfl
theorem k_6_168 : (Jvm.Cond.methodLink "StaveHouse" (101 : Nat) ({ cls := "StaveHouse", name := "partAt", desc := "(II)LStaveHouse$Part;" } : Jvm.MethodName)) ∈ wAll := wA_6 (j := 168) rfl rfl
theorem k_6_170 : (Jvm.Cond.instanceMethod ({ cls := "StaveHouse", name := "partAt", desc := "(II)LStaveHouse$Part;" } : Jvm.MethodName)) ∈ wAll := wA_6 (j := 170) rfl rfl
theorem ks_77 : (Jvm.Cond.selects "StaveHouse" ({ cls := "StaveHouse", name := "partAt", desc := "(II)LStaveHouse$Part;" } : Jvm.MethodName) ({ cls := "StaveHouse", name := "partAt", desc := "(II)LStaveHouse$Part;" } : Jvm.MethodName)) ∈ wAll := wA_s (j := 77) rfl rfl
theorem k_6_183 : (Jvm.Cond.code ({ cls := "StaveHouse", name := "eventAt", desc := "(III)LStaveHouse$Event;" } : Jvm.MethodName) prog_1_method_8_code (5 : Nat) (Option.some (Jvm.ClassFile.FieldType.object "StaveHouse$Event"))) ∈ wAll := wA_6 (j := 183) rfl rfl
theorem k_6_180 : (Jvm.Cond.methodLink "StaveHouse" (187 : Nat) ({ cls := "StaveHouse", name := "eventAt", desc := "(III)LStaveHouse$Event;" } : Jvm.MethodName)) ∈ wAll := wA_6 (j := 180) rfl rfl
theorem k_6_182 : (Jvm.Cond.instanceMethod ({ cls := "StaveHouse", name := "eventAt", desc := "(III)LStaveHouse$Event;" } : Jvm.MethodName)) ∈ wAll := wA_6 (j := 182) rfl rfl
theorem ks_78 : (Jvm.Cond.selects "StaveHouse" ({ cls := "StaveHouse", name := "eventAt", desc := "(III)LStaveHouse$Event;" } : Jvm.MethodName) ({ cls := "StaveHouse", name := "eventAt", desc := "(III)LStaveHouse$Event;" } : Jvm.MethodName)) ∈ wAll := wA_s (j := 78) rfl rfl
theorem k_6_184 : (Jvm.Cond.constantLong "StaveHouse" (191 : Nat) (-1 : Int64)) ∈ wAll := wA_6 (j := 184) rfl rfl
theorem k_6_199 : (Jvm.Cond.constant "StaveHouse" (218 : Nat) (-2147483648 : Int32)) ∈ wAll := wA_6 (j := 199) rfl rfl
theorem k_7_111 : (Jvm.Cond.code ({ cls := "StaveHouse", name := "performanceOf", desc := "(I)LStaveHouse$Performance;" } : Jvm.MethodName) prog_1_method_9_code (3 : Nat) (Option.some (Jvm.ClassFile.FieldType.object "StaveHouse$Performance"))) ∈ wAll := wA_7 (j := 111) rfl rfl
theorem k_7_108 : (Jvm.Cond.methodLink "StaveHouse" (256 : Nat) ({ cls := "StaveHouse", name := "performanceOf", desc := "(I)LStaveHouse$Performance;" } : Jvm.MethodName)) ∈ wAll := wA_7 (j := 108) rfl rfl
theorem k_7_110 : (Jvm.Cond.instanceMethod ({ cls := "StaveHouse", name := "performanceOf", desc := "(I)LStaveHouse$Performance;" } : Jvm.MethodName)) ∈ wAll := wA_7 (j := 110) rfl rfl
theorem ks_89 : (Jvm.Cond.selects "StaveHouse" ({ cls := "StaveHouse", name := "performanceOf", desc := "(I)LStaveHouse$Performance;" } : Jvm.MethodName) ({ cls := "StaveHouse", name := "performanceOf", desc := "(I)LStaveHouse$Performance;" } : Jvm.MethodName)) ∈ wAll := wA_s (j := 89) rfl rfl
theorem k_1_42 : (Jvm.Cond.fieldLink "StaveHouse$ByteRow" (21 : Nat) "StaveHouse$ByteRow" "size" "I") ∈ wAll := wA_1 (j := 42) rfl rfl
theorem k_3_37 : (Jvm.Cond.code ({ cls := "StaveHouse$ByteRow", name := "at", desc := "(I)I" } : Jvm.MethodName) prog_2_method_3_code (2 : Nat) (Option.some Jvm.ClassFile.FieldType.int)) ∈ wAll := wA_3 (j := 37) rfl rfl
theorem k_7_200 : (Jvm.Cond.methodLink "StaveHouse" (268 : Nat) ({ cls := "StaveHouse$ByteRow", name := "at", desc := "(I)I" } : Jvm.MethodName)) ∈ wAll := wA_7 (j := 200) rfl rfl
theorem k_3_35 : (Jvm.Cond.instanceMethod ({ cls := "StaveHouse$ByteRow", name := "at", desc := "(I)I" } : Jvm.MethodName)) ∈ wAll := wA_3 (j := 35) rfl rfl
theorem k_3_36 : (Jvm.Cond.selects "StaveHouse$ByteRow" ({ cls := "StaveHouse$ByteRow", name := "at", desc := "(I)I" } : Jvm.MethodName) ({ cls := "StaveHouse$ByteRow", name := "at", desc := "(I)I" } : Jvm.MethodName)) ∈ wAll := wA_3 (j := 36) rfl rfl
theorem k_1_46 : (Jvm.Cond.fieldLink "StaveHouse" (56 : Nat) "StaveHouse$ByteRow" "size" "I") ∈ wAll := wA_1 (j := 46) rfl rfl
theorem k_2_135 : (Jvm.Cond.fieldLink "StaveHouse" (282 : Nat) "StaveHouse" "opened" "LStaveHouse$SoundFile;") ∈ wAll := wA_2 (j := 135) rfl rfl
theorem k_9_38 : (Jvm.Cond.constantLong "StaveHouse" (309 : Nat) (-2147483648 : Int64)) ∈ wAll := wA_9 (j := 38) rfl rfl
theorem d_1_10_0 : decode prog_1_method_10_code 0 = .ok (.aload_n 0, 1) := by decide +kernel
theorem d_1_10_1 : decode prog_1_method_10_code 1 = .ok (.iload_n 1, 1) := by decide +kernel
theorem d_1_10_2 : decode prog_1_method_10_code 2 = .ok (.invokevirtual 97, 3) := by decide +kernel
theorem d_1_6_0 : decode prog_1_method_6_code 0 = .ok (.iload_n 1, 1) := by decide +kernel
theorem d_1_6_1 : decode prog_1_method_6_code 1 = .ok (.ifCond .lt 8, 3) := by decide +kernel
theorem d_1_6_9 : decode prog_1_method_6_code 9 = .ok (.aconst_null, 1) := by decide +kernel
theorem d_1_6_10 : decode prog_1_method_6_code 10 = .ok (.goto 9, 3) := by decide +kernel
theorem d_1_6_19 : decode prog_1_method_6_code 19 = .ok (.areturn, 1) := by decide +kernel
theorem d_1_6_4 : decode prog_1_method_6_code 4 = .ok (.iload_n 1, 1) := by decide +kernel
theorem d_1_6_5 : decode prog_1_method_6_code 5 = .ok (.iconst 2, 1) := by decide +kernel
theorem d_1_6_6 : decode prog_1_method_6_code 6 = .ok (.if_icmp .lt 7, 3) := by decide +kernel
theorem d_1_6_13 : decode prog_1_method_6_code 13 = .ok (.aload_n 0, 1) := by decide +kernel
theorem d_1_6_14 : decode prog_1_method_6_code 14 = .ok (.getfield 27, 3) := by decide +kernel
theorem d_1_6_17 : decode prog_1_method_6_code 17 = .ok (.iload_n 1, 1) := by decide +kernel
theorem d_1_6_18 : decode prog_1_method_6_code 18 = .ok (.aaload, 1) := by decide +kernel
theorem d_1_10_5 : decode prog_1_method_10_code 5 = .ok (.astore_n 3, 1) := by decide +kernel
theorem d_1_10_6 : decode prog_1_method_10_code 6 = .ok (.aload_n 3, 1) := by decide +kernel
theorem d_1_10_7 : decode prog_1_method_10_code 7 = .ok (.ifnonnull 5, 3) := by decide +kernel
theorem d_1_10_10 : decode prog_1_method_10_code 10 = .ok (.iconst (-1), 1) := by decide +kernel
theorem d_1_10_11 : decode prog_1_method_10_code 11 = .ok (.ireturn, 1) := by decide +kernel
theorem d_1_11_0 : decode prog_1_method_11_code 0 = .ok (.aload_n 0, 1) := by decide +kernel
theorem d_1_11_1 : decode prog_1_method_11_code 1 = .ok (.iload_n 1, 1) := by decide +kernel
theorem d_1_11_2 : decode prog_1_method_11_code 2 = .ok (.iload_n 2, 1) := by decide +kernel
theorem d_1_11_3 : decode prog_1_method_11_code 3 = .ok (.invokevirtual 101, 3) := by decide +kernel
theorem d_1_7_0 : decode prog_1_method_7_code 0 = .ok (.aload_n 0, 1) := by decide +kernel
theorem d_1_7_1 : decode prog_1_method_7_code 1 = .ok (.iload_n 1, 1) := by decide +kernel
theorem d_1_7_2 : decode prog_1_method_7_code 2 = .ok (.invokevirtual 97, 3) := by decide +kernel
theorem d_1_7_5 : decode prog_1_method_7_code 5 = .ok (.astore_n 3, 1) := by decide +kernel
theorem d_1_7_6 : decode prog_1_method_7_code 6 = .ok (.aload_n 3, 1) := by decide +kernel
theorem d_1_7_7 : decode prog_1_method_7_code 7 = .ok (.ifnull 15, 3) := by decide +kernel
theorem d_1_7_22 : decode prog_1_method_7_code 22 = .ok (.aconst_null, 1) := by decide +kernel
theorem d_1_7_23 : decode prog_1_method_7_code 23 = .ok (.goto 9, 3) := by decide +kernel
theorem d_1_7_32 : decode prog_1_method_7_code 32 = .ok (.areturn, 1) := by decide +kernel
theorem d_1_11_6 : decode prog_1_method_11_code 6 = .ok (.astore 4, 2) := by decide +kernel
theorem d_1_11_8 : decode prog_1_method_11_code 8 = .ok (.aload 4, 2) := by decide +kernel
theorem d_1_11_10 : decode prog_1_method_11_code 10 = .ok (.ifnonnull 5, 3) := by decide +kernel
theorem d_1_11_13 : decode prog_1_method_11_code 13 = .ok (.iconst (-1), 1) := by decide +kernel
theorem d_1_11_14 : decode prog_1_method_11_code 14 = .ok (.ireturn, 1) := by decide +kernel
theorem d_1_12_0 : decode prog_1_method_12_code 0 = .ok (.aload_n 0, 1) := by decide +kernel
theorem d_1_12_1 : decode prog_1_method_12_code 1 = .ok (.iload_n 1, 1) := by decide +kernel
theorem d_1_12_2 : decode prog_1_method_12_code 2 = .ok (.iload_n 2, 1) := by decide +kernel
theorem d_1_12_3 : decode prog_1_method_12_code 3 = .ok (.invokevirtual 101, 3) := by decide +kernel
theorem d_1_12_6 : decode prog_1_method_12_code 6 = .ok (.astore_n 3, 1) := by decide +kernel
theorem d_1_12_7 : decode prog_1_method_12_code 7 = .ok (.aload_n 3, 1) := by decide +kernel
theorem d_1_12_8 : decode prog_1_method_12_code 8 = .ok (.ifnonnull 7, 3) := by decide +kernel
theorem d_1_12_11 : decode prog_1_method_12_code 11 = .ok (.lconst 0, 1) := by decide +kernel
theorem d_1_12_12 : decode prog_1_method_12_code 12 = .ok (.goto 7, 3) := by decide +kernel
theorem d_1_12_19 : decode prog_1_method_12_code 19 = .ok (.lreturn, 1) := by decide +kernel
theorem d_1_13_0 : decode prog_1_method_13_code 0 = .ok (.aload_n 0, 1) := by decide +kernel
theorem d_1_13_1 : decode prog_1_method_13_code 1 = .ok (.iload_n 1, 1) := by decide +kernel
theorem d_1_13_2 : decode prog_1_method_13_code 2 = .ok (.iload_n 2, 1) := by decide +kernel
theorem d_1_13_3 : decode prog_1_method_13_code 3 = .ok (.iload_n 3, 1) := by decide +kernel
theorem d_1_13_4 : decode prog_1_method_13_code 4 = .ok (.invokevirtual 187, 3) := by decide +kernel
theorem d_1_8_0 : decode prog_1_method_8_code 0 = .ok (.aload_n 0, 1) := by decide +kernel
theorem d_1_8_1 : decode prog_1_method_8_code 1 = .ok (.iload_n 1, 1) := by decide +kernel
theorem d_1_8_2 : decode prog_1_method_8_code 2 = .ok (.iload_n 2, 1) := by decide +kernel
theorem d_1_8_3 : decode prog_1_method_8_code 3 = .ok (.invokevirtual 101, 3) := by decide +kernel
theorem d_1_8_6 : decode prog_1_method_8_code 6 = .ok (.astore 4, 2) := by decide +kernel
theorem d_1_8_8 : decode prog_1_method_8_code 8 = .ok (.aload 4, 2) := by decide +kernel
theorem d_1_8_10 : decode prog_1_method_8_code 10 = .ok (.ifnull 16, 3) := by decide +kernel
theorem d_1_8_26 : decode prog_1_method_8_code 26 = .ok (.aconst_null, 1) := by decide +kernel
theorem d_1_8_27 : decode prog_1_method_8_code 27 = .ok (.goto 10, 3) := by decide +kernel
theorem d_1_8_37 : decode prog_1_method_8_code 37 = .ok (.areturn, 1) := by decide +kernel
theorem d_1_13_7 : decode prog_1_method_13_code 7 = .ok (.astore 5, 2) := by decide +kernel
theorem d_1_13_9 : decode prog_1_method_13_code 9 = .ok (.aload 5, 2) := by decide +kernel
theorem d_1_13_11 : decode prog_1_method_13_code 11 = .ok (.ifnonnull 7, 3) := by decide +kernel
theorem d_1_13_14 : decode prog_1_method_13_code 14 = .ok (.ldc2_w 191, 3) := by decide +kernel
theorem d_1_13_17 : decode prog_1_method_13_code 17 = .ok (.lreturn, 1) := by decide +kernel
theorem d_1_14_0 : decode prog_1_method_14_code 0 = .ok (.aload_n 0, 1) := by decide +kernel
theorem d_1_14_1 : decode prog_1_method_14_code 1 = .ok (.iload_n 1, 1) := by decide +kernel
theorem d_1_14_2 : decode prog_1_method_14_code 2 = .ok (.iload_n 2, 1) := by decide +kernel
theorem d_1_14_3 : decode prog_1_method_14_code 3 = .ok (.iload_n 3, 1) := by decide +kernel
theorem d_1_14_4 : decode prog_1_method_14_code 4 = .ok (.invokevirtual 187, 3) := by decide +kernel
theorem d_1_14_7 : decode prog_1_method_14_code 7 = .ok (.astore 6, 2) := by decide +kernel
theorem d_1_14_9 : decode prog_1_method_14_code 9 = .ok (.aload 6, 2) := by decide +kernel
theorem d_1_14_11 : decode prog_1_method_14_code 11 = .ok (.ifnull 18, 3) := by decide +kernel
theorem d_1_14_29 : decode prog_1_method_14_code 29 = .ok (.ldc 218, 2) := by decide +kernel
theorem d_1_14_31 : decode prog_1_method_14_code 31 = .ok (.ireturn, 1) := by decide +kernel
theorem d_1_15_0 : decode prog_1_method_15_code 0 = .ok (.aload_n 0, 1) := by decide +kernel
theorem d_1_15_1 : decode prog_1_method_15_code 1 = .ok (.iload_n 1, 1) := by decide +kernel
theorem d_1_15_2 : decode prog_1_method_15_code 2 = .ok (.iload_n 2, 1) := by decide +kernel
theorem d_1_15_3 : decode prog_1_method_15_code 3 = .ok (.invokevirtual 101, 3) := by decide +kernel
theorem d_1_15_6 : decode prog_1_method_15_code 6 = .ok (.astore 5, 2) := by decide +kernel
theorem d_1_15_8 : decode prog_1_method_15_code 8 = .ok (.aload 5, 2) := by decide +kernel
theorem d_1_15_10 : decode prog_1_method_15_code 10 = .ok (.ifnull 28, 3) := by decide +kernel
theorem d_1_15_38 : decode prog_1_method_15_code 38 = .ok (.ldc2_w 191, 3) := by decide +kernel
theorem d_1_15_41 : decode prog_1_method_15_code 41 = .ok (.lreturn, 1) := by decide +kernel
theorem d_1_16_0 : decode prog_1_method_16_code 0 = .ok (.aload_n 0, 1) := by decide +kernel
theorem d_1_16_1 : decode prog_1_method_16_code 1 = .ok (.iload_n 1, 1) := by decide +kernel
theorem d_1_16_2 : decode prog_1_method_16_code 2 = .ok (.invokevirtual 97, 3) := by decide +kernel
theorem d_1_16_5 : decode prog_1_method_16_code 5 = .ok (.astore_n 3, 1) := by decide +kernel
theorem d_1_16_6 : decode prog_1_method_16_code 6 = .ok (.aload_n 3, 1) := by decide +kernel
theorem d_1_16_7 : decode prog_1_method_16_code 7 = .ok (.ifnull 17, 3) := by decide +kernel
theorem d_1_16_24 : decode prog_1_method_16_code 24 = .ok (.iconst (-1), 1) := by decide +kernel
theorem d_1_16_25 : decode prog_1_method_16_code 25 = .ok (.ireturn, 1) := by decide +kernel
theorem d_1_17_0 : decode prog_1_method_17_code 0 = .ok (.aload_n 0, 1) := by decide +kernel
theorem d_1_17_1 : decode prog_1_method_17_code 1 = .ok (.iload_n 1, 1) := by decide +kernel
theorem d_1_17_2 : decode prog_1_method_17_code 2 = .ok (.invokevirtual 97, 3) := by decide +kernel
theorem d_1_17_5 : decode prog_1_method_17_code 5 = .ok (.astore 4, 2) := by decide +kernel
theorem d_1_17_7 : decode prog_1_method_17_code 7 = .ok (.aload 4, 2) := by decide +kernel
theorem d_1_17_9 : decode prog_1_method_17_code 9 = .ok (.ifnull 11, 3) := by decide +kernel
theorem d_1_17_20 : decode prog_1_method_17_code 20 = .ok (.ldc2_w 191, 3) := by decide +kernel
theorem d_1_17_23 : decode prog_1_method_17_code 23 = .ok (.lreturn, 1) := by decide +kernel
theorem d_1_18_0 : decode prog_1_method_18_code 0 = .ok (.aload_n 0, 1) := by decide +kernel
theorem d_1_18_1 : decode prog_1_method_18_code 1 = .ok (.iload_n 1, 1) := by decide +kernel
theorem d_1_18_2 : decode prog_1_method_18_code 2 = .ok (.iload_n 2, 1) := by decide +kernel
theorem d_1_18_3 : decode prog_1_method_18_code 3 = .ok (.invokevirtual 101, 3) := by decide +kernel
theorem d_1_18_6 : decode prog_1_method_18_code 6 = .ok (.astore 4, 2) := by decide +kernel
theorem d_1_18_8 : decode prog_1_method_18_code 8 = .ok (.aload_n 0, 1) := by decide +kernel
theorem d_1_18_9 : decode prog_1_method_18_code 9 = .ok (.iload_n 1, 1) := by decide +kernel
theorem d_1_18_10 : decode prog_1_method_18_code 10 = .ok (.invokevirtual 97, 3) := by decide +kernel
theorem d_1_18_13 : decode prog_1_method_18_code 13 = .ok (.astore 5, 2) := by decide +kernel
theorem d_1_18_15 : decode prog_1_method_18_code 15 = .ok (.aload 4, 2) := by decide +kernel
theorem d_1_18_17 : decode prog_1_method_18_code 17 = .ok (.ifnull 29, 3) := by decide +kernel
theorem d_1_18_46 : decode prog_1_method_18_code 46 = .ok (.iconst (-1), 1) := by decide +kernel
theorem d_1_18_47 : decode prog_1_method_18_code 47 = .ok (.ireturn, 1) := by decide +kernel
theorem d_1_19_0 : decode prog_1_method_19_code 0 = .ok (.aload_n 0, 1) := by decide +kernel
theorem d_1_19_1 : decode prog_1_method_19_code 1 = .ok (.iload_n 1, 1) := by decide +kernel
theorem d_1_19_2 : decode prog_1_method_19_code 2 = .ok (.invokevirtual 97, 3) := by decide +kernel
theorem d_1_19_5 : decode prog_1_method_19_code 5 = .ok (.astore_n 2, 1) := by decide +kernel
theorem d_1_19_6 : decode prog_1_method_19_code 6 = .ok (.aload_n 2, 1) := by decide +kernel
theorem d_1_19_7 : decode prog_1_method_19_code 7 = .ok (.ifnonnull 5, 3) := by decide +kernel
theorem d_1_19_10 : decode prog_1_method_19_code 10 = .ok (.iconst (-1), 1) := by decide +kernel
theorem d_1_19_11 : decode prog_1_method_19_code 11 = .ok (.ireturn, 1) := by decide +kernel
theorem d_1_20_0 : decode prog_1_method_20_code 0 = .ok (.aload_n 0, 1) := by decide +kernel
theorem d_1_20_1 : decode prog_1_method_20_code 1 = .ok (.iload_n 1, 1) := by decide +kernel
theorem d_1_20_2 : decode prog_1_method_20_code 2 = .ok (.invokevirtual 256, 3) := by decide +kernel
theorem d_1_9_0 : decode prog_1_method_9_code 0 = .ok (.aload_n 0, 1) := by decide +kernel
theorem d_1_9_1 : decode prog_1_method_9_code 1 = .ok (.iload_n 1, 1) := by decide +kernel
theorem d_1_9_2 : decode prog_1_method_9_code 2 = .ok (.invokevirtual 97, 3) := by decide +kernel
theorem d_1_9_5 : decode prog_1_method_9_code 5 = .ok (.astore_n 2, 1) := by decide +kernel
theorem d_1_9_6 : decode prog_1_method_9_code 6 = .ok (.aload_n 2, 1) := by decide +kernel
theorem d_1_9_7 : decode prog_1_method_9_code 7 = .ok (.ifnull 10, 3) := by decide +kernel
theorem d_1_9_17 : decode prog_1_method_9_code 17 = .ok (.aconst_null, 1) := by decide +kernel
theorem d_1_9_18 : decode prog_1_method_9_code 18 = .ok (.goto 7, 3) := by decide +kernel
theorem d_1_9_25 : decode prog_1_method_9_code 25 = .ok (.areturn, 1) := by decide +kernel
theorem d_1_20_5 : decode prog_1_method_20_code 5 = .ok (.astore 4, 2) := by decide +kernel
theorem d_1_20_7 : decode prog_1_method_20_code 7 = .ok (.aload 4, 2) := by decide +kernel
theorem d_1_20_9 : decode prog_1_method_20_code 9 = .ok (.ifnonnull 7, 3) := by decide +kernel
theorem d_1_20_12 : decode prog_1_method_20_code 12 = .ok (.iconst (-1), 1) := by decide +kernel
theorem d_1_20_13 : decode prog_1_method_20_code 13 = .ok (.goto 10, 3) := by decide +kernel
theorem d_1_20_23 : decode prog_1_method_20_code 23 = .ok (.ireturn, 1) := by decide +kernel
theorem d_1_21_0 : decode prog_1_method_21_code 0 = .ok (.aload_n 0, 1) := by decide +kernel
theorem d_1_21_1 : decode prog_1_method_21_code 1 = .ok (.iload_n 1, 1) := by decide +kernel
theorem d_1_21_2 : decode prog_1_method_21_code 2 = .ok (.invokevirtual 97, 3) := by decide +kernel
theorem d_1_21_5 : decode prog_1_method_21_code 5 = .ok (.astore_n 2, 1) := by decide +kernel
theorem d_1_21_6 : decode prog_1_method_21_code 6 = .ok (.aload_n 0, 1) := by decide +kernel
theorem d_1_21_7 : decode prog_1_method_21_code 7 = .ok (.iload_n 1, 1) := by decide +kernel
theorem d_1_21_8 : decode prog_1_method_21_code 8 = .ok (.invokevirtual 256, 3) := by decide +kernel
theorem d_1_21_11 : decode prog_1_method_21_code 11 = .ok (.astore_n 3, 1) := by decide +kernel
theorem d_1_21_12 : decode prog_1_method_21_code 12 = .ok (.aload_n 2, 1) := by decide +kernel
theorem d_1_21_13 : decode prog_1_method_21_code 13 = .ok (.ifnull 7, 3) := by decide +kernel
theorem d_1_21_20 : decode prog_1_method_21_code 20 = .ok (.iconst (-1), 1) := by decide +kernel
theorem d_1_21_21 : decode prog_1_method_21_code 21 = .ok (.ireturn, 1) := by decide +kernel
theorem d_1_22_0 : decode prog_1_method_22_code 0 = .ok (.aload_n 0, 1) := by decide +kernel
theorem d_1_22_1 : decode prog_1_method_22_code 1 = .ok (.getfield 22, 3) := by decide +kernel
theorem d_1_22_4 : decode prog_1_method_22_code 4 = .ok (.iload_n 1, 1) := by decide +kernel
theorem d_1_22_5 : decode prog_1_method_22_code 5 = .ok (.invokevirtual 268, 3) := by decide +kernel
theorem d_2_3_0 : decode prog_2_method_3_code 0 = .ok (.iload_n 1, 1) := by decide +kernel
theorem d_2_3_1 : decode prog_2_method_3_code 1 = .ok (.ifCond .lt 11, 3) := by decide +kernel
theorem d_2_3_12 : decode prog_2_method_3_code 12 = .ok (.iconst (-1), 1) := by decide +kernel
theorem d_2_3_13 : decode prog_2_method_3_code 13 = .ok (.goto 9, 3) := by decide +kernel
theorem d_2_3_22 : decode prog_2_method_3_code 22 = .ok (.ireturn, 1) := by decide +kernel
theorem d_2_3_4 : decode prog_2_method_3_code 4 = .ok (.iload_n 1, 1) := by decide +kernel
theorem d_2_3_5 : decode prog_2_method_3_code 5 = .ok (.aload_n 0, 1) := by decide +kernel
theorem d_2_3_6 : decode prog_2_method_3_code 6 = .ok (.getfield 21, 3) := by decide +kernel
theorem d_2_3_9 : decode prog_2_method_3_code 9 = .ok (.if_icmp .lt 7, 3) := by decide +kernel
theorem d_1_22_8 : decode prog_1_method_22_code 8 = .ok (.ireturn, 1) := by decide +kernel
theorem d_1_23_0 : decode prog_1_method_23_code 0 = .ok (.aload_n 0, 1) := by decide +kernel
theorem d_1_23_1 : decode prog_1_method_23_code 1 = .ok (.getfield 22, 3) := by decide +kernel
theorem d_1_23_4 : decode prog_1_method_23_code 4 = .ok (.getfield 56, 3) := by decide +kernel
theorem d_1_23_7 : decode prog_1_method_23_code 7 = .ok (.ifCond .eq 16, 3) := by decide +kernel
theorem d_1_23_23 : decode prog_1_method_23_code 23 = .ok (.iconst (-1), 1) := by decide +kernel
theorem d_1_23_24 : decode prog_1_method_23_code 24 = .ok (.ireturn, 1) := by decide +kernel
theorem d_1_25_0 : decode prog_1_method_25_code 0 = .ok (.aload_n 0, 1) := by decide +kernel
theorem d_1_25_1 : decode prog_1_method_25_code 1 = .ok (.getfield 282, 3) := by decide +kernel
theorem d_1_25_4 : decode prog_1_method_25_code 4 = .ok (.ifnull 13, 3) := by decide +kernel
theorem d_1_25_17 : decode prog_1_method_25_code 17 = .ok (.ldc 218, 2) := by decide +kernel
theorem d_1_25_19 : decode prog_1_method_25_code 19 = .ok (.ireturn, 1) := by decide +kernel
theorem d_1_26_0 : decode prog_1_method_26_code 0 = .ok (.aload_n 0, 1) := by decide +kernel
theorem d_1_26_1 : decode prog_1_method_26_code 1 = .ok (.getfield 282, 3) := by decide +kernel
theorem d_1_26_4 : decode prog_1_method_26_code 4 = .ok (.ifnull 28, 3) := by decide +kernel
theorem d_1_26_32 : decode prog_1_method_26_code 32 = .ok (.ldc2_w 191, 3) := by decide +kernel
theorem d_1_26_35 : decode prog_1_method_26_code 35 = .ok (.lreturn, 1) := by decide +kernel
theorem d_1_27_0 : decode prog_1_method_27_code 0 = .ok (.iload_n 1, 1) := by decide +kernel
theorem d_1_27_1 : decode prog_1_method_27_code 1 = .ok (.iconst 4, 1) := by decide +kernel
theorem d_1_27_2 : decode prog_1_method_27_code 2 = .ok (.if_icmp .eq 21, 3) := by decide +kernel
theorem d_1_27_23 : decode prog_1_method_27_code 23 = .ok (.iconst 1, 1) := by decide +kernel
theorem d_1_27_24 : decode prog_1_method_27_code 24 = .ok (.goto 4, 3) := by decide +kernel
theorem d_1_27_28 : decode prog_1_method_27_code 28 = .ok (.istore_n 2, 1) := by decide +kernel
theorem d_1_27_29 : decode prog_1_method_27_code 29 = .ok (.aload_n 0, 1) := by decide +kernel
theorem d_1_27_30 : decode prog_1_method_27_code 30 = .ok (.getfield 282, 3) := by decide +kernel
theorem d_1_27_33 : decode prog_1_method_27_code 33 = .ok (.ifnull 17, 3) := by decide +kernel
theorem d_1_27_50 : decode prog_1_method_27_code 50 = .ok (.iconst (-1), 1) := by decide +kernel
theorem d_1_27_51 : decode prog_1_method_27_code 51 = .ok (.ireturn, 1) := by decide +kernel
theorem d_1_27_5 : decode prog_1_method_27_code 5 = .ok (.iload_n 1, 1) := by decide +kernel
theorem d_1_27_6 : decode prog_1_method_27_code 6 = .ok (.bipush 8, 2) := by decide +kernel
theorem d_1_27_8 : decode prog_1_method_27_code 8 = .ok (.if_icmp .eq 15, 3) := by decide +kernel
theorem d_1_27_11 : decode prog_1_method_27_code 11 = .ok (.iload_n 1, 1) := by decide +kernel
theorem d_1_27_12 : decode prog_1_method_27_code 12 = .ok (.bipush 16, 2) := by decide +kernel
theorem d_1_27_14 : decode prog_1_method_27_code 14 = .ok (.if_icmp .eq 9, 3) := by decide +kernel
theorem d_1_27_17 : decode prog_1_method_27_code 17 = .ok (.iload_n 1, 1) := by decide +kernel
theorem d_1_27_18 : decode prog_1_method_27_code 18 = .ok (.bipush 32, 2) := by decide +kernel
theorem d_1_27_20 : decode prog_1_method_27_code 20 = .ok (.if_icmp .ne 7, 3) := by decide +kernel
theorem d_1_27_27 : decode prog_1_method_27_code 27 = .ok (.iconst 0, 1) := by decide +kernel
theorem d_1_28_0 : decode prog_1_method_28_code 0 = .ok (.aload_n 0, 1) := by decide +kernel
theorem d_1_28_1 : decode prog_1_method_28_code 1 = .ok (.iload_n 1, 1) := by decide +kernel
theorem d_1_28_2 : decode prog_1_method_28_code 2 = .ok (.invokevirtual 256, 3) := by decide +kernel
theorem d_1_28_5 : decode prog_1_method_28_code 5 = .ok (.astore_n 3, 1) := by decide +kernel
theorem d_1_28_6 : decode prog_1_method_28_code 6 = .ok (.aload_n 0, 1) := by decide +kernel
theorem d_1_28_7 : decode prog_1_method_28_code 7 = .ok (.iload_n 1, 1) := by decide +kernel
theorem d_1_28_8 : decode prog_1_method_28_code 8 = .ok (.invokevirtual 97, 3) := by decide +kernel
theorem d_1_28_11 : decode prog_1_method_28_code 11 = .ok (.astore 4, 2) := by decide +kernel
theorem d_1_28_13 : decode prog_1_method_28_code 13 = .ok (.aload_n 3, 1) := by decide +kernel
theorem d_1_28_14 : decode prog_1_method_28_code 14 = .ok (.ifnull 19, 3) := by decide +kernel
theorem d_1_28_33 : decode prog_1_method_28_code 33 = .ok (.iconst (-1), 1) := by decide +kernel
theorem d_1_28_34 : decode prog_1_method_28_code 34 = .ok (.ireturn, 1) := by decide +kernel
theorem d_1_29_0 : decode prog_1_method_29_code 0 = .ok (.aload_n 0, 1) := by decide +kernel
theorem d_1_29_1 : decode prog_1_method_29_code 1 = .ok (.iload_n 1, 1) := by decide +kernel
theorem d_1_29_2 : decode prog_1_method_29_code 2 = .ok (.invokevirtual 256, 3) := by decide +kernel
theorem d_1_29_5 : decode prog_1_method_29_code 5 = .ok (.astore 4, 2) := by decide +kernel
theorem d_1_29_7 : decode prog_1_method_29_code 7 = .ok (.aload 4, 2) := by decide +kernel
theorem d_1_29_9 : decode prog_1_method_29_code 9 = .ok (.ifnull 16, 3) := by decide +kernel
theorem d_1_29_25 : decode prog_1_method_29_code 25 = .ok (.ldc 218, 2) := by decide +kernel
theorem d_1_29_27 : decode prog_1_method_29_code 27 = .ok (.ireturn, 1) := by decide +kernel
theorem d_1_30_0 : decode prog_1_method_30_code 0 = .ok (.aload_n 0, 1) := by decide +kernel
theorem d_1_30_1 : decode prog_1_method_30_code 1 = .ok (.iload_n 1, 1) := by decide +kernel
theorem d_1_30_2 : decode prog_1_method_30_code 2 = .ok (.invokevirtual 97, 3) := by decide +kernel
theorem d_1_30_5 : decode prog_1_method_30_code 5 = .ok (.astore 4, 2) := by decide +kernel
theorem d_1_30_7 : decode prog_1_method_30_code 7 = .ok (.aload 4, 2) := by decide +kernel
theorem d_1_30_9 : decode prog_1_method_30_code 9 = .ok (.ifnull 19, 3) := by decide +kernel
theorem d_1_30_28 : decode prog_1_method_30_code 28 = .ok (.ldc2_w 309, 3) := by decide +kernel
theorem d_1_30_31 : decode prog_1_method_30_code 31 = .ok (.lreturn, 1) := by decide +kernel
theorem d_1_31_0 : decode prog_1_method_31_code 0 = .ok (.aload_n 0, 1) := by decide +kernel
theorem d_1_31_1 : decode prog_1_method_31_code 1 = .ok (.iload_n 1, 1) := by decide +kernel
theorem d_1_31_2 : decode prog_1_method_31_code 2 = .ok (.invokevirtual 97, 3) := by decide +kernel
theorem d_1_31_5 : decode prog_1_method_31_code 5 = .ok (.astore 4, 2) := by decide +kernel
theorem d_1_31_7 : decode prog_1_method_31_code 7 = .ok (.aload 4, 2) := by decide +kernel
theorem d_1_31_9 : decode prog_1_method_31_code 9 = .ok (.ifnull 28, 3) := by decide +kernel
theorem d_1_31_37 : decode prog_1_method_31_code 37 = .ok (.iconst (-1), 1) := by decide +kernel
theorem d_1_31_38 : decode prog_1_method_31_code 38 = .ok (.ireturn, 1) := by decide +kernel
theorem d_1_32_0 : decode prog_1_method_32_code 0 = .ok (.aload_n 0, 1) := by decide +kernel
theorem d_1_32_1 : decode prog_1_method_32_code 1 = .ok (.iload_n 1, 1) := by decide +kernel
theorem d_1_32_2 : decode prog_1_method_32_code 2 = .ok (.iload_n 2, 1) := by decide +kernel
theorem d_1_32_3 : decode prog_1_method_32_code 3 = .ok (.invokevirtual 101, 3) := by decide +kernel
theorem d_1_32_6 : decode prog_1_method_32_code 6 = .ok (.astore 5, 2) := by decide +kernel
theorem d_1_32_8 : decode prog_1_method_32_code 8 = .ok (.aload_n 0, 1) := by decide +kernel
theorem d_1_32_9 : decode prog_1_method_32_code 9 = .ok (.iload_n 1, 1) := by decide +kernel
theorem d_1_32_10 : decode prog_1_method_32_code 10 = .ok (.iload_n 3, 1) := by decide +kernel
theorem d_1_32_11 : decode prog_1_method_32_code 11 = .ok (.invokevirtual 101, 3) := by decide +kernel
theorem d_1_32_14 : decode prog_1_method_32_code 14 = .ok (.astore 6, 2) := by decide +kernel
theorem d_1_32_16 : decode prog_1_method_32_code 16 = .ok (.aload 5, 2) := by decide +kernel
theorem d_1_32_18 : decode prog_1_method_32_code 18 = .ok (.ifnull 24, 3) := by decide +kernel
theorem d_1_32_42 : decode prog_1_method_32_code 42 = .ok (.ldc2_w 191, 3) := by decide +kernel
theorem d_1_32_45 : decode prog_1_method_32_code 45 = .ok (.lreturn, 1) := by decide +kernel
theorem d_1_33_0 : decode prog_1_method_33_code 0 = .ok (.aload_n 0, 1) := by decide +kernel
theorem d_1_33_1 : decode prog_1_method_33_code 1 = .ok (.iload_n 1, 1) := by decide +kernel
theorem d_1_33_2 : decode prog_1_method_33_code 2 = .ok (.iload_n 2, 1) := by decide +kernel
theorem d_1_33_3 : decode prog_1_method_33_code 3 = .ok (.invokevirtual 101, 3) := by decide +kernel
theorem d_1_33_6 : decode prog_1_method_33_code 6 = .ok (.astore 9, 2) := by decide +kernel
theorem d_1_33_8 : decode prog_1_method_33_code 8 = .ok (.aload_n 0, 1) := by decide +kernel
theorem d_1_33_9 : decode prog_1_method_33_code 9 = .ok (.iload 5, 2) := by decide +kernel
theorem d_1_33_11 : decode prog_1_method_33_code 11 = .ok (.iload 6, 2) := by decide +kernel
theorem d_1_33_13 : decode prog_1_method_33_code 13 = .ok (.invokevirtual 101, 3) := by decide +kernel
theorem d_1_33_16 : decode prog_1_method_33_code 16 = .ok (.astore 10, 2) := by decide +kernel
theorem d_1_33_18 : decode prog_1_method_33_code 18 = .ok (.aload 9, 2) := by decide +kernel
theorem d_1_33_20 : decode prog_1_method_33_code 20 = .ok (.ifnull 33, 3) := by decide +kernel
theorem d_1_33_53 : decode prog_1_method_33_code 53 = .ok (.iconst 1, 1) := by decide +kernel
theorem d_1_33_54 : decode prog_1_method_33_code 54 = .ok (.goto 4, 3) := by decide +kernel
theorem d_1_33_58 : decode prog_1_method_33_code 58 = .ok (.istore 11, 2) := by decide +kernel
theorem d_1_33_60 : decode prog_1_method_33_code 60 = .ok (.iload 11, 2) := by decide +kernel
theorem d_1_33_62 : decode prog_1_method_33_code 62 = .ok (.ifCond .ne 24, 3) := by decide +kernel
theorem d_1_33_86 : decode prog_1_method_33_code 86 = .ok (.iconst (-1), 1) := by decide +kernel
theorem d_1_33_87 : decode prog_1_method_33_code 87 = .ok (.ireturn, 1) := by decide +kernel
abbrev Q_S_pieceAt_0 (D : va_G) (ca : Nat → ClassId) (a0 : Nat) (a2 : Nat) (g0 : Nat → Value) (g2 : Nat → Option Nat) (v0 : Int32) (A : Nat → Prop) : Array Value → State → Outcome → State → Prop := va_Qq (S := Unit) (fun (r : Option Nat) (u : Unit) => r = none) (fun u => gB D ca A [(a0, .inr (12, rg 10 g0)), (a2, .inl (ca 4, 2, .inr (.inr (.inr (.inr g2)))))]) A
set_option maxHeartbeats 8000000 in
set_option maxRecDepth 100000 in
theorem c_S_pieceAt_0 (l : Launch) (D : va_G) (ca : Nat → ClassId) (ad av : Nat → Nat) (sz : Nat) (a0 : Nat) (a2 : Nat) (g0 : Nat → Value) (g2 : Nat → Option Nat) (v0 : Int32) (hp0 : gF g0 [(3, .ref a2)]) (hp2 : gF g2 [(0, none), (1, none)]) : Met l ({ cls := "StaveHouse", name := "pieceAt", desc := "(I)LStaveHouse$Piece;" } : Jvm.MethodName) (Cond.code ({ cls := "StaveHouse", name := "pieceAt", desc := "(I)LStaveHouse$Piece;" } : Jvm.MethodName) prog_1_method_6_code 2 (Option.some (Jvm.ClassFile.FieldType.object "StaveHouse$Piece")) :: wAll) ({ frames := 0, cells := 0, slots := 0, locals := 0 } : Room) (va_Pc [.ref a0, .int v0] (gPre D ca ad av [(a0, .inr (12, rg 10 g0)), (a2, .inl (ca 4, 2, .inr (.inr (.inr (.inr g2)))))] sz)) (Q_S_pieceAt_0 D ca a0 a2 g0 g2 v0 (va_A [(a0, .inr (12, rg 10 g0)), (a2, .inl (ca 4, 2, .inr (.inr (.inr (.inr g2)))))] sz)) 0 0 (va_A [(a0, .inr (12, rg 10 g0)), (a2, .inl (ca 4, 2, .inr (.inr (.inr (.inr g2)))))] sz) := by
  refine gMet (Qc := Q_S_pieceAt_0 D ca a0 a2 g0 g2 v0) (lv := [(0, .ref a0), (1, .int v0)]) (by decide) (Nat.le_of_ble_eq_true rfl) rfl (fun A p e s m below meth c ls hx hb hr hml hown hts hlk hnm hl hP hK hD hS hA hX => ?_)
  have hown : s.vm.findClass "StaveHouse" = some m.cls := hown
  have hnm : meth.name = "pieceAt" := hnm
  refine lv_iload_n hx hb d_1_6_0 rfl (lv_at hl 1 rfl) ?_
  refine lv_if_lt (tgt := 9) hx hb d_1_6_1 (by decide) (fun c1 => ?_) (fun c1 => ?_)
  · refine lv_null hx hb d_1_6_9 ?_
    refine lv_goto (tgt := 19) hx hb d_1_6_10 (by decide) ?_
    have hP9 := hP.sub (ws' := [(a0, .inr (12, rg 10 g0)), (a2, .inl (ca 4, 2, .inr (.inr (.inr (.inr g2)))))]) [0, 1] rfl
    have hD9 := hD.sub (ws' := [(a0, .inr (12, rg 10 g0)), (a2, .inl (ca 4, 2, .inr (.inr (.inr (.inr g2)))))]) [0, 1] (by decide) rfl
    refine W.widen (k := 0) (n := 0) (Nat.le_of_ble_eq_true rfl) (Nat.le_of_ble_eq_true rfl) ?_
    exact W.aret (v := .null) hx hb hr (Or.inl ⟨_, rfl⟩) (Or.inl rfl) (fun t ht hW => ⟨⟨none, (), rfl, rfl, by rw [ht]; exact hP9, va_K.moved hW.alike hK, hD9⟩, hS.F ht⟩) hS.2.2 d_1_6_19
  · refine lv_iload_n hx hb d_1_6_4 rfl (lv_at hl 1 rfl) ?_
    refine lv_iconst (v := 2) hx hb d_1_6_5 (by decide) ?_
    refine lv_icmp_lt (tgt := 13) hx hb d_1_6_6 (by decide) (fun c2 => ?_) (fun c2 => ?_)
    · refine lv_aload_n hx hb d_1_6_13 rfl (lv_at hl 0 rfl) ?_
      refine gget hx hb hts inW_12 hown hK hP 0 rfl rfl hp0 0 rfl (by decide) k_2_130 d_1_6_14 ?_
      refine lv_iload_n hx hb d_1_6_17 rfl (lv_at hl 1 rfl) ?_
      have hi3 : vp_in v0 2 := vin2 (by decide) c1 (Int32.not_le.mpr c2)
      rcases v2 hi3 with h0 | h0
      · refine gaald hx hb hK hP 1 4 rfl rfl hp2 0 rfl h0 hi3 d_1_6_18 ?_
        refine W.eq (g2 := F0 m 19 ls [.null]) rfl ?_
        have hP9 := hP.sub (ws' := [(a0, .inr (12, rg 10 g0)), (a2, .inl (ca 4, 2, .inr (.inr (.inr (.inr g2)))))]) [0, 1] rfl
        have hD9 := hD.sub (ws' := [(a0, .inr (12, rg 10 g0)), (a2, .inl (ca 4, 2, .inr (.inr (.inr (.inr g2)))))]) [0, 1] (by decide) rfl
        refine W.widen (k := 0) (n := 0) (Nat.le_of_ble_eq_true rfl) (Nat.le_of_ble_eq_true rfl) ?_
        exact W.aret (v := .null) hx hb hr (Or.inl ⟨_, rfl⟩) (Or.inl rfl) (fun t ht hW => ⟨⟨none, (), rfl, rfl, by rw [ht]; exact hP9, va_K.moved hW.alike hK, hD9⟩, hS.F ht⟩) hS.2.2 d_1_6_19
      · refine gaald hx hb hK hP 1 4 rfl rfl hp2 1 rfl h0 hi3 d_1_6_18 ?_
        refine W.eq (g2 := F0 m 19 ls [.null]) rfl ?_
        have hP9 := hP.sub (ws' := [(a0, .inr (12, rg 10 g0)), (a2, .inl (ca 4, 2, .inr (.inr (.inr (.inr g2)))))]) [0, 1] rfl
        have hD9 := hD.sub (ws' := [(a0, .inr (12, rg 10 g0)), (a2, .inl (ca 4, 2, .inr (.inr (.inr (.inr g2)))))]) [0, 1] (by decide) rfl
        refine W.widen (k := 0) (n := 0) (Nat.le_of_ble_eq_true rfl) (Nat.le_of_ble_eq_true rfl) ?_
        exact W.aret (v := .null) hx hb hr (Or.inl ⟨_, rfl⟩) (Or.inl rfl) (fun t ht hW => ⟨⟨none, (), rfl, rfl, by rw [ht]; exact hP9, va_K.moved hW.alike hK, hD9⟩, hS.F ht⟩) hS.2.2 d_1_6_19
    · refine lv_null hx hb d_1_6_9 ?_
      refine lv_goto (tgt := 19) hx hb d_1_6_10 (by decide) ?_
      have hP9 := hP.sub (ws' := [(a0, .inr (12, rg 10 g0)), (a2, .inl (ca 4, 2, .inr (.inr (.inr (.inr g2)))))]) [0, 1] rfl
      have hD9 := hD.sub (ws' := [(a0, .inr (12, rg 10 g0)), (a2, .inl (ca 4, 2, .inr (.inr (.inr (.inr g2)))))]) [0, 1] (by decide) rfl
      refine W.widen (k := 0) (n := 0) (Nat.le_of_ble_eq_true rfl) (Nat.le_of_ble_eq_true rfl) ?_
      exact W.aret (v := .null) hx hb hr (Or.inl ⟨_, rfl⟩) (Or.inl rfl) (fun t ht hW => ⟨⟨none, (), rfl, rfl, by rw [ht]; exact hP9, va_K.moved hW.alike hK, hD9⟩, hS.F ht⟩) hS.2.2 d_1_6_19
abbrev Q_S_look_0 (D : va_G) (ca : Nat → ClassId) (a0 : Nat) (a2 : Nat) (g0 : Nat → Value) (g2 : Nat → Option Nat) (v0 : Int32) (v1 : Int32) (A : Nat → Prop) : Array Value → State → Outcome → State → Prop := va_Qi (S := Unit) (fun (r : Int32) (u : Unit) => r = (-1)) (fun u => gB D ca A [(a0, .inr (12, rg 10 g0)), (a2, .inl (ca 4, 2, .inr (.inr (.inr (.inr g2)))))]) A
set_option maxHeartbeats 8000000 in
set_option maxRecDepth 100000 in
theorem c_S_look_0 (l : Launch) (D : va_G) (ca : Nat → ClassId) (ad av : Nat → Nat) (sz : Nat) (a0 : Nat) (a2 : Nat) (g0 : Nat → Value) (g2 : Nat → Option Nat) (v0 : Int32) (v1 : Int32) (hp0 : gF g0 [(3, .ref a2)]) (hp2 : gF g2 [(0, none), (1, none)]) : Met l ({ cls := "StaveHouse", name := "look", desc := "(II)I" } : Jvm.MethodName) (Cond.code ({ cls := "StaveHouse", name := "look", desc := "(II)I" } : Jvm.MethodName) prog_1_method_10_code 4 (Option.some Jvm.ClassFile.FieldType.int) :: wAll) ({ frames := 1, cells := 0, slots := 0, locals := 21 } : Room) (va_Pc [.ref a0, .int v0, .int v1] (gPre D ca ad av [(a0, .inr (12, rg 10 g0)), (a2, .inl (ca 4, 2, .inr (.inr (.inr (.inr g2)))))] sz)) (Q_S_look_0 D ca a0 a2 g0 g2 v0 v1 (va_A [(a0, .inr (12, rg 10 g0)), (a2, .inl (ca 4, 2, .inr (.inr (.inr (.inr g2)))))] sz)) 0 0 (va_A [(a0, .inr (12, rg 10 g0)), (a2, .inl (ca 4, 2, .inr (.inr (.inr (.inr g2)))))] sz) := by
  refine gMet (Qc := Q_S_look_0 D ca a0 a2 g0 g2 v0 v1) (lv := [(0, .ref a0), (1, .int v0), (2, .int v1)]) (by decide) (Nat.le_of_ble_eq_true rfl) rfl (fun A p e s m below meth c ls hx hb hr hml hown hts hlk hnm hl hP hK hD hS hA hX => ?_)
  have hown : s.vm.findClass "StaveHouse" = some m.cls := hown
  have hnm : meth.name = "look" := hnm
  refine lv_aload_n hx hb d_1_10_0 rfl (lv_at hl 0 rfl) ?_
  refine lv_iload_n hx hb d_1_10_1 rfl (lv_at hl 1 rfl) ?_
  have hFc1 := va_free (wc := [(a0, .inr (12, rg 10 g0)), (a2, .inl (ca 4, 2, .inr (.inr (.inr (.inr g2)))))]) hD hS hA [0, 1] rfl
  refine va_callq (va_runV (As := [.int v0]) (rest := []) ⟨hx, hb, hml, hown, hts⟩ (c_S_pieceAt_0 l D ca ad av s.heap.size a0 a2 g0 g2 v0 (hp0.sub [0] rfl) (hp2.sub [0, 1] rfl)) (cwV 1 hts (gdV k_5_182 k_5_184 ks_65 k_1_1 k_5_185) rfl rfl rfl (by decide +kernel) ⟨Nat.le_of_ble_eq_true rfl, Nat.le_of_ble_eq_true rfl⟩) (gPV hP hD hK hS hA hX [0, 1] (by decide) rfl a0 [.int v0] 0 (ci := 12) (r := (RX12, TX12, 10)) rfl rfl) rfl rfl hl.1 rfl (lv_room (Nat.le_of_ble_eq_true rfl)) d_1_10_2 ⟨Nat.le_of_ble_eq_true rfl, Nat.le_of_ble_eq_true rfl⟩) hS (fun q _ h => hFc1 q h) hFc1 (fun r1 u1 t1 H1 locs1 ht1 hvm1 hw1 hB1 hz1 hk1 hS1 => ?_)
  have hr1 := hw1
  obtain ⟨hP1, hD1⟩ := gJoin (wr := []) (w1 := [(a0, .inr (12, rg 10 g0)), (a2, .inl (ca 4, 2, .inr (.inr (.inr (.inr g2)))))]) hP hD [0, 1] [] rfl rfl (by decide) (by decide) hk1 hFc1 ht1 hB1
  have hP1 : va_P D cls [(a0, .inr (12, rg 10 g0)), (a2, .inl (ca 4, 2, .inr (.inr (.inr (.inr g2)))))] H1 := hP1
  have hD1 : va_D A [(a0, .inr (12, rg 10 g0)), (a2, .inl (ca 4, 2, .inr (.inr (.inr (.inr g2)))))] := hD1
  refine W.widen (k := 0) (n := 0) (Nat.le_of_ble_eq_true rfl) (Nat.le_of_ble_eq_true rfl) ?_
  subst hr1
  refine W.eq (g2 := F0 m 5 ls [.null]) rfl ?_
  refine lv_astore_nN (lv' := [(3, .null), (0, .ref a0), (1, .int v0), (2, .int v1)]) hx hb d_1_10_5 rfl hl (by decide) rfl (fun ls hl => ?_)
  refine lv_aload_nN hx hb d_1_10_6 rfl (lv_at hl 0 rfl) ?_
  refine lv_ifnonnullN hx hb d_1_10_7 ?_
  refine lv_iconst (v := (-1)) hx hb d_1_10_10 (by decide) ?_
  have hP9 := hP1.sub (ws' := [(a0, .inr (12, rg 10 g0)), (a2, .inl (ca 4, 2, .inr (.inr (.inr (.inr g2)))))]) [0, 1] rfl
  have hD9 := hD1.sub (ws' := [(a0, .inr (12, rg 10 g0)), (a2, .inl (ca 4, 2, .inr (.inr (.inr (.inr g2)))))]) [0, 1] (by decide) rfl
  refine W.widen (k := 0) (n := 0) (Nat.le_of_ble_eq_true rfl) (Nat.le_of_ble_eq_true rfl) ?_
  exact W.iret (v := (-1)) hx hb hr (fun t ht hW => ⟨⟨(-1), (), rfl, rfl, by rw [ht]; exact hP9, va_K.moved hW.alike hK, hD9⟩, hS1.F ht⟩) hS1.2.2 d_1_10_11
abbrev Q_S_partAt_0 (D : va_G) (ca : Nat → ClassId) (a0 : Nat) (a2 : Nat) (g0 : Nat → Value) (g2 : Nat → Option Nat) (v0 : Int32) (v1 : Int32) (A : Nat → Prop) : Array Value → State → Outcome → State → Prop := va_Qq (S := Unit) (fun (r : Option Nat) (u : Unit) => r = none) (fun u => gB D ca A [(a0, .inr (12, rg 10 g0)), (a2, .inl (ca 4, 2, .inr (.inr (.inr (.inr g2)))))]) A
set_option maxHeartbeats 8000000 in
set_option maxRecDepth 100000 in
theorem c_S_partAt_0 (l : Launch) (D : va_G) (ca : Nat → ClassId) (ad av : Nat → Nat) (sz : Nat) (a0 : Nat) (a2 : Nat) (g0 : Nat → Value) (g2 : Nat → Option Nat) (v0 : Int32) (v1 : Int32) (hp0 : gF g0 [(3, .ref a2)]) (hp2 : gF g2 [(0, none), (1, none)]) : Met l ({ cls := "StaveHouse", name := "partAt", desc := "(II)LStaveHouse$Part;" } : Jvm.MethodName) (Cond.code ({ cls := "StaveHouse", name := "partAt", desc := "(II)LStaveHouse$Part;" } : Jvm.MethodName) prog_1_method_7_code 4 (Option.some (Jvm.ClassFile.FieldType.object "StaveHouse$Part")) :: wAll) ({ frames := 1, cells := 0, slots := 0, locals := 21 } : Room) (va_Pc [.ref a0, .int v0, .int v1] (gPre D ca ad av [(a0, .inr (12, rg 10 g0)), (a2, .inl (ca 4, 2, .inr (.inr (.inr (.inr g2)))))] sz)) (Q_S_partAt_0 D ca a0 a2 g0 g2 v0 v1 (va_A [(a0, .inr (12, rg 10 g0)), (a2, .inl (ca 4, 2, .inr (.inr (.inr (.inr g2)))))] sz)) 0 0 (va_A [(a0, .inr (12, rg 10 g0)), (a2, .inl (ca 4, 2, .inr (.inr (.inr (.inr g2)))))] sz) := by
  refine gMet (Qc := Q_S_partAt_0 D ca a0 a2 g0 g2 v0 v1) (lv := [(0, .ref a0), (1, .int v0), (2, .int v1)]) (by decide) (Nat.le_of_ble_eq_true rfl) rfl (fun A p e s m below meth c ls hx hb hr hml hown hts hlk hnm hl hP hK hD hS hA hX => ?_)
  have hown : s.vm.findClass "StaveHouse" = some m.cls := hown
  have hnm : meth.name = "partAt" := hnm
  refine lv_aload_n hx hb d_1_7_0 rfl (lv_at hl 0 rfl) ?_
  refine lv_iload_n hx hb d_1_7_1 rfl (lv_at hl 1 rfl) ?_
  have hFc1 := va_free (wc := [(a0, .inr (12, rg 10 g0)), (a2, .inl (ca 4, 2, .inr (.inr (.inr (.inr g2)))))]) hD hS hA [0, 1] rfl
  refine va_callq (va_runV (As := [.int v0]) (rest := []) ⟨hx, hb, hml, hown, hts⟩ (c_S_pieceAt_0 l D ca ad av s.heap.size a0 a2 g0 g2 v0 (hp0.sub [0] rfl) (hp2.sub [0, 1] rfl)) (cwV 1 hts (gdV k_5_182 k_5_184 ks_65 k_1_1 k_5_185) rfl rfl rfl (by decide +kernel) ⟨Nat.le_of_ble_eq_true rfl, Nat.le_of_ble_eq_true rfl⟩) (gPV hP hD hK hS hA hX [0, 1] (by decide) rfl a0 [.int v0] 0 (ci := 12) (r := (RX12, TX12, 10)) rfl rfl) rfl rfl hl.1 rfl (lv_room (Nat.le_of_ble_eq_true rfl)) d_1_7_2 ⟨Nat.le_of_ble_eq_true rfl, Nat.le_of_ble_eq_true rfl⟩) hS (fun q _ h => hFc1 q h) hFc1 (fun r1 u1 t1 H1 locs1 ht1 hvm1 hw1 hB1 hz1 hk1 hS1 => ?_)
  have hr1 := hw1
  obtain ⟨hP1, hD1⟩ := gJoin (wr := []) (w1 := [(a0, .inr (12, rg 10 g0)), (a2, .inl (ca 4, 2, .inr (.inr (.inr (.inr g2)))))]) hP hD [0, 1] [] rfl rfl (by decide) (by decide) hk1 hFc1 ht1 hB1
  have hP1 : va_P D cls [(a0, .inr (12, rg 10 g0)), (a2, .inl (ca 4, 2, .inr (.inr (.inr (.inr g2)))))] H1 := hP1
  have hD1 : va_D A [(a0, .inr (12, rg 10 g0)), (a2, .inl (ca 4, 2, .inr (.inr (.inr (.inr g2)))))] := hD1
  refine W.widen (k := 0) (n := 0) (Nat.le_of_ble_eq_true rfl) (Nat.le_of_ble_eq_true rfl) ?_
  subst hr1
  refine W.eq (g2 := F0 m 5 ls [.null]) rfl ?_
  refine lv_astore_nN (lv' := [(3, .null), (0, .ref a0), (1, .int v0), (2, .int v1)]) hx hb d_1_7_5 rfl hl (by decide) rfl (fun ls hl => ?_)
  refine lv_aload_nN hx hb d_1_7_6 rfl (lv_at hl 0 rfl) ?_
  refine lv_ifnullN (tgt := 22) hx hb d_1_7_7 (by decide) ?_
  refine lv_null hx hb d_1_7_22 ?_
  refine lv_goto (tgt := 32) hx hb d_1_7_23 (by decide) ?_
  have hP9 := hP1.sub (ws' := [(a0, .inr (12, rg 10 g0)), (a2, .inl (ca 4, 2, .inr (.inr (.inr (.inr g2)))))]) [0, 1] rfl
  have hD9 := hD1.sub (ws' := [(a0, .inr (12, rg 10 g0)), (a2, .inl (ca 4, 2, .inr (.inr (.inr (.inr g2)))))]) [0, 1] (by decide) rfl
  refine W.widen (k := 0) (n := 0) (Nat.le_of_ble_eq_true rfl) (Nat.le_of_ble_eq_true rfl) ?_
  exact W.aret (v := .null) hx hb hr (Or.inl ⟨_, rfl⟩) (Or.inl rfl) (fun t ht hW => ⟨⟨none, (), rfl, rfl, by rw [ht]; exact hP9, va_K.moved hW.alike hK, hD9⟩, hS1.F ht⟩) hS1.2.2 d_1_7_32
abbrev Q_S_voice_0 (D : va_G) (ca : Nat → ClassId) (a0 : Nat) (a2 : Nat) (g0 : Nat → Value) (g2 : Nat → Option Nat) (v0 : Int32) (v1 : Int32) (v2 : Int32) (A : Nat → Prop) : Array Value → State → Outcome → State → Prop := va_Qi (S := Unit) (fun (r : Int32) (u : Unit) => r = (-1)) (fun u => gB D ca A [(a0, .inr (12, rg 10 g0)), (a2, .inl (ca 4, 2, .inr (.inr (.inr (.inr g2)))))]) A
set_option maxHeartbeats 8000000 in
set_option maxRecDepth 100000 in
theorem c_S_voice_0 (l : Launch) (D : va_G) (ca : Nat → ClassId) (ad av : Nat → Nat) (sz : Nat) (a0 : Nat) (a2 : Nat) (g0 : Nat → Value) (g2 : Nat → Option Nat) (v0 : Int32) (v1 : Int32) (v2 : Int32) (hp0 : gF g0 [(3, .ref a2)]) (hp2 : gF g2 [(0, none), (1, none)]) : Met l ({ cls := "StaveHouse", name := "voice", desc := "(III)I" } : Jvm.MethodName) (Cond.code ({ cls := "StaveHouse", name := "voice", desc := "(III)I" } : Jvm.MethodName) prog_1_method_11_code 5 (Option.some Jvm.ClassFile.FieldType.int) :: wAll) ({ frames := 2, cells := 0, slots := 0, locals := 44 } : Room) (va_Pc [.ref a0, .int v0, .int v1, .int v2] (gPre D ca ad av [(a0, .inr (12, rg 10 g0)), (a2, .inl (ca 4, 2, .inr (.inr (.inr (.inr g2)))))] sz)) (Q_S_voice_0 D ca a0 a2 g0 g2 v0 v1 v2 (va_A [(a0, .inr (12, rg 10 g0)), (a2, .inl (ca 4, 2, .inr (.inr (.inr (.inr g2)))))] sz)) 0 0 (va_A [(a0, .inr (12, rg 10 g0)), (a2, .inl (ca 4, 2, .inr (.inr (.inr (.inr g2)))))] sz) := by
  refine gMet (Qc := Q_S_voice_0 D ca a0 a2 g0 g2 v0 v1 v2) (lv := [(0, .ref a0), (1, .int v0), (2, .int v1), (3, .int v2)]) (by decide) (Nat.le_of_ble_eq_true rfl) rfl (fun A p e s m below meth c ls hx hb hr hml hown hts hlk hnm hl hP hK hD hS hA hX => ?_)
  have hown : s.vm.findClass "StaveHouse" = some m.cls := hown
  have hnm : meth.name = "voice" := hnm
  refine lv_aload_n hx hb d_1_11_0 rfl (lv_at hl 0 rfl) ?_
  refine lv_iload_n hx hb d_1_11_1 rfl (lv_at hl 1 rfl) ?_
  refine lv_iload_n hx hb d_1_11_2 rfl (lv_at hl 2 rfl) ?_
  have hFc1 := va_free (wc := [(a0, .inr (12, rg 10 g0)), (a2, .inl (ca 4, 2, .inr (.inr (.inr (.inr g2)))))]) hD hS hA [0, 1] rfl
  refine va_callq (va_runV (As := [.int v0, .int v1]) (rest := []) ⟨hx, hb, hml, hown, hts⟩ (c_S_partAt_0 l D ca ad av s.heap.size a0 a2 g0 g2 v0 v1 (hp0.sub [0] rfl) (hp2.sub [0, 1] rfl)) (cwV 2 hts (gdV k_6_168 k_6_170 ks_77 k_1_1 k_6_171) rfl rfl rfl (by decide +kernel) ⟨Nat.le_of_ble_eq_true rfl, Nat.le_of_ble_eq_true rfl⟩) (gPV hP hD hK hS hA hX [0, 1] (by decide) rfl a0 [.int v0, .int v1] 0 (ci := 12) (r := (RX12, TX12, 10)) rfl rfl) rfl rfl hl.1 rfl (lv_room (Nat.le_of_ble_eq_true rfl)) d_1_11_3 ⟨Nat.le_of_ble_eq_true rfl, Nat.le_of_ble_eq_true rfl⟩) hS (fun q _ h => hFc1 q h) hFc1 (fun r1 u1 t1 H1 locs1 ht1 hvm1 hw1 hB1 hz1 hk1 hS1 => ?_)
  have hr1 := hw1
  obtain ⟨hP1, hD1⟩ := gJoin (wr := []) (w1 := [(a0, .inr (12, rg 10 g0)), (a2, .inl (ca 4, 2, .inr (.inr (.inr (.inr g2)))))]) hP hD [0, 1] [] rfl rfl (by decide) (by decide) hk1 hFc1 ht1 hB1
  have hP1 : va_P D cls [(a0, .inr (12, rg 10 g0)), (a2, .inl (ca 4, 2, .inr (.inr (.inr (.inr g2)))))] H1 := hP1
  have hD1 : va_D A [(a0, .inr (12, rg 10 g0)), (a2, .inl (ca 4, 2, .inr (.inr (.inr (.inr g2)))))] := hD1
  refine W.widen (k := 0) (n := 0) (Nat.le_of_ble_eq_true rfl) (Nat.le_of_ble_eq_true rfl) ?_
  subst hr1
  refine W.eq (g2 := F0 m 6 ls [.null]) rfl ?_
  refine lv_astoreN (lv' := [(4, .null), (0, .ref a0), (1, .int v0), (2, .int v1), (3, .int v2)]) hx hb d_1_11_6 hl (by decide) rfl (fun ls hl => ?_)
  refine lv_aloadN hx hb d_1_11_8 (lv_at hl 0 rfl) ?_
  refine lv_ifnonnullN hx hb d_1_11_10 ?_
  refine lv_iconst (v := (-1)) hx hb d_1_11_13 (by decide) ?_
  have hP9 := hP1.sub (ws' := [(a0, .inr (12, rg 10 g0)), (a2, .inl (ca 4, 2, .inr (.inr (.inr (.inr g2)))))]) [0, 1] rfl
  have hD9 := hD1.sub (ws' := [(a0, .inr (12, rg 10 g0)), (a2, .inl (ca 4, 2, .inr (.inr (.inr (.inr g2)))))]) [0, 1] (by decide) rfl
  refine W.widen (k := 0) (n := 0) (Nat.le_of_ble_eq_true rfl) (Nat.le_of_ble_eq_true rfl) ?_
  exact W.iret (v := (-1)) hx hb hr (fun t ht hW => ⟨⟨(-1), (), rfl, rfl, by rw [ht]; exact hP9, va_K.moved hW.alike hK, hD9⟩, hS1.F ht⟩) hS1.2.2 d_1_11_14
abbrev Q_S_name_0 (D : va_G) (ca : Nat → ClassId) (a0 : Nat) (a2 : Nat) (g0 : Nat → Value) (g2 : Nat → Option Nat) (v0 : Int32) (v1 : Int32) (A : Nat → Prop) : Array Value → State → Outcome → State → Prop := va_Ql (S := Unit) (fun (r : Int64) (u : Unit) => r = 0) (fun u => gB D ca A [(a0, .inr (12, rg 10 g0)), (a2, .inl (ca 4, 2, .inr (.inr (.inr (.inr g2)))))]) A
set_option maxHeartbeats 8000000 in
set_option maxRecDepth 100000 in
theorem c_S_name_0 (l : Launch) (D : va_G) (ca : Nat → ClassId) (ad av : Nat → Nat) (sz : Nat) (a0 : Nat) (a2 : Nat) (g0 : Nat → Value) (g2 : Nat → Option Nat) (v0 : Int32) (v1 : Int32) (hp0 : gF g0 [(3, .ref a2)]) (hp2 : gF g2 [(0, none), (1, none)]) : Met l ({ cls := "StaveHouse", name := "name", desc := "(II)J" } : Jvm.MethodName) (Cond.code ({ cls := "StaveHouse", name := "name", desc := "(II)J" } : Jvm.MethodName) prog_1_method_12_code 4 (Option.some Jvm.ClassFile.FieldType.long) :: wAll) ({ frames := 2, cells := 0, slots := 0, locals := 44 } : Room) (va_Pc [.ref a0, .int v0, .int v1] (gPre D ca ad av [(a0, .inr (12, rg 10 g0)), (a2, .inl (ca 4, 2, .inr (.inr (.inr (.inr g2)))))] sz)) (Q_S_name_0 D ca a0 a2 g0 g2 v0 v1 (va_A [(a0, .inr (12, rg 10 g0)), (a2, .inl (ca 4, 2, .inr (.inr (.inr (.inr g2)))))] sz)) 0 0 (va_A [(a0, .inr (12, rg 10 g0)), (a2, .inl (ca 4, 2, .inr (.inr (.inr (.inr g2)))))] sz) := by
  refine gMet (Qc := Q_S_name_0 D ca a0 a2 g0 g2 v0 v1) (lv := [(0, .ref a0), (1, .int v0), (2, .int v1)]) (by decide) (Nat.le_of_ble_eq_true rfl) rfl (fun A p e s m below meth c ls hx hb hr hml hown hts hlk hnm hl hP hK hD hS hA hX => ?_)
  have hown : s.vm.findClass "StaveHouse" = some m.cls := hown
  have hnm : meth.name = "name" := hnm
  refine lv_aload_n hx hb d_1_12_0 rfl (lv_at hl 0 rfl) ?_
  refine lv_iload_n hx hb d_1_12_1 rfl (lv_at hl 1 rfl) ?_
  refine lv_iload_n hx hb d_1_12_2 rfl (lv_at hl 2 rfl) ?_
  have hFc1 := va_free (wc := [(a0, .inr (12, rg 10 g0)), (a2, .inl (ca 4, 2, .inr (.inr (.inr (.inr g2)))))]) hD hS hA [0, 1] rfl
  refine va_callq (va_runV (As := [.int v0, .int v1]) (rest := []) ⟨hx, hb, hml, hown, hts⟩ (c_S_partAt_0 l D ca ad av s.heap.size a0 a2 g0 g2 v0 v1 (hp0.sub [0] rfl) (hp2.sub [0, 1] rfl)) (cwV 2 hts (gdV k_6_168 k_6_170 ks_77 k_1_1 k_6_171) rfl rfl rfl (by decide +kernel) ⟨Nat.le_of_ble_eq_true rfl, Nat.le_of_ble_eq_true rfl⟩) (gPV hP hD hK hS hA hX [0, 1] (by decide) rfl a0 [.int v0, .int v1] 0 (ci := 12) (r := (RX12, TX12, 10)) rfl rfl) rfl rfl hl.1 rfl (lv_room (Nat.le_of_ble_eq_true rfl)) d_1_12_3 ⟨Nat.le_of_ble_eq_true rfl, Nat.le_of_ble_eq_true rfl⟩) hS (fun q _ h => hFc1 q h) hFc1 (fun r1 u1 t1 H1 locs1 ht1 hvm1 hw1 hB1 hz1 hk1 hS1 => ?_)
  have hr1 := hw1
  obtain ⟨hP1, hD1⟩ := gJoin (wr := []) (w1 := [(a0, .inr (12, rg 10 g0)), (a2, .inl (ca 4, 2, .inr (.inr (.inr (.inr g2)))))]) hP hD [0, 1] [] rfl rfl (by decide) (by decide) hk1 hFc1 ht1 hB1
  have hP1 : va_P D cls [(a0, .inr (12, rg 10 g0)), (a2, .inl (ca 4, 2, .inr (.inr (.inr (.inr g2)))))] H1 := hP1
  have hD1 : va_D A [(a0, .inr (12, rg 10 g0)), (a2, .inl (ca 4, 2, .inr (.inr (.inr (.inr g2)))))] := hD1
  refine W.widen (k := 0) (n := 0) (Nat.le_of_ble_eq_true rfl) (Nat.le_of_ble_eq_true rfl) ?_
  subst hr1
  refine W.eq (g2 := F0 m 6 ls [.null]) rfl ?_
  refine lv_astore_nN (lv' := [(3, .null), (0, .ref a0), (1, .int v0), (2, .int v1)]) hx hb d_1_12_6 rfl hl (by decide) rfl (fun ls hl => ?_)
  refine lv_aload_nN hx hb d_1_12_7 rfl (lv_at hl 0 rfl) ?_
  refine lv_ifnonnullN hx hb d_1_12_8 ?_
  refine lv_lconst (v := 0) hx hb d_1_12_11 (by decide) ?_
  refine lv_goto (tgt := 19) hx hb d_1_12_12 (by decide) ?_
  have hP9 := hP1.sub (ws' := [(a0, .inr (12, rg 10 g0)), (a2, .inl (ca 4, 2, .inr (.inr (.inr (.inr g2)))))]) [0, 1] rfl
  have hD9 := hD1.sub (ws' := [(a0, .inr (12, rg 10 g0)), (a2, .inl (ca 4, 2, .inr (.inr (.inr (.inr g2)))))]) [0, 1] (by decide) rfl
  refine W.widen (k := 0) (n := 0) (Nat.le_of_ble_eq_true rfl) (Nat.le_of_ble_eq_true rfl) ?_
  exact W.lret (v := 0) hx hb hr (fun t ht hW => ⟨⟨0, (), rfl, rfl, by rw [ht]; exact hP9, va_K.moved hW.alike hK, hD9⟩, hS1.F ht⟩) hS1.2.2 d_1_12_19
abbrev Q_S_eventAt_0 (D : va_G) (ca : Nat → ClassId) (a0 : Nat) (a2 : Nat) (g0 : Nat → Value) (g2 : Nat → Option Nat) (v0 : Int32) (v1 : Int32) (v2 : Int32) (A : Nat → Prop) : Array Value → State → Outcome → State → Prop := va_Qq (S := Unit) (fun (r : Option Nat) (u : Unit) => r = none) (fun u => gB D ca A [(a0, .inr (12, rg 10 g0)), (a2, .inl (ca 4, 2, .inr (.inr (.inr (.inr g2)))))]) A
set_option maxHeartbeats 8000000 in
set_option maxRecDepth 100000 in
theorem c_S_eventAt_0 (l : Launch) (D : va_G) (ca : Nat → ClassId) (ad av : Nat → Nat) (sz : Nat) (a0 : Nat) (a2 : Nat) (g0 : Nat → Value) (g2 : Nat → Option Nat) (v0 : Int32) (v1 : Int32) (v2 : Int32) (hp0 : gF g0 [(3, .ref a2)]) (hp2 : gF g2 [(0, none), (1, none)]) : Met l ({ cls := "StaveHouse", name := "eventAt", desc := "(III)LStaveHouse$Event;" } : Jvm.MethodName) (Cond.code ({ cls := "StaveHouse", name := "eventAt", desc := "(III)LStaveHouse$Event;" } : Jvm.MethodName) prog_1_method_8_code 5 (Option.some (Jvm.ClassFile.FieldType.object "StaveHouse$Event")) :: wAll) ({ frames := 2, cells := 0, slots := 0, locals := 44 } : Room) (va_Pc [.ref a0, .int v0, .int v1, .int v2] (gPre D ca ad av [(a0, .inr (12, rg 10 g0)), (a2, .inl (ca 4, 2, .inr (.inr (.inr (.inr g2)))))] sz)) (Q_S_eventAt_0 D ca a0 a2 g0 g2 v0 v1 v2 (va_A [(a0, .inr (12, rg 10 g0)), (a2, .inl (ca 4, 2, .inr (.inr (.inr (.inr g2)))))] sz)) 0 0 (va_A [(a0, .inr (12, rg 10 g0)), (a2, .inl (ca 4, 2, .inr (.inr (.inr (.inr g2)))))] sz) := by
  refine gMet (Qc := Q_S_eventAt_0 D ca a0 a2 g0 g2 v0 v1 v2) (lv := [(0, .ref a0), (1, .int v0), (2, .int v1), (3, .int v2)]) (by decide) (Nat.le_of_ble_eq_true rfl) rfl (fun A p e s m below meth c ls hx hb hr hml hown hts hlk hnm hl hP hK hD hS hA hX => ?_)
  have hown : s.vm.findClass "StaveHouse" = some m.cls := hown
  have hnm : meth.name = "eventAt" := hnm
  refine lv_aload_n hx hb d_1_8_0 rfl (lv_at hl 0 rfl) ?_
  refine lv_iload_n hx hb d_1_8_1 rfl (lv_at hl 1 rfl) ?_
  refine lv_iload_n hx hb d_1_8_2 rfl (lv_at hl 2 rfl) ?_
  have hFc1 := va_free (wc := [(a0, .inr (12, rg 10 g0)), (a2, .inl (ca 4, 2, .inr (.inr (.inr (.inr g2)))))]) hD hS hA [0, 1] rfl
  refine va_callq (va_runV (As := [.int v0, .int v1]) (rest := []) ⟨hx, hb, hml, hown, hts⟩ (c_S_partAt_0 l D ca ad av s.heap.size a0 a2 g0 g2 v0 v1 (hp0.sub [0] rfl) (hp2.sub [0, 1] rfl)) (cwV 2 hts (gdV k_6_168 k_6_170 ks_77 k_1_1 k_6_171) rfl rfl rfl (by decide +kernel) ⟨Nat.le_of_ble_eq_true rfl, Nat.le_of_ble_eq_true rfl⟩) (gPV hP hD hK hS hA hX [0, 1] (by decide) rfl a0 [.int v0, .int v1] 0 (ci := 12) (r := (RX12, TX12, 10)) rfl rfl) rfl rfl hl.1 rfl (lv_room (Nat.le_of_ble_eq_true rfl)) d_1_8_3 ⟨Nat.le_of_ble_eq_true rfl, Nat.le_of_ble_eq_true rfl⟩) hS (fun q _ h => hFc1 q h) hFc1 (fun r1 u1 t1 H1 locs1 ht1 hvm1 hw1 hB1 hz1 hk1 hS1 => ?_)
  have hr1 := hw1
  obtain ⟨hP1, hD1⟩ := gJoin (wr := []) (w1 := [(a0, .inr (12, rg 10 g0)), (a2, .inl (ca 4, 2, .inr (.inr (.inr (.inr g2)))))]) hP hD [0, 1] [] rfl rfl (by decide) (by decide) hk1 hFc1 ht1 hB1
  have hP1 : va_P D cls [(a0, .inr (12, rg 10 g0)), (a2, .inl (ca 4, 2, .inr (.inr (.inr (.inr g2)))))] H1 := hP1
  have hD1 : va_D A [(a0, .inr (12, rg 10 g0)), (a2, .inl (ca 4, 2, .inr (.inr (.inr (.inr g2)))))] := hD1
  refine W.widen (k := 0) (n := 0) (Nat.le_of_ble_eq_true rfl) (Nat.le_of_ble_eq_true rfl) ?_
  subst hr1
  refine W.eq (g2 := F0 m 6 ls [.null]) rfl ?_
  refine lv_astoreN (lv' := [(4, .null), (0, .ref a0), (1, .int v0), (2, .int v1), (3, .int v2)]) hx hb d_1_8_6 hl (by decide) rfl (fun ls hl => ?_)
  refine lv_aloadN hx hb d_1_8_8 (lv_at hl 0 rfl) ?_
  refine lv_ifnullN (tgt := 26) hx hb d_1_8_10 (by decide) ?_
  refine lv_null hx hb d_1_8_26 ?_
  refine lv_goto (tgt := 37) hx hb d_1_8_27 (by decide) ?_
  have hP9 := hP1.sub (ws' := [(a0, .inr (12, rg 10 g0)), (a2, .inl (ca 4, 2, .inr (.inr (.inr (.inr g2)))))]) [0, 1] rfl
  have hD9 := hD1.sub (ws' := [(a0, .inr (12, rg 10 g0)), (a2, .inl (ca 4, 2, .inr (.inr (.inr (.inr g2)))))]) [0, 1] (by decide) rfl
  refine W.widen (k := 0) (n := 0) (Nat.le_of_ble_eq_true rfl) (Nat.le_of_ble_eq_true rfl) ?_
  exact W.aret (v := .null) hx hb hr (Or.inl ⟨_, rfl⟩) (Or.inl rfl) (fun t ht hW => ⟨⟨none, (), rfl, rfl, by rw [ht]; exact hP9, va_K.moved hW.alike hK, hD9⟩, hS1.F ht⟩) hS1.2.2 d_1_8_37
abbrev Q_S_event_0 (D : va_G) (ca : Nat → ClassId) (a0 : Nat) (a2 : Nat) (g0 : Nat → Value) (g2 : Nat → Option Nat) (v0 : Int32) (v1 : Int32) (v2 : Int32) (v3 : Int32) (A : Nat → Prop) : Array Value → State → Outcome → State → Prop := va_Ql (S := Unit) (fun (r : Int64) (u : Unit) => r = (-1)) (fun u => gB D ca A [(a0, .inr (12, rg 10 g0)), (a2, .inl (ca 4, 2, .inr (.inr (.inr (.inr g2)))))]) A
set_option maxHeartbeats 8000000 in
set_option maxRecDepth 100000 in
theorem c_S_event_0 (l : Launch) (D : va_G) (ca : Nat → ClassId) (ad av : Nat → Nat) (sz : Nat) (a0 : Nat) (a2 : Nat) (g0 : Nat → Value) (g2 : Nat → Option Nat) (v0 : Int32) (v1 : Int32) (v2 : Int32) (v3 : Int32) (hp0 : gF g0 [(3, .ref a2)]) (hp2 : gF g2 [(0, none), (1, none)]) : Met l ({ cls := "StaveHouse", name := "event", desc := "(IIII)J" } : Jvm.MethodName) (Cond.code ({ cls := "StaveHouse", name := "event", desc := "(IIII)J" } : Jvm.MethodName) prog_1_method_13_code 6 (Option.some Jvm.ClassFile.FieldType.long) :: wAll) ({ frames := 3, cells := 0, slots := 0, locals := 68 } : Room) (va_Pc [.ref a0, .int v0, .int v1, .int v2, .int v3] (gPre D ca ad av [(a0, .inr (12, rg 10 g0)), (a2, .inl (ca 4, 2, .inr (.inr (.inr (.inr g2)))))] sz)) (Q_S_event_0 D ca a0 a2 g0 g2 v0 v1 v2 v3 (va_A [(a0, .inr (12, rg 10 g0)), (a2, .inl (ca 4, 2, .inr (.inr (.inr (.inr g2)))))] sz)) 0 0 (va_A [(a0, .inr (12, rg 10 g0)), (a2, .inl (ca 4, 2, .inr (.inr (.inr (.inr g2)))))] sz) := by
  refine gMet (Qc := Q_S_event_0 D ca a0 a2 g0 g2 v0 v1 v2 v3) (lv := [(0, .ref a0), (1, .int v0), (2, .int v1), (3, .int v2), (4, .int v3)]) (by decide) (Nat.le_of_ble_eq_true rfl) rfl (fun A p e s m below meth c ls hx hb hr hml hown hts hlk hnm hl hP hK hD hS hA hX => ?_)
  have hown : s.vm.findClass "StaveHouse" = some m.cls := hown
  have hnm : meth.name = "event" := hnm
  refine lv_aload_n hx hb d_1_13_0 rfl (lv_at hl 0 rfl) ?_
  refine lv_iload_n hx hb d_1_13_1 rfl (lv_at hl 1 rfl) ?_
  refine lv_iload_n hx hb d_1_13_2 rfl (lv_at hl 2 rfl) ?_
  refine lv_iload_n hx hb d_1_13_3 rfl (lv_at hl 3 rfl) ?_
  have hFc1 := va_free (wc := [(a0, .inr (12, rg 10 g0)), (a2, .inl (ca 4, 2, .inr (.inr (.inr (.inr g2)))))]) hD hS hA [0, 1] rfl
  refine va_callq (va_runV (As := [.int v0, .int v1, .int v2]) (rest := []) ⟨hx, hb, hml, hown, hts⟩ (c_S_eventAt_0 l D ca ad av s.heap.size a0 a2 g0 g2 v0 v1 v2 (hp0.sub [0] rfl) (hp2.sub [0, 1] rfl)) (cwV 3 hts (gdV k_6_180 k_6_182 ks_78 k_1_1 k_6_183) rfl rfl rfl (by decide +kernel) ⟨Nat.le_of_ble_eq_true rfl, Nat.le_of_ble_eq_true rfl⟩) (gPV hP hD hK hS hA hX [0, 1] (by decide) rfl a0 [.int v0, .int v1, .int v2] 0 (ci := 12) (r := (RX12, TX12, 10)) rfl rfl) rfl rfl hl.1 rfl (lv_room (Nat.le_of_ble_eq_true rfl)) d_1_13_4 ⟨Nat.le_of_ble_eq_true rfl, Nat.le_of_ble_eq_true rfl⟩) hS (fun q _ h => hFc1 q h) hFc1 (fun r1 u1 t1 H1 locs1 ht1 hvm1 hw1 hB1 hz1 hk1 hS1 => ?_)
  have hr1 := hw1
  obtain ⟨hP1, hD1⟩ := gJoin (wr := []) (w1 := [(a0, .inr (12, rg 10 g0)), (a2, .inl (ca 4, 2, .inr (.inr (.inr (.inr g2)))))]) hP hD [0, 1] [] rfl rfl (by decide) (by decide) hk1 hFc1 ht1 hB1
  have hP1 : va_P D cls [(a0, .inr (12, rg 10 g0)), (a2, .inl (ca 4, 2, .inr (.inr (.inr (.inr g2)))))] H1 := hP1
  have hD1 : va_D A [(a0, .inr (12, rg 10 g0)), (a2, .inl (ca 4, 2, .inr (.inr (.inr (.inr g2)))))] := hD1
  refine W.widen (k := 0) (n := 0) (Nat.le_of_ble_eq_true rfl) (Nat.le_of_ble_eq_true rfl) ?_
  subst hr1
  refine W.eq (g2 := F0 m 7 ls [.null]) rfl ?_
  refine lv_astoreN (lv' := [(5, .null), (0, .ref a0), (1, .int v0), (2, .int v1), (3, .int v2), (4, .int v3)]) hx hb d_1_13_7 hl (by decide) rfl (fun ls hl => ?_)
  refine lv_aloadN hx hb d_1_13_9 (lv_at hl 0 rfl) ?_
  refine lv_ifnonnullN hx hb d_1_13_11 ?_
  refine lv_ldc2 hx hb hown (hts _ k_6_184) d_1_13_14 ?_
  have hP9 := hP1.sub (ws' := [(a0, .inr (12, rg 10 g0)), (a2, .inl (ca 4, 2, .inr (.inr (.inr (.inr g2)))))]) [0, 1] rfl
  have hD9 := hD1.sub (ws' := [(a0, .inr (12, rg 10 g0)), (a2, .inl (ca 4, 2, .inr (.inr (.inr (.inr g2)))))]) [0, 1] (by decide) rfl
  refine W.widen (k := 0) (n := 0) (Nat.le_of_ble_eq_true rfl) (Nat.le_of_ble_eq_true rfl) ?_
  exact W.lret (v := (-1)) hx hb hr (fun t ht hW => ⟨⟨(-1), (), rfl, rfl, by rw [ht]; exact hP9, va_K.moved hW.alike hK, hD9⟩, hS1.F ht⟩) hS1.2.2 d_1_13_17
abbrev Q_S_pitch_0 (D : va_G) (ca : Nat → ClassId) (a0 : Nat) (a2 : Nat) (g0 : Nat → Value) (g2 : Nat → Option Nat) (v0 : Int32) (v1 : Int32) (v2 : Int32) (v3 : Int32) (v4 : Int32) (A : Nat → Prop) : Array Value → State → Outcome → State → Prop := va_Qi (S := Unit) (fun (r : Int32) (u : Unit) => r = (-2147483648)) (fun u => gB D ca A [(a0, .inr (12, rg 10 g0)), (a2, .inl (ca 4, 2, .inr (.inr (.inr (.inr g2)))))]) A
set_option maxHeartbeats 8000000 in
set_option maxRecDepth 100000 in
theorem c_S_pitch_0 (l : Launch) (D : va_G) (ca : Nat → ClassId) (ad av : Nat → Nat) (sz : Nat) (a0 : Nat) (a2 : Nat) (g0 : Nat → Value) (g2 : Nat → Option Nat) (v0 : Int32) (v1 : Int32) (v2 : Int32) (v3 : Int32) (v4 : Int32) (hp0 : gF g0 [(3, .ref a2)]) (hp2 : gF g2 [(0, none), (1, none)]) : Met l ({ cls := "StaveHouse", name := "pitch", desc := "(IIIII)I" } : Jvm.MethodName) (Cond.code ({ cls := "StaveHouse", name := "pitch", desc := "(IIIII)I" } : Jvm.MethodName) prog_1_method_14_code 7 (Option.some Jvm.ClassFile.FieldType.int) :: wAll) ({ frames := 3, cells := 0, slots := 0, locals := 68 } : Room) (va_Pc [.ref a0, .int v0, .int v1, .int v2, .int v3, .int v4] (gPre D ca ad av [(a0, .inr (12, rg 10 g0)), (a2, .inl (ca 4, 2, .inr (.inr (.inr (.inr g2)))))] sz)) (Q_S_pitch_0 D ca a0 a2 g0 g2 v0 v1 v2 v3 v4 (va_A [(a0, .inr (12, rg 10 g0)), (a2, .inl (ca 4, 2, .inr (.inr (.inr (.inr g2)))))] sz)) 0 0 (va_A [(a0, .inr (12, rg 10 g0)), (a2, .inl (ca 4, 2, .inr (.inr (.inr (.inr g2)))))] sz) := by
  refine gMet (Qc := Q_S_pitch_0 D ca a0 a2 g0 g2 v0 v1 v2 v3 v4) (lv := [(0, .ref a0), (1, .int v0), (2, .int v1), (3, .int v2), (4, .int v3), (5, .int v4)]) (by decide) (Nat.le_of_ble_eq_true rfl) rfl (fun A p e s m below meth c ls hx hb hr hml hown hts hlk hnm hl hP hK hD hS hA hX => ?_)
  have hown : s.vm.findClass "StaveHouse" = some m.cls := hown
  have hnm : meth.name = "pitch" := hnm
  refine lv_aload_n hx hb d_1_14_0 rfl (lv_at hl 0 rfl) ?_
  refine lv_iload_n hx hb d_1_14_1 rfl (lv_at hl 1 rfl) ?_
  refine lv_iload_n hx hb d_1_14_2 rfl (lv_at hl 2 rfl) ?_
  refine lv_iload_n hx hb d_1_14_3 rfl (lv_at hl 3 rfl) ?_
  have hFc1 := va_free (wc := [(a0, .inr (12, rg 10 g0)), (a2, .inl (ca 4, 2, .inr (.inr (.inr (.inr g2)))))]) hD hS hA [0, 1] rfl
  refine va_callq (va_runV (As := [.int v0, .int v1, .int v2]) (rest := []) ⟨hx, hb, hml, hown, hts⟩ (c_S_eventAt_0 l D ca ad av s.heap.size a0 a2 g0 g2 v0 v1 v2 (hp0.sub [0] rfl) (hp2.sub [0, 1] rfl)) (cwV 3 hts (gdV k_6_180 k_6_182 ks_78 k_1_1 k_6_183) rfl rfl rfl (by decide +kernel) ⟨Nat.le_of_ble_eq_true rfl, Nat.le_of_ble_eq_true rfl⟩) (gPV hP hD hK hS hA hX [0, 1] (by decide) rfl a0 [.int v0, .int v1, .int v2] 0 (ci := 12) (r := (RX12, TX12, 10)) rfl rfl) rfl rfl hl.1 rfl (lv_room (Nat.le_of_ble_eq_true rfl)) d_1_14_4 ⟨Nat.le_of_ble_eq_true rfl, Nat.le_of_ble_eq_true rfl⟩) hS (fun q _ h => hFc1 q h) hFc1 (fun r1 u1 t1 H1 locs1 ht1 hvm1 hw1 hB1 hz1 hk1 hS1 => ?_)
  have hr1 := hw1
  obtain ⟨hP1, hD1⟩ := gJoin (wr := []) (w1 := [(a0, .inr (12, rg 10 g0)), (a2, .inl (ca 4, 2, .inr (.inr (.inr (.inr g2)))))]) hP hD [0, 1] [] rfl rfl (by decide) (by decide) hk1 hFc1 ht1 hB1
  have hP1 : va_P D cls [(a0, .inr (12, rg 10 g0)), (a2, .inl (ca 4, 2, .inr (.inr (.inr (.inr g2)))))] H1 := hP1
  have hD1 : va_D A [(a0, .inr (12, rg 10 g0)), (a2, .inl (ca 4, 2, .inr (.inr (.inr (.inr g2)))))] := hD1
  refine W.widen (k := 0) (n := 0) (Nat.le_of_ble_eq_true rfl) (Nat.le_of_ble_eq_true rfl) ?_
  subst hr1
  refine W.eq (g2 := F0 m 7 ls [.null]) rfl ?_
  refine lv_astoreN (lv' := [(6, .null), (0, .ref a0), (1, .int v0), (2, .int v1), (3, .int v2), (4, .int v3), (5, .int v4)]) hx hb d_1_14_7 hl (by decide) rfl (fun ls hl => ?_)
  refine lv_aloadN hx hb d_1_14_9 (lv_at hl 0 rfl) ?_
  refine lv_ifnullN (tgt := 29) hx hb d_1_14_11 (by decide) ?_
  refine lv_ldc hx hb hown (hts _ k_6_199) d_1_14_29 ?_
  have hP9 := hP1.sub (ws' := [(a0, .inr (12, rg 10 g0)), (a2, .inl (ca 4, 2, .inr (.inr (.inr (.inr g2)))))]) [0, 1] rfl
  have hD9 := hD1.sub (ws' := [(a0, .inr (12, rg 10 g0)), (a2, .inl (ca 4, 2, .inr (.inr (.inr (.inr g2)))))]) [0, 1] (by decide) rfl
  refine W.widen (k := 0) (n := 0) (Nat.le_of_ble_eq_true rfl) (Nat.le_of_ble_eq_true rfl) ?_
  exact W.iret (v := (-2147483648)) hx hb hr (fun t ht hW => ⟨⟨(-2147483648), (), rfl, rfl, by rw [ht]; exact hP9, va_K.moved hW.alike hK, hD9⟩, hS1.F ht⟩) hS1.2.2 d_1_14_31
abbrev Q_S_note_0 (D : va_G) (ca : Nat → ClassId) (a0 : Nat) (a2 : Nat) (g0 : Nat → Value) (g2 : Nat → Option Nat) (v0 : Int32) (v1 : Int32) (v2 : Int32) (v3 : Int32) (A : Nat → Prop) : Array Value → State → Outcome → State → Prop := va_Ql (S := Unit) (fun (r : Int64) (u : Unit) => r = (-1)) (fun u => gB D ca A [(a0, .inr (12, rg 10 g0)), (a2, .inl (ca 4, 2, .inr (.inr (.inr (.inr g2)))))]) A
set_option maxHeartbeats 8000000 in
set_option maxRecDepth 100000 in
theorem c_S_note_0 (l : Launch) (D : va_G) (ca : Nat → ClassId) (ad av : Nat → Nat) (sz : Nat) (a0 : Nat) (a2 : Nat) (g0 : Nat → Value) (g2 : Nat → Option Nat) (v0 : Int32) (v1 : Int32) (v2 : Int32) (v3 : Int32) (hp0 : gF g0 [(3, .ref a2)]) (hp2 : gF g2 [(0, none), (1, none)]) : Met l ({ cls := "StaveHouse", name := "note", desc := "(IIII)J" } : Jvm.MethodName) (Cond.code ({ cls := "StaveHouse", name := "note", desc := "(IIII)J" } : Jvm.MethodName) prog_1_method_15_code 6 (Option.some Jvm.ClassFile.FieldType.long) :: wAll) ({ frames := 2, cells := 0, slots := 0, locals := 44 } : Room) (va_Pc [.ref a0, .int v0, .int v1, .int v2, .int v3] (gPre D ca ad av [(a0, .inr (12, rg 10 g0)), (a2, .inl (ca 4, 2, .inr (.inr (.inr (.inr g2)))))] sz)) (Q_S_note_0 D ca a0 a2 g0 g2 v0 v1 v2 v3 (va_A [(a0, .inr (12, rg 10 g0)), (a2, .inl (ca 4, 2, .inr (.inr (.inr (.inr g2)))))] sz)) 0 0 (va_A [(a0, .inr (12, rg 10 g0)), (a2, .inl (ca 4, 2, .inr (.inr (.inr (.inr g2)))))] sz) := by
  refine gMet (Qc := Q_S_note_0 D ca a0 a2 g0 g2 v0 v1 v2 v3) (lv := [(0, .ref a0), (1, .int v0), (2, .int v1), (3, .int v2), (4, .int v3)]) (by decide) (Nat.le_of_ble_eq_true rfl) rfl (fun A p e s m below meth c ls hx hb hr hml hown hts hlk hnm hl hP hK hD hS hA hX => ?_)
  have hown : s.vm.findClass "StaveHouse" = some m.cls := hown
  have hnm : meth.name = "note" := hnm
  refine lv_aload_n hx hb d_1_15_0 rfl (lv_at hl 0 rfl) ?_
  refine lv_iload_n hx hb d_1_15_1 rfl (lv_at hl 1 rfl) ?_
  refine lv_iload_n hx hb d_1_15_2 rfl (lv_at hl 2 rfl) ?_
  have hFc1 := va_free (wc := [(a0, .inr (12, rg 10 g0)), (a2, .inl (ca 4, 2, .inr (.inr (.inr (.inr g2)))))]) hD hS hA [0, 1] rfl
  refine va_callq (va_runV (As := [.int v0, .int v1]) (rest := []) ⟨hx, hb, hml, hown, hts⟩ (c_S_partAt_0 l D ca ad av s.heap.size a0 a2 g0 g2 v0 v1 (hp0.sub [0] rfl) (hp2.sub [0, 1] rfl)) (cwV 2 hts (gdV k_6_168 k_6_170 ks_77 k_1_1 k_6_171) rfl rfl rfl (by decide +kernel) ⟨Nat.le_of_ble_eq_true rfl, Nat.le_of_ble_eq_true rfl⟩) (gPV hP hD hK hS hA hX [0, 1] (by decide) rfl a0 [.int v0, .int v1] 0 (ci := 12) (r := (RX12, TX12, 10)) rfl rfl) rfl rfl hl.1 rfl (lv_room (Nat.le_of_ble_eq_true rfl)) d_1_15_3 ⟨Nat.le_of_ble_eq_true rfl, Nat.le_of_ble_eq_true rfl⟩) hS (fun q _ h => hFc1 q h) hFc1 (fun r1 u1 t1 H1 locs1 ht1 hvm1 hw1 hB1 hz1 hk1 hS1 => ?_)
  have hr1 := hw1
  obtain ⟨hP1, hD1⟩ := gJoin (wr := []) (w1 := [(a0, .inr (12, rg 10 g0)), (a2, .inl (ca 4, 2, .inr (.inr (.inr (.inr g2)))))]) hP hD [0, 1] [] rfl rfl (by decide) (by decide) hk1 hFc1 ht1 hB1
  have hP1 : va_P D cls [(a0, .inr (12, rg 10 g0)), (a2, .inl (ca 4, 2, .inr (.inr (.inr (.inr g2)))))] H1 := hP1
  have hD1 : va_D A [(a0, .inr (12, rg 10 g0)), (a2, .inl (ca 4, 2, .inr (.inr (.inr (.inr g2)))))] := hD1
  refine W.widen (k := 0) (n := 0) (Nat.le_of_ble_eq_true rfl) (Nat.le_of_ble_eq_true rfl) ?_
  subst hr1
  refine W.eq (g2 := F0 m 6 ls [.null]) rfl ?_
  refine lv_astoreN (lv' := [(5, .null), (0, .ref a0), (1, .int v0), (2, .int v1), (3, .int v2), (4, .int v3)]) hx hb d_1_15_6 hl (by decide) rfl (fun ls hl => ?_)
  refine lv_aloadN hx hb d_1_15_8 (lv_at hl 0 rfl) ?_
  refine lv_ifnullN (tgt := 38) hx hb d_1_15_10 (by decide) ?_
  refine lv_ldc2 hx hb hown (hts _ k_6_184) d_1_15_38 ?_
  have hP9 := hP1.sub (ws' := [(a0, .inr (12, rg 10 g0)), (a2, .inl (ca 4, 2, .inr (.inr (.inr (.inr g2)))))]) [0, 1] rfl
  have hD9 := hD1.sub (ws' := [(a0, .inr (12, rg 10 g0)), (a2, .inl (ca 4, 2, .inr (.inr (.inr (.inr g2)))))]) [0, 1] (by decide) rfl
  refine W.widen (k := 0) (n := 0) (Nat.le_of_ble_eq_true rfl) (Nat.le_of_ble_eq_true rfl) ?_
  exact W.lret (v := (-1)) hx hb hr (fun t ht hW => ⟨⟨(-1), (), rfl, rfl, by rw [ht]; exact hP9, va_K.moved hW.alike hK, hD9⟩, hS1.F ht⟩) hS1.2.2 d_1_15_41
abbrev Q_S_lines_0 (D : va_G) (ca : Nat → ClassId) (a0 : Nat) (a2 : Nat) (g0 : Nat → Value) (g2 : Nat → Option Nat) (v0 : Int32) (v1 : Int32) (A : Nat → Prop) : Array Value → State → Outcome → State → Prop := va_Qi (S := Unit) (fun (r : Int32) (u : Unit) => r = (-1)) (fun u => gB D ca A [(a0, .inr (12, rg 10 g0)), (a2, .inl (ca 4, 2, .inr (.inr (.inr (.inr g2)))))]) A
set_option maxHeartbeats 8000000 in
set_option maxRecDepth 100000 in
theorem c_S_lines_0 (l : Launch) (D : va_G) (ca : Nat → ClassId) (ad av : Nat → Nat) (sz : Nat) (a0 : Nat) (a2 : Nat) (g0 : Nat → Value) (g2 : Nat → Option Nat) (v0 : Int32) (v1 : Int32) (hp0 : gF g0 [(3, .ref a2)]) (hp2 : gF g2 [(0, none), (1, none)]) : Met l ({ cls := "StaveHouse", name := "lines", desc := "(II)I" } : Jvm.MethodName) (Cond.code ({ cls := "StaveHouse", name := "lines", desc := "(II)I" } : Jvm.MethodName) prog_1_method_16_code 4 (Option.some Jvm.ClassFile.FieldType.int) :: wAll) ({ frames := 1, cells := 0, slots := 0, locals := 21 } : Room) (va_Pc [.ref a0, .int v0, .int v1] (gPre D ca ad av [(a0, .inr (12, rg 10 g0)), (a2, .inl (ca 4, 2, .inr (.inr (.inr (.inr g2)))))] sz)) (Q_S_lines_0 D ca a0 a2 g0 g2 v0 v1 (va_A [(a0, .inr (12, rg 10 g0)), (a2, .inl (ca 4, 2, .inr (.inr (.inr (.inr g2)))))] sz)) 0 0 (va_A [(a0, .inr (12, rg 10 g0)), (a2, .inl (ca 4, 2, .inr (.inr (.inr (.inr g2)))))] sz) := by
  refine gMet (Qc := Q_S_lines_0 D ca a0 a2 g0 g2 v0 v1) (lv := [(0, .ref a0), (1, .int v0), (2, .int v1)]) (by decide) (Nat.le_of_ble_eq_true rfl) rfl (fun A p e s m below meth c ls hx hb hr hml hown hts hlk hnm hl hP hK hD hS hA hX => ?_)
  have hown : s.vm.findClass "StaveHouse" = some m.cls := hown
  have hnm : meth.name = "lines" := hnm
  refine lv_aload_n hx hb d_1_16_0 rfl (lv_at hl 0 rfl) ?_
  refine lv_iload_n hx hb d_1_16_1 rfl (lv_at hl 1 rfl) ?_
  have hFc1 := va_free (wc := [(a0, .inr (12, rg 10 g0)), (a2, .inl (ca 4, 2, .inr (.inr (.inr (.inr g2)))))]) hD hS hA [0, 1] rfl
  refine va_callq (va_runV (As := [.int v0]) (rest := []) ⟨hx, hb, hml, hown, hts⟩ (c_S_pieceAt_0 l D ca ad av s.heap.size a0 a2 g0 g2 v0 (hp0.sub [0] rfl) (hp2.sub [0, 1] rfl)) (cwV 1 hts (gdV k_5_182 k_5_184 ks_65 k_1_1 k_5_185) rfl rfl rfl (by decide +kernel) ⟨Nat.le_of_ble_eq_true rfl, Nat.le_of_ble_eq_true rfl⟩) (gPV hP hD hK hS hA hX [0, 1] (by decide) rfl a0 [.int v0] 0 (ci := 12) (r := (RX12, TX12, 10)) rfl rfl) rfl rfl hl.1 rfl (lv_room (Nat.le_of_ble_eq_true rfl)) d_1_16_2 ⟨Nat.le_of_ble_eq_true rfl, Nat.le_of_ble_eq_true rfl⟩) hS (fun q _ h => hFc1 q h) hFc1 (fun r1 u1 t1 H1 locs1 ht1 hvm1 hw1 hB1 hz1 hk1 hS1 => ?_)
  have hr1 := hw1
  obtain ⟨hP1, hD1⟩ := gJoin (wr := []) (w1 := [(a0, .inr (12, rg 10 g0)), (a2, .inl (ca 4, 2, .inr (.inr (.inr (.inr g2)))))]) hP hD [0, 1] [] rfl rfl (by decide) (by decide) hk1 hFc1 ht1 hB1
  have hP1 : va_P D cls [(a0, .inr (12, rg 10 g0)), (a2, .inl (ca 4, 2, .inr (.inr (.inr (.inr g2)))))] H1 := hP1
  have hD1 : va_D A [(a0, .inr (12, rg 10 g0)), (a2, .inl (ca 4, 2, .inr (.inr (.inr (.inr g2)))))] := hD1
  refine W.widen (k := 0) (n := 0) (Nat.le_of_ble_eq_true rfl) (Nat.le_of_ble_eq_true rfl) ?_
  subst hr1
  refine W.eq (g2 := F0 m 5 ls [.null]) rfl ?_
  refine lv_astore_nN (lv' := [(3, .null), (0, .ref a0), (1, .int v0), (2, .int v1)]) hx hb d_1_16_5 rfl hl (by decide) rfl (fun ls hl => ?_)
  refine lv_aload_nN hx hb d_1_16_6 rfl (lv_at hl 0 rfl) ?_
  refine lv_ifnullN (tgt := 24) hx hb d_1_16_7 (by decide) ?_
  refine lv_iconst (v := (-1)) hx hb d_1_16_24 (by decide) ?_
  have hP9 := hP1.sub (ws' := [(a0, .inr (12, rg 10 g0)), (a2, .inl (ca 4, 2, .inr (.inr (.inr (.inr g2)))))]) [0, 1] rfl
  have hD9 := hD1.sub (ws' := [(a0, .inr (12, rg 10 g0)), (a2, .inl (ca 4, 2, .inr (.inr (.inr (.inr g2)))))]) [0, 1] (by decide) rfl
  refine W.widen (k := 0) (n := 0) (Nat.le_of_ble_eq_true rfl) (Nat.le_of_ble_eq_true rfl) ?_
  exact W.iret (v := (-1)) hx hb hr (fun t ht hW => ⟨⟨(-1), (), rfl, rfl, by rw [ht]; exact hP9, va_K.moved hW.alike hK, hD9⟩, hS1.F ht⟩) hS1.2.2 d_1_16_25
abbrev Q_S_line_0 (D : va_G) (ca : Nat → ClassId) (a0 : Nat) (a2 : Nat) (g0 : Nat → Value) (g2 : Nat → Option Nat) (v0 : Int32) (v1 : Int32) (v2 : Int32) (A : Nat → Prop) : Array Value → State → Outcome → State → Prop := va_Ql (S := Unit) (fun (r : Int64) (u : Unit) => r = (-1)) (fun u => gB D ca A [(a0, .inr (12, rg 10 g0)), (a2, .inl (ca 4, 2, .inr (.inr (.inr (.inr g2)))))]) A
set_option maxHeartbeats 8000000 in
set_option maxRecDepth 100000 in
theorem c_S_line_0 (l : Launch) (D : va_G) (ca : Nat → ClassId) (ad av : Nat → Nat) (sz : Nat) (a0 : Nat) (a2 : Nat) (g0 : Nat → Value) (g2 : Nat → Option Nat) (v0 : Int32) (v1 : Int32) (v2 : Int32) (hp0 : gF g0 [(3, .ref a2)]) (hp2 : gF g2 [(0, none), (1, none)]) : Met l ({ cls := "StaveHouse", name := "line", desc := "(III)J" } : Jvm.MethodName) (Cond.code ({ cls := "StaveHouse", name := "line", desc := "(III)J" } : Jvm.MethodName) prog_1_method_17_code 5 (Option.some Jvm.ClassFile.FieldType.long) :: wAll) ({ frames := 1, cells := 0, slots := 0, locals := 21 } : Room) (va_Pc [.ref a0, .int v0, .int v1, .int v2] (gPre D ca ad av [(a0, .inr (12, rg 10 g0)), (a2, .inl (ca 4, 2, .inr (.inr (.inr (.inr g2)))))] sz)) (Q_S_line_0 D ca a0 a2 g0 g2 v0 v1 v2 (va_A [(a0, .inr (12, rg 10 g0)), (a2, .inl (ca 4, 2, .inr (.inr (.inr (.inr g2)))))] sz)) 0 0 (va_A [(a0, .inr (12, rg 10 g0)), (a2, .inl (ca 4, 2, .inr (.inr (.inr (.inr g2)))))] sz) := by
  refine gMet (Qc := Q_S_line_0 D ca a0 a2 g0 g2 v0 v1 v2) (lv := [(0, .ref a0), (1, .int v0), (2, .int v1), (3, .int v2)]) (by decide) (Nat.le_of_ble_eq_true rfl) rfl (fun A p e s m below meth c ls hx hb hr hml hown hts hlk hnm hl hP hK hD hS hA hX => ?_)
  have hown : s.vm.findClass "StaveHouse" = some m.cls := hown
  have hnm : meth.name = "line" := hnm
  refine lv_aload_n hx hb d_1_17_0 rfl (lv_at hl 0 rfl) ?_
  refine lv_iload_n hx hb d_1_17_1 rfl (lv_at hl 1 rfl) ?_
  have hFc1 := va_free (wc := [(a0, .inr (12, rg 10 g0)), (a2, .inl (ca 4, 2, .inr (.inr (.inr (.inr g2)))))]) hD hS hA [0, 1] rfl
  refine va_callq (va_runV (As := [.int v0]) (rest := []) ⟨hx, hb, hml, hown, hts⟩ (c_S_pieceAt_0 l D ca ad av s.heap.size a0 a2 g0 g2 v0 (hp0.sub [0] rfl) (hp2.sub [0, 1] rfl)) (cwV 1 hts (gdV k_5_182 k_5_184 ks_65 k_1_1 k_5_185) rfl rfl rfl (by decide +kernel) ⟨Nat.le_of_ble_eq_true rfl, Nat.le_of_ble_eq_true rfl⟩) (gPV hP hD hK hS hA hX [0, 1] (by decide) rfl a0 [.int v0] 0 (ci := 12) (r := (RX12, TX12, 10)) rfl rfl) rfl rfl hl.1 rfl (lv_room (Nat.le_of_ble_eq_true rfl)) d_1_17_2 ⟨Nat.le_of_ble_eq_true rfl, Nat.le_of_ble_eq_true rfl⟩) hS (fun q _ h => hFc1 q h) hFc1 (fun r1 u1 t1 H1 locs1 ht1 hvm1 hw1 hB1 hz1 hk1 hS1 => ?_)
  have hr1 := hw1
  obtain ⟨hP1, hD1⟩ := gJoin (wr := []) (w1 := [(a0, .inr (12, rg 10 g0)), (a2, .inl (ca 4, 2, .inr (.inr (.inr (.inr g2)))))]) hP hD [0, 1] [] rfl rfl (by decide) (by decide) hk1 hFc1 ht1 hB1
  have hP1 : va_P D cls [(a0, .inr (12, rg 10 g0)), (a2, .inl (ca 4, 2, .inr (.inr (.inr (.inr g2)))))] H1 := hP1
  have hD1 : va_D A [(a0, .inr (12, rg 10 g0)), (a2, .inl (ca 4, 2, .inr (.inr (.inr (.inr g2)))))] := hD1
  refine W.widen (k := 0) (n := 0) (Nat.le_of_ble_eq_true rfl) (Nat.le_of_ble_eq_true rfl) ?_
  subst hr1
  refine W.eq (g2 := F0 m 5 ls [.null]) rfl ?_
  refine lv_astoreN (lv' := [(4, .null), (0, .ref a0), (1, .int v0), (2, .int v1), (3, .int v2)]) hx hb d_1_17_5 hl (by decide) rfl (fun ls hl => ?_)
  refine lv_aloadN hx hb d_1_17_7 (lv_at hl 0 rfl) ?_
  refine lv_ifnullN (tgt := 20) hx hb d_1_17_9 (by decide) ?_
  refine lv_ldc2 hx hb hown (hts _ k_6_184) d_1_17_20 ?_
  have hP9 := hP1.sub (ws' := [(a0, .inr (12, rg 10 g0)), (a2, .inl (ca 4, 2, .inr (.inr (.inr (.inr g2)))))]) [0, 1] rfl
  have hD9 := hD1.sub (ws' := [(a0, .inr (12, rg 10 g0)), (a2, .inl (ca 4, 2, .inr (.inr (.inr (.inr g2)))))]) [0, 1] (by decide) rfl
  refine W.widen (k := 0) (n := 0) (Nat.le_of_ble_eq_true rfl) (Nat.le_of_ble_eq_true rfl) ?_
  exact W.lret (v := (-1)) hx hb hr (fun t ht hW => ⟨⟨(-1), (), rfl, rfl, by rw [ht]; exact hP9, va_K.moved hW.alike hK, hD9⟩, hS1.F ht⟩) hS1.2.2 d_1_17_23
abbrev Q_S_x_0 (D : va_G) (ca : Nat → ClassId) (a0 : Nat) (a2 : Nat) (g0 : Nat → Value) (g2 : Nat → Option Nat) (v0 : Int32) (v1 : Int32) (v2 : Int32) (A : Nat → Prop) : Array Value → State → Outcome → State → Prop := va_Qi (S := Unit) (fun (r : Int32) (u : Unit) => r = (-1)) (fun u => gB D ca A [(a0, .inr (12, rg 10 g0)), (a2, .inl (ca 4, 2, .inr (.inr (.inr (.inr g2)))))]) A
set_option maxHeartbeats 8000000 in
set_option maxRecDepth 100000 in
theorem c_S_x_0 (l : Launch) (D : va_G) (ca : Nat → ClassId) (ad av : Nat → Nat) (sz : Nat) (a0 : Nat) (a2 : Nat) (g0 : Nat → Value) (g2 : Nat → Option Nat) (v0 : Int32) (v1 : Int32) (v2 : Int32) (hp0 : gF g0 [(3, .ref a2)]) (hp2 : gF g2 [(0, none), (1, none)]) : Met l ({ cls := "StaveHouse", name := "x", desc := "(III)I" } : Jvm.MethodName) (Cond.code ({ cls := "StaveHouse", name := "x", desc := "(III)I" } : Jvm.MethodName) prog_1_method_18_code 6 (Option.some Jvm.ClassFile.FieldType.int) :: wAll) ({ frames := 2, cells := 0, slots := 0, locals := 44 } : Room) (va_Pc [.ref a0, .int v0, .int v1, .int v2] (gPre D ca ad av [(a0, .inr (12, rg 10 g0)), (a2, .inl (ca 4, 2, .inr (.inr (.inr (.inr g2)))))] sz)) (Q_S_x_0 D ca a0 a2 g0 g2 v0 v1 v2 (va_A [(a0, .inr (12, rg 10 g0)), (a2, .inl (ca 4, 2, .inr (.inr (.inr (.inr g2)))))] sz)) 0 0 (va_A [(a0, .inr (12, rg 10 g0)), (a2, .inl (ca 4, 2, .inr (.inr (.inr (.inr g2)))))] sz) := by
  refine gMet (Qc := Q_S_x_0 D ca a0 a2 g0 g2 v0 v1 v2) (lv := [(0, .ref a0), (1, .int v0), (2, .int v1), (3, .int v2)]) (by decide) (Nat.le_of_ble_eq_true rfl) rfl (fun A p e s m below meth c ls hx hb hr hml hown hts hlk hnm hl hP hK hD hS hA hX => ?_)
  have hown : s.vm.findClass "StaveHouse" = some m.cls := hown
  have hnm : meth.name = "x" := hnm
  refine lv_aload_n hx hb d_1_18_0 rfl (lv_at hl 0 rfl) ?_
  refine lv_iload_n hx hb d_1_18_1 rfl (lv_at hl 1 rfl) ?_
  refine lv_iload_n hx hb d_1_18_2 rfl (lv_at hl 2 rfl) ?_
  have hFc1 := va_free (wc := [(a0, .inr (12, rg 10 g0)), (a2, .inl (ca 4, 2, .inr (.inr (.inr (.inr g2)))))]) hD hS hA [0, 1] rfl
  refine va_callq (va_runV (As := [.int v0, .int v1]) (rest := []) ⟨hx, hb, hml, hown, hts⟩ (c_S_partAt_0 l D ca ad av s.heap.size a0 a2 g0 g2 v0 v1 (hp0.sub [0] rfl) (hp2.sub [0, 1] rfl)) (cwV 2 hts (gdV k_6_168 k_6_170 ks_77 k_1_1 k_6_171) rfl rfl rfl (by decide +kernel) ⟨Nat.le_of_ble_eq_true rfl, Nat.le_of_ble_eq_true rfl⟩) (gPV hP hD hK hS hA hX [0, 1] (by decide) rfl a0 [.int v0, .int v1] 0 (ci := 12) (r := (RX12, TX12, 10)) rfl rfl) rfl rfl hl.1 rfl (lv_room (Nat.le_of_ble_eq_true rfl)) d_1_18_3 ⟨Nat.le_of_ble_eq_true rfl, Nat.le_of_ble_eq_true rfl⟩) hS (fun q _ h => hFc1 q h) hFc1 (fun r1 u1 t1 H1 locs1 ht1 hvm1 hw1 hB1 hz1 hk1 hS1 => ?_)
  have hr1 := hw1
  obtain ⟨hP1, hD1⟩ := gJoin (wr := []) (w1 := [(a0, .inr (12, rg 10 g0)), (a2, .inl (ca 4, 2, .inr (.inr (.inr (.inr g2)))))]) hP hD [0, 1] [] rfl rfl (by decide) (by decide) hk1 hFc1 ht1 hB1
  have hP1 : va_P D cls [(a0, .inr (12, rg 10 g0)), (a2, .inl (ca 4, 2, .inr (.inr (.inr (.inr g2)))))] H1 := hP1
  have hD1 : va_D A [(a0, .inr (12, rg 10 g0)), (a2, .inl (ca 4, 2, .inr (.inr (.inr (.inr g2)))))] := hD1
  refine W.widen (k := 0) (n := 0) (Nat.le_of_ble_eq_true rfl) (Nat.le_of_ble_eq_true rfl) ?_
  subst hr1
  refine W.eq (g2 := F0 m 6 ls [.null]) rfl ?_
  refine lv_astoreN (lv' := [(4, .null), (0, .ref a0), (1, .int v0), (2, .int v1), (3, .int v2)]) hx hb d_1_18_6 hl (by decide) rfl (fun ls hl => ?_)
  refine lv_aload_n hx hb d_1_18_8 rfl (lv_at hl 1 rfl) ?_
  refine lv_iload_n hx hb d_1_18_9 rfl (lv_at hl 2 rfl) ?_
  have hFc2 := va_free (wc := [(a0, .inr (12, rg 10 g0)), (a2, .inl (ca 4, 2, .inr (.inr (.inr (.inr g2)))))]) hD1 hS1 hA [0, 1] rfl
  refine va_callq (va_runV (As := [.int v0]) (rest := []) ⟨hx, hb, hml, hown, hts⟩ (c_S_pieceAt_0 l D ca ad av H1.size a0 a2 g0 g2 v0 (hp0.sub [0] rfl) (hp2.sub [0, 1] rfl)) (cwV 1 hts (gdV k_5_182 k_5_184 ks_65 k_1_1 k_5_185) rfl rfl rfl (by decide +kernel) ⟨Nat.le_of_ble_eq_true rfl, Nat.le_of_ble_eq_true rfl⟩) (gPV hP1 hD1 hK hS1 hA hX [0, 1] (by decide) rfl a0 [.int v0] 0 (ci := 12) (r := (RX12, TX12, 10)) rfl rfl) rfl rfl hl.1 rfl (lv_room (Nat.le_of_ble_eq_true rfl)) d_1_18_10 ⟨Nat.le_of_ble_eq_true rfl, Nat.le_of_ble_eq_true rfl⟩) hS1 (fun q _ h => hFc2 q h) hFc2 (fun r2 u2 t2 H2 locs2 ht2 hvm2 hw2 hB2 hz2 hk2 hS2 => ?_)
  have hr2 := hw2
  obtain ⟨hP2, hD2⟩ := gJoin (wr := []) (w1 := [(a0, .inr (12, rg 10 g0)), (a2, .inl (ca 4, 2, .inr (.inr (.inr (.inr g2)))))]) hP1 hD1 [0, 1] [] rfl rfl (by decide) (by decide) hk2 hFc2 ht2 hB2
  have hP2 : va_P D cls [(a0, .inr (12, rg 10 g0)), (a2, .inl (ca 4, 2, .inr (.inr (.inr (.inr g2)))))] H2 := hP2
  have hD2 : va_D A [(a0, .inr (12, rg 10 g0)), (a2, .inl (ca 4, 2, .inr (.inr (.inr (.inr g2)))))] := hD2
  refine W.widen (k := 0) (n := 0) (Nat.le_of_ble_eq_true rfl) (Nat.le_of_ble_eq_true rfl) ?_
  subst hr2
  refine W.eq (g2 := F0 m 13 ls [.null]) rfl ?_
  refine lv_astoreN (lv' := [(5, .null), (4, .null), (0, .ref a0), (1, .int v0), (2, .int v1), (3, .int v2)]) hx hb d_1_18_13 hl (by decide) rfl (fun ls hl => ?_)
  refine lv_aloadN hx hb d_1_18_15 (lv_at hl 1 rfl) ?_
  refine lv_ifnullN (tgt := 46) hx hb d_1_18_17 (by decide) ?_
  refine lv_iconst (v := (-1)) hx hb d_1_18_46 (by decide) ?_
  have hP9 := hP2.sub (ws' := [(a0, .inr (12, rg 10 g0)), (a2, .inl (ca 4, 2, .inr (.inr (.inr (.inr g2)))))]) [0, 1] rfl
  have hD9 := hD2.sub (ws' := [(a0, .inr (12, rg 10 g0)), (a2, .inl (ca 4, 2, .inr (.inr (.inr (.inr g2)))))]) [0, 1] (by decide) rfl
  refine W.widen (k := 0) (n := 0) (Nat.le_of_ble_eq_true rfl) (Nat.le_of_ble_eq_true rfl) ?_
  exact W.iret (v := (-1)) hx hb hr (fun t ht hW => ⟨⟨(-1), (), rfl, rfl, by rw [ht]; exact hP9, va_K.moved hW.alike hK, hD9⟩, hS2.F ht⟩) hS2.2.2 d_1_18_47
abbrev Q_S_perform_0 (D : va_G) (ca : Nat → ClassId) (a0 : Nat) (a2 : Nat) (g0 : Nat → Value) (g2 : Nat → Option Nat) (v0 : Int32) (A : Nat → Prop) : Array Value → State → Outcome → State → Prop := va_Qi (S := Unit) (fun (r : Int32) (u : Unit) => r = (-1)) (fun u => gB D ca A [(a0, .inr (12, rg 10 g0)), (a2, .inl (ca 4, 2, .inr (.inr (.inr (.inr g2)))))]) A
set_option maxHeartbeats 8000000 in
set_option maxRecDepth 100000 in
theorem c_S_perform_0 (l : Launch) (D : va_G) (ca : Nat → ClassId) (ad av : Nat → Nat) (sz : Nat) (a0 : Nat) (a2 : Nat) (g0 : Nat → Value) (g2 : Nat → Option Nat) (v0 : Int32) (hp0 : gF g0 [(3, .ref a2)]) (hp2 : gF g2 [(0, none), (1, none)]) : Met l ({ cls := "StaveHouse", name := "perform", desc := "(I)I" } : Jvm.MethodName) (Cond.code ({ cls := "StaveHouse", name := "perform", desc := "(I)I" } : Jvm.MethodName) prog_1_method_19_code 4 (Option.some Jvm.ClassFile.FieldType.int) :: wAll) ({ frames := 1, cells := 0, slots := 0, locals := 21 } : Room) (va_Pc [.ref a0, .int v0] (gPre D ca ad av [(a0, .inr (12, rg 10 g0)), (a2, .inl (ca 4, 2, .inr (.inr (.inr (.inr g2)))))] sz)) (Q_S_perform_0 D ca a0 a2 g0 g2 v0 (va_A [(a0, .inr (12, rg 10 g0)), (a2, .inl (ca 4, 2, .inr (.inr (.inr (.inr g2)))))] sz)) 0 0 (va_A [(a0, .inr (12, rg 10 g0)), (a2, .inl (ca 4, 2, .inr (.inr (.inr (.inr g2)))))] sz) := by
  refine gMet (Qc := Q_S_perform_0 D ca a0 a2 g0 g2 v0) (lv := [(0, .ref a0), (1, .int v0)]) (by decide) (Nat.le_of_ble_eq_true rfl) rfl (fun A p e s m below meth c ls hx hb hr hml hown hts hlk hnm hl hP hK hD hS hA hX => ?_)
  have hown : s.vm.findClass "StaveHouse" = some m.cls := hown
  have hnm : meth.name = "perform" := hnm
  refine lv_aload_n hx hb d_1_19_0 rfl (lv_at hl 0 rfl) ?_
  refine lv_iload_n hx hb d_1_19_1 rfl (lv_at hl 1 rfl) ?_
  have hFc1 := va_free (wc := [(a0, .inr (12, rg 10 g0)), (a2, .inl (ca 4, 2, .inr (.inr (.inr (.inr g2)))))]) hD hS hA [0, 1] rfl
  refine va_callq (va_runV (As := [.int v0]) (rest := []) ⟨hx, hb, hml, hown, hts⟩ (c_S_pieceAt_0 l D ca ad av s.heap.size a0 a2 g0 g2 v0 (hp0.sub [0] rfl) (hp2.sub [0, 1] rfl)) (cwV 1 hts (gdV k_5_182 k_5_184 ks_65 k_1_1 k_5_185) rfl rfl rfl (by decide +kernel) ⟨Nat.le_of_ble_eq_true rfl, Nat.le_of_ble_eq_true rfl⟩) (gPV hP hD hK hS hA hX [0, 1] (by decide) rfl a0 [.int v0] 0 (ci := 12) (r := (RX12, TX12, 10)) rfl rfl) rfl rfl hl.1 rfl (lv_room (Nat.le_of_ble_eq_true rfl)) d_1_19_2 ⟨Nat.le_of_ble_eq_true rfl, Nat.le_of_ble_eq_true rfl⟩) hS (fun q _ h => hFc1 q h) hFc1 (fun r1 u1 t1 H1 locs1 ht1 hvm1 hw1 hB1 hz1 hk1 hS1 => ?_)
  have hr1 := hw1
  obtain ⟨hP1, hD1⟩ := gJoin (wr := []) (w1 := [(a0, .inr (12, rg 10 g0)), (a2, .inl (ca 4, 2, .inr (.inr (.inr (.inr g2)))))]) hP hD [0, 1] [] rfl rfl (by decide) (by decide) hk1 hFc1 ht1 hB1
  have hP1 : va_P D cls [(a0, .inr (12, rg 10 g0)), (a2, .inl (ca 4, 2, .inr (.inr (.inr (.inr g2)))))] H1 := hP1
  have hD1 : va_D A [(a0, .inr (12, rg 10 g0)), (a2, .inl (ca 4, 2, .inr (.inr (.inr (.inr g2)))))] := hD1
  refine W.widen (k := 0) (n := 0) (Nat.le_of_ble_eq_true rfl) (Nat.le_of_ble_eq_true rfl) ?_
  subst hr1
  refine W.eq (g2 := F0 m 5 ls [.null]) rfl ?_
  refine lv_astore_nN (lv' := [(2, .null), (0, .ref a0), (1, .int v0)]) hx hb d_1_19_5 rfl hl (by decide) rfl (fun ls hl => ?_)
  refine lv_aload_nN hx hb d_1_19_6 rfl (lv_at hl 0 rfl) ?_
  refine lv_ifnonnullN hx hb d_1_19_7 ?_
  refine lv_iconst (v := (-1)) hx hb d_1_19_10 (by decide) ?_
  have hP9 := hP1.sub (ws' := [(a0, .inr (12, rg 10 g0)), (a2, .inl (ca 4, 2, .inr (.inr (.inr (.inr g2)))))]) [0, 1] rfl
  have hD9 := hD1.sub (ws' := [(a0, .inr (12, rg 10 g0)), (a2, .inl (ca 4, 2, .inr (.inr (.inr (.inr g2)))))]) [0, 1] (by decide) rfl
  refine W.widen (k := 0) (n := 0) (Nat.le_of_ble_eq_true rfl) (Nat.le_of_ble_eq_true rfl) ?_
  exact W.iret (v := (-1)) hx hb hr (fun t ht hW => ⟨⟨(-1), (), rfl, rfl, by rw [ht]; exact hP9, va_K.moved hW.alike hK, hD9⟩, hS1.F ht⟩) hS1.2.2 d_1_19_11
abbrev Q_S_performanceOf_0 (D : va_G) (ca : Nat → ClassId) (a0 : Nat) (a2 : Nat) (g0 : Nat → Value) (g2 : Nat → Option Nat) (v0 : Int32) (A : Nat → Prop) : Array Value → State → Outcome → State → Prop := va_Qq (S := Unit) (fun (r : Option Nat) (u : Unit) => r = none) (fun u => gB D ca A [(a0, .inr (12, rg 10 g0)), (a2, .inl (ca 4, 2, .inr (.inr (.inr (.inr g2)))))]) A
set_option maxHeartbeats 8000000 in
set_option maxRecDepth 100000 in
theorem c_S_performanceOf_0 (l : Launch) (D : va_G) (ca : Nat → ClassId) (ad av : Nat → Nat) (sz : Nat) (a0 : Nat) (a2 : Nat) (g0 : Nat → Value) (g2 : Nat → Option Nat) (v0 : Int32) (hp0 : gF g0 [(3, .ref a2)]) (hp2 : gF g2 [(0, none), (1, none)]) : Met l ({ cls := "StaveHouse", name := "performanceOf", desc := "(I)LStaveHouse$Performance;" } : Jvm.MethodName) (Cond.code ({ cls := "StaveHouse", name := "performanceOf", desc := "(I)LStaveHouse$Performance;" } : Jvm.MethodName) prog_1_method_9_code 3 (Option.some (Jvm.ClassFile.FieldType.object "StaveHouse$Performance")) :: wAll) ({ frames := 1, cells := 0, slots := 0, locals := 21 } : Room) (va_Pc [.ref a0, .int v0] (gPre D ca ad av [(a0, .inr (12, rg 10 g0)), (a2, .inl (ca 4, 2, .inr (.inr (.inr (.inr g2)))))] sz)) (Q_S_performanceOf_0 D ca a0 a2 g0 g2 v0 (va_A [(a0, .inr (12, rg 10 g0)), (a2, .inl (ca 4, 2, .inr (.inr (.inr (.inr g2)))))] sz)) 0 0 (va_A [(a0, .inr (12, rg 10 g0)), (a2, .inl (ca 4, 2, .inr (.inr (.inr (.inr g2)))))] sz) := by
  refine gMet (Qc := Q_S_performanceOf_0 D ca a0 a2 g0 g2 v0) (lv := [(0, .ref a0), (1, .int v0)]) (by decide) (Nat.le_of_ble_eq_true rfl) rfl (fun A p e s m below meth c ls hx hb hr hml hown hts hlk hnm hl hP hK hD hS hA hX => ?_)
  have hown : s.vm.findClass "StaveHouse" = some m.cls := hown
  have hnm : meth.name = "performanceOf" := hnm
  refine lv_aload_n hx hb d_1_9_0 rfl (lv_at hl 0 rfl) ?_
  refine lv_iload_n hx hb d_1_9_1 rfl (lv_at hl 1 rfl) ?_
  have hFc1 := va_free (wc := [(a0, .inr (12, rg 10 g0)), (a2, .inl (ca 4, 2, .inr (.inr (.inr (.inr g2)))))]) hD hS hA [0, 1] rfl
  refine va_callq (va_runV (As := [.int v0]) (rest := []) ⟨hx, hb, hml, hown, hts⟩ (c_S_pieceAt_0 l D ca ad av s.heap.size a0 a2 g0 g2 v0 (hp0.sub [0] rfl) (hp2.sub [0, 1] rfl)) (cwV 1 hts (gdV k_5_182 k_5_184 ks_65 k_1_1 k_5_185) rfl rfl rfl (by decide +kernel) ⟨Nat.le_of_ble_eq_true rfl, Nat.le_of_ble_eq_true rfl⟩) (gPV hP hD hK hS hA hX [0, 1] (by decide) rfl a0 [.int v0] 0 (ci := 12) (r := (RX12, TX12, 10)) rfl rfl) rfl rfl hl.1 rfl (lv_room (Nat.le_of_ble_eq_true rfl)) d_1_9_2 ⟨Nat.le_of_ble_eq_true rfl, Nat.le_of_ble_eq_true rfl⟩) hS (fun q _ h => hFc1 q h) hFc1 (fun r1 u1 t1 H1 locs1 ht1 hvm1 hw1 hB1 hz1 hk1 hS1 => ?_)
  have hr1 := hw1
  obtain ⟨hP1, hD1⟩ := gJoin (wr := []) (w1 := [(a0, .inr (12, rg 10 g0)), (a2, .inl (ca 4, 2, .inr (.inr (.inr (.inr g2)))))]) hP hD [0, 1] [] rfl rfl (by decide) (by decide) hk1 hFc1 ht1 hB1
  have hP1 : va_P D cls [(a0, .inr (12, rg 10 g0)), (a2, .inl (ca 4, 2, .inr (.inr (.inr (.inr g2)))))] H1 := hP1
  have hD1 : va_D A [(a0, .inr (12, rg 10 g0)), (a2, .inl (ca 4, 2, .inr (.inr (.inr (.inr g2)))))] := hD1
  refine W.widen (k := 0) (n := 0) (Nat.le_of_ble_eq_true rfl) (Nat.le_of_ble_eq_true rfl) ?_
  subst hr1
  refine W.eq (g2 := F0 m 5 ls [.null]) rfl ?_
  refine lv_astore_nN (lv' := [(2, .null), (0, .ref a0), (1, .int v0)]) hx hb d_1_9_5 rfl hl (by decide) rfl (fun ls hl => ?_)
  refine lv_aload_nN hx hb d_1_9_6 rfl (lv_at hl 0 rfl) ?_
  refine lv_ifnullN (tgt := 17) hx hb d_1_9_7 (by decide) ?_
  refine lv_null hx hb d_1_9_17 ?_
  refine lv_goto (tgt := 25) hx hb d_1_9_18 (by decide) ?_
  have hP9 := hP1.sub (ws' := [(a0, .inr (12, rg 10 g0)), (a2, .inl (ca 4, 2, .inr (.inr (.inr (.inr g2)))))]) [0, 1] rfl
  have hD9 := hD1.sub (ws' := [(a0, .inr (12, rg 10 g0)), (a2, .inl (ca 4, 2, .inr (.inr (.inr (.inr g2)))))]) [0, 1] (by decide) rfl
  refine W.widen (k := 0) (n := 0) (Nat.le_of_ble_eq_true rfl) (Nat.le_of_ble_eq_true rfl) ?_
  exact W.aret (v := .null) hx hb hr (Or.inl ⟨_, rfl⟩) (Or.inl rfl) (fun t ht hW => ⟨⟨none, (), rfl, rfl, by rw [ht]; exact hP9, va_K.moved hW.alike hK, hD9⟩, hS1.F ht⟩) hS1.2.2 d_1_9_25
abbrev Q_S_stroke_0 (D : va_G) (ca : Nat → ClassId) (a0 : Nat) (a2 : Nat) (g0 : Nat → Value) (g2 : Nat → Option Nat) (v0 : Int32) (v1 : Int32) (v2 : Int32) (A : Nat → Prop) : Array Value → State → Outcome → State → Prop := va_Qi (S := Unit) (fun (r : Int32) (u : Unit) => r = (-1)) (fun u => gB D ca A [(a0, .inr (12, rg 10 g0)), (a2, .inl (ca 4, 2, .inr (.inr (.inr (.inr g2)))))]) A
set_option maxHeartbeats 8000000 in
set_option maxRecDepth 100000 in
theorem c_S_stroke_0 (l : Launch) (D : va_G) (ca : Nat → ClassId) (ad av : Nat → Nat) (sz : Nat) (a0 : Nat) (a2 : Nat) (g0 : Nat → Value) (g2 : Nat → Option Nat) (v0 : Int32) (v1 : Int32) (v2 : Int32) (hp0 : gF g0 [(3, .ref a2)]) (hp2 : gF g2 [(0, none), (1, none)]) : Met l ({ cls := "StaveHouse", name := "stroke", desc := "(III)I" } : Jvm.MethodName) (Cond.code ({ cls := "StaveHouse", name := "stroke", desc := "(III)I" } : Jvm.MethodName) prog_1_method_20_code 5 (Option.some Jvm.ClassFile.FieldType.int) :: wAll) ({ frames := 2, cells := 0, slots := 0, locals := 43 } : Room) (va_Pc [.ref a0, .int v0, .int v1, .int v2] (gPre D ca ad av [(a0, .inr (12, rg 10 g0)), (a2, .inl (ca 4, 2, .inr (.inr (.inr (.inr g2)))))] sz)) (Q_S_stroke_0 D ca a0 a2 g0 g2 v0 v1 v2 (va_A [(a0, .inr (12, rg 10 g0)), (a2, .inl (ca 4, 2, .inr (.inr (.inr (.inr g2)))))] sz)) 0 0 (va_A [(a0, .inr (12, rg 10 g0)), (a2, .inl (ca 4, 2, .inr (.inr (.inr (.inr g2)))))] sz) := by
  refine gMet (Qc := Q_S_stroke_0 D ca a0 a2 g0 g2 v0 v1 v2) (lv := [(0, .ref a0), (1, .int v0), (2, .int v1), (3, .int v2)]) (by decide) (Nat.le_of_ble_eq_true rfl) rfl (fun A p e s m below meth c ls hx hb hr hml hown hts hlk hnm hl hP hK hD hS hA hX => ?_)
  have hown : s.vm.findClass "StaveHouse" = some m.cls := hown
  have hnm : meth.name = "stroke" := hnm
  refine lv_aload_n hx hb d_1_20_0 rfl (lv_at hl 0 rfl) ?_
  refine lv_iload_n hx hb d_1_20_1 rfl (lv_at hl 1 rfl) ?_
  have hFc1 := va_free (wc := [(a0, .inr (12, rg 10 g0)), (a2, .inl (ca 4, 2, .inr (.inr (.inr (.inr g2)))))]) hD hS hA [0, 1] rfl
  refine va_callq (va_runV (As := [.int v0]) (rest := []) ⟨hx, hb, hml, hown, hts⟩ (c_S_performanceOf_0 l D ca ad av s.heap.size a0 a2 g0 g2 v0 (hp0.sub [0] rfl) (hp2.sub [0, 1] rfl)) (cwV 1 hts (gdV k_7_108 k_7_110 ks_89 k_1_1 k_7_111) rfl rfl rfl (by decide +kernel) ⟨Nat.le_of_ble_eq_true rfl, Nat.le_of_ble_eq_true rfl⟩) (gPV hP hD hK hS hA hX [0, 1] (by decide) rfl a0 [.int v0] 0 (ci := 12) (r := (RX12, TX12, 10)) rfl rfl) rfl rfl hl.1 rfl (lv_room (Nat.le_of_ble_eq_true rfl)) d_1_20_2 ⟨Nat.le_of_ble_eq_true rfl, Nat.le_of_ble_eq_true rfl⟩) hS (fun q _ h => hFc1 q h) hFc1 (fun r1 u1 t1 H1 locs1 ht1 hvm1 hw1 hB1 hz1 hk1 hS1 => ?_)
  have hr1 := hw1
  obtain ⟨hP1, hD1⟩ := gJoin (wr := []) (w1 := [(a0, .inr (12, rg 10 g0)), (a2, .inl (ca 4, 2, .inr (.inr (.inr (.inr g2)))))]) hP hD [0, 1] [] rfl rfl (by decide) (by decide) hk1 hFc1 ht1 hB1
  have hP1 : va_P D cls [(a0, .inr (12, rg 10 g0)), (a2, .inl (ca 4, 2, .inr (.inr (.inr (.inr g2)))))] H1 := hP1
  have hD1 : va_D A [(a0, .inr (12, rg 10 g0)), (a2, .inl (ca 4, 2, .inr (.inr (.inr (.inr g2)))))] := hD1
  refine W.widen (k := 0) (n := 0) (Nat.le_of_ble_eq_true rfl) (Nat.le_of_ble_eq_true rfl) ?_
  subst hr1
  refine W.eq (g2 := F0 m 5 ls [.null]) rfl ?_
  refine lv_astoreN (lv' := [(4, .null), (0, .ref a0), (1, .int v0), (2, .int v1), (3, .int v2)]) hx hb d_1_20_5 hl (by decide) rfl (fun ls hl => ?_)
  refine lv_aloadN hx hb d_1_20_7 (lv_at hl 0 rfl) ?_
  refine lv_ifnonnullN hx hb d_1_20_9 ?_
  refine lv_iconst (v := (-1)) hx hb d_1_20_12 (by decide) ?_
  refine lv_goto (tgt := 23) hx hb d_1_20_13 (by decide) ?_
  have hP9 := hP1.sub (ws' := [(a0, .inr (12, rg 10 g0)), (a2, .inl (ca 4, 2, .inr (.inr (.inr (.inr g2)))))]) [0, 1] rfl
  have hD9 := hD1.sub (ws' := [(a0, .inr (12, rg 10 g0)), (a2, .inl (ca 4, 2, .inr (.inr (.inr (.inr g2)))))]) [0, 1] (by decide) rfl
  refine W.widen (k := 0) (n := 0) (Nat.le_of_ble_eq_true rfl) (Nat.le_of_ble_eq_true rfl) ?_
  exact W.iret (v := (-1)) hx hb hr (fun t ht hW => ⟨⟨(-1), (), rfl, rfl, by rw [ht]; exact hP9, va_K.moved hW.alike hK, hD9⟩, hS1.F ht⟩) hS1.2.2 d_1_20_23
abbrev Q_S_file_0 (D : va_G) (ca : Nat → ClassId) (a0 : Nat) (a2 : Nat) (g0 : Nat → Value) (g2 : Nat → Option Nat) (v0 : Int32) (A : Nat → Prop) : Array Value → State → Outcome → State → Prop := va_Qi (S := Unit) (fun (r : Int32) (u : Unit) => r = (-1)) (fun u => gB D ca A [(a0, .inr (12, rg 10 g0)), (a2, .inl (ca 4, 2, .inr (.inr (.inr (.inr g2)))))]) A
set_option maxHeartbeats 8000000 in
set_option maxRecDepth 100000 in
theorem c_S_file_0 (l : Launch) (D : va_G) (ca : Nat → ClassId) (ad av : Nat → Nat) (sz : Nat) (a0 : Nat) (a2 : Nat) (g0 : Nat → Value) (g2 : Nat → Option Nat) (v0 : Int32) (hp0 : gF g0 [(3, .ref a2)]) (hp2 : gF g2 [(0, none), (1, none)]) : Met l ({ cls := "StaveHouse", name := "file", desc := "(I)I" } : Jvm.MethodName) (Cond.code ({ cls := "StaveHouse", name := "file", desc := "(I)I" } : Jvm.MethodName) prog_1_method_21_code 4 (Option.some Jvm.ClassFile.FieldType.int) :: wAll) ({ frames := 2, cells := 0, slots := 0, locals := 43 } : Room) (va_Pc [.ref a0, .int v0] (gPre D ca ad av [(a0, .inr (12, rg 10 g0)), (a2, .inl (ca 4, 2, .inr (.inr (.inr (.inr g2)))))] sz)) (Q_S_file_0 D ca a0 a2 g0 g2 v0 (va_A [(a0, .inr (12, rg 10 g0)), (a2, .inl (ca 4, 2, .inr (.inr (.inr (.inr g2)))))] sz)) 0 0 (va_A [(a0, .inr (12, rg 10 g0)), (a2, .inl (ca 4, 2, .inr (.inr (.inr (.inr g2)))))] sz) := by
  refine gMet (Qc := Q_S_file_0 D ca a0 a2 g0 g2 v0) (lv := [(0, .ref a0), (1, .int v0)]) (by decide) (Nat.le_of_ble_eq_true rfl) rfl (fun A p e s m below meth c ls hx hb hr hml hown hts hlk hnm hl hP hK hD hS hA hX => ?_)
  have hown : s.vm.findClass "StaveHouse" = some m.cls := hown
  have hnm : meth.name = "file" := hnm
  refine lv_aload_n hx hb d_1_21_0 rfl (lv_at hl 0 rfl) ?_
  refine lv_iload_n hx hb d_1_21_1 rfl (lv_at hl 1 rfl) ?_
  have hFc1 := va_free (wc := [(a0, .inr (12, rg 10 g0)), (a2, .inl (ca 4, 2, .inr (.inr (.inr (.inr g2)))))]) hD hS hA [0, 1] rfl
  refine va_callq (va_runV (As := [.int v0]) (rest := []) ⟨hx, hb, hml, hown, hts⟩ (c_S_pieceAt_0 l D ca ad av s.heap.size a0 a2 g0 g2 v0 (hp0.sub [0] rfl) (hp2.sub [0, 1] rfl)) (cwV 1 hts (gdV k_5_182 k_5_184 ks_65 k_1_1 k_5_185) rfl rfl rfl (by decide +kernel) ⟨Nat.le_of_ble_eq_true rfl, Nat.le_of_ble_eq_true rfl⟩) (gPV hP hD hK hS hA hX [0, 1] (by decide) rfl a0 [.int v0] 0 (ci := 12) (r := (RX12, TX12, 10)) rfl rfl) rfl rfl hl.1 rfl (lv_room (Nat.le_of_ble_eq_true rfl)) d_1_21_2 ⟨Nat.le_of_ble_eq_true rfl, Nat.le_of_ble_eq_true rfl⟩) hS (fun q _ h => hFc1 q h) hFc1 (fun r1 u1 t1 H1 locs1 ht1 hvm1 hw1 hB1 hz1 hk1 hS1 => ?_)
  have hr1 := hw1
  obtain ⟨hP1, hD1⟩ := gJoin (wr := []) (w1 := [(a0, .inr (12, rg 10 g0)), (a2, .inl (ca 4, 2, .inr (.inr (.inr (.inr g2)))))]) hP hD [0, 1] [] rfl rfl (by decide) (by decide) hk1 hFc1 ht1 hB1
  have hP1 : va_P D cls [(a0, .inr (12, rg 10 g0)), (a2, .inl (ca 4, 2, .inr (.inr (.inr (.inr g2)))))] H1 := hP1
  have hD1 : va_D A [(a0, .inr (12, rg 10 g0)), (a2, .inl (ca 4, 2, .inr (.inr (.inr (.inr g2)))))] := hD1
  refine W.widen (k := 0) (n := 0) (Nat.le_of_ble_eq_true rfl) (Nat.le_of_ble_eq_true rfl) ?_
  subst hr1
  refine W.eq (g2 := F0 m 5 ls [.null]) rfl ?_
  refine lv_astore_nN (lv' := [(2, .null), (0, .ref a0), (1, .int v0)]) hx hb d_1_21_5 rfl hl (by decide) rfl (fun ls hl => ?_)
  refine lv_aload_n hx hb d_1_21_6 rfl (lv_at hl 1 rfl) ?_
  refine lv_iload_n hx hb d_1_21_7 rfl (lv_at hl 2 rfl) ?_
  have hFc2 := va_free (wc := [(a0, .inr (12, rg 10 g0)), (a2, .inl (ca 4, 2, .inr (.inr (.inr (.inr g2)))))]) hD1 hS1 hA [0, 1] rfl
  refine va_callq (va_runV (As := [.int v0]) (rest := []) ⟨hx, hb, hml, hown, hts⟩ (c_S_performanceOf_0 l D ca ad av H1.size a0 a2 g0 g2 v0 (hp0.sub [0] rfl) (hp2.sub [0, 1] rfl)) (cwV 1 hts (gdV k_7_108 k_7_110 ks_89 k_1_1 k_7_111) rfl rfl rfl (by decide +kernel) ⟨Nat.le_of_ble_eq_true rfl, Nat.le_of_ble_eq_true rfl⟩) (gPV hP1 hD1 hK hS1 hA hX [0, 1] (by decide) rfl a0 [.int v0] 0 (ci := 12) (r := (RX12, TX12, 10)) rfl rfl) rfl rfl hl.1 rfl (lv_room (Nat.le_of_ble_eq_true rfl)) d_1_21_8 ⟨Nat.le_of_ble_eq_true rfl, Nat.le_of_ble_eq_true rfl⟩) hS1 (fun q _ h => hFc2 q h) hFc2 (fun r2 u2 t2 H2 locs2 ht2 hvm2 hw2 hB2 hz2 hk2 hS2 => ?_)
  have hr2 := hw2
  obtain ⟨hP2, hD2⟩ := gJoin (wr := []) (w1 := [(a0, .inr (12, rg 10 g0)), (a2, .inl (ca 4, 2, .inr (.inr (.inr (.inr g2)))))]) hP1 hD1 [0, 1] [] rfl rfl (by decide) (by decide) hk2 hFc2 ht2 hB2
  have hP2 : va_P D cls [(a0, .inr (12, rg 10 g0)), (a2, .inl (ca 4, 2, .inr (.inr (.inr (.inr g2)))))] H2 := hP2
  have hD2 : va_D A [(a0, .inr (12, rg 10 g0)), (a2, .inl (ca 4, 2, .inr (.inr (.inr (.inr g2)))))] := hD2
  refine W.widen (k := 0) (n := 0) (Nat.le_of_ble_eq_true rfl) (Nat.le_of_ble_eq_true rfl) ?_
  subst hr2
  refine W.eq (g2 := F0 m 11 ls [.null]) rfl ?_
  refine lv_astore_nN (lv' := [(3, .null), (2, .null), (0, .ref a0), (1, .int v0)]) hx hb d_1_21_11 rfl hl (by decide) rfl (fun ls hl => ?_)
  refine lv_aload_nN hx hb d_1_21_12 rfl (lv_at hl 1 rfl) ?_
  refine lv_ifnullN (tgt := 20) hx hb d_1_21_13 (by decide) ?_
  refine lv_iconst (v := (-1)) hx hb d_1_21_20 (by decide) ?_
  have hP9 := hP2.sub (ws' := [(a0, .inr (12, rg 10 g0)), (a2, .inl (ca 4, 2, .inr (.inr (.inr (.inr g2)))))]) [0, 1] rfl
  have hD9 := hD2.sub (ws' := [(a0, .inr (12, rg 10 g0)), (a2, .inl (ca 4, 2, .inr (.inr (.inr (.inr g2)))))]) [0, 1] (by decide) rfl
  refine W.widen (k := 0) (n := 0) (Nat.le_of_ble_eq_true rfl) (Nat.le_of_ble_eq_true rfl) ?_
  exact W.iret (v := (-1)) hx hb hr (fun t ht hW => ⟨⟨(-1), (), rfl, rfl, by rw [ht]; exact hP9, va_K.moved hW.alike hK, hD9⟩, hS2.F ht⟩) hS2.2.2 d_1_21_21
abbrev Q_ByteRow_at_0 (D : va_G) (ca : Nat → ClassId) (a0 : Nat) (g0 : Nat → Value) (v0 : Int32) (A : Nat → Prop) : Array Value → State → Outcome → State → Prop := va_Qi (S := Unit) (fun (r : Int32) (u : Unit) => r = (-1)) (fun u => gB D ca A [(a0, .inr (0, rg 3 g0))]) A
set_option maxHeartbeats 8000000 in
set_option maxRecDepth 100000 in
theorem c_ByteRow_at_0 (l : Launch) (D : va_G) (ca : Nat → ClassId) (ad av : Nat → Nat) (sz : Nat) (a0 : Nat) (g0 : Nat → Value) (v0 : Int32) (hp0 : gF g0 [(1, .int 0)]) : Met l ({ cls := "StaveHouse$ByteRow", name := "at", desc := "(I)I" } : Jvm.MethodName) (Cond.code ({ cls := "StaveHouse$ByteRow", name := "at", desc := "(I)I" } : Jvm.MethodName) prog_2_method_3_code 2 (Option.some Jvm.ClassFile.FieldType.int) :: wAll) ({ frames := 0, cells := 0, slots := 0, locals := 0 } : Room) (va_Pc [.ref a0, .int v0] (gPre D ca ad av [(a0, .inr (0, rg 3 g0))] sz)) (Q_ByteRow_at_0 D ca a0 g0 v0 (va_A [(a0, .inr (0, rg 3 g0))] sz)) 0 0 (va_A [(a0, .inr (0, rg 3 g0))] sz) := by
  refine gMet (Qc := Q_ByteRow_at_0 D ca a0 g0 v0) (lv := [(0, .ref a0), (1, .int v0)]) (by decide) (Nat.le_of_ble_eq_true rfl) rfl (fun A p e s m below meth c ls hx hb hr hml hown hts hlk hnm hl hP hK hD hS hA hX => ?_)
  have hown : s.vm.findClass "StaveHouse$ByteRow" = some m.cls := hown
  have hnm : meth.name = "at" := hnm
  refine lv_iload_n hx hb d_2_3_0 rfl (lv_at hl 1 rfl) ?_
  refine lv_if_lt (tgt := 12) hx hb d_2_3_1 (by decide) (fun c1 => ?_) (fun c1 => ?_)
  · refine lv_iconst (v := (-1)) hx hb d_2_3_12 (by decide) ?_
    refine lv_goto (tgt := 22) hx hb d_2_3_13 (by decide) ?_
    have hP9 := hP.sub (ws' := [(a0, .inr (0, rg 3 g0))]) [0] rfl
    have hD9 := hD.sub (ws' := [(a0, .inr (0, rg 3 g0))]) [0] (by decide) rfl
    refine W.widen (k := 0) (n := 0) (Nat.le_of_ble_eq_true rfl) (Nat.le_of_ble_eq_true rfl) ?_
    exact W.iret (v := (-1)) hx hb hr (fun t ht hW => ⟨⟨(-1), (), rfl, rfl, by rw [ht]; exact hP9, va_K.moved hW.alike hK, hD9⟩, hS.F ht⟩) hS.2.2 d_2_3_22
  · refine lv_iload_n hx hb d_2_3_4 rfl (lv_at hl 1 rfl) ?_
    refine lv_aload_n hx hb d_2_3_5 rfl (lv_at hl 0 rfl) ?_
    refine gget hx hb hts inW_0 hown hK hP 0 rfl rfl hp0 0 rfl (by decide) k_1_42 d_2_3_6 ?_
    refine lv_icmp_lt (tgt := 16) hx hb d_2_3_9 (by decide) (fun c => absurd c c1) (fun _ => ?_)
    refine lv_iconst (v := (-1)) hx hb d_2_3_12 (by decide) ?_
    refine lv_goto (tgt := 22) hx hb d_2_3_13 (by decide) ?_
    have hP9 := hP.sub (ws' := [(a0, .inr (0, rg 3 g0))]) [0] rfl
    have hD9 := hD.sub (ws' := [(a0, .inr (0, rg 3 g0))]) [0] (by decide) rfl
    refine W.widen (k := 0) (n := 0) (Nat.le_of_ble_eq_true rfl) (Nat.le_of_ble_eq_true rfl) ?_
    exact W.iret (v := (-1)) hx hb hr (fun t ht hW => ⟨⟨(-1), (), rfl, rfl, by rw [ht]; exact hP9, va_K.moved hW.alike hK, hD9⟩, hS.F ht⟩) hS.2.2 d_2_3_22
abbrev Q_S_out_0 (D : va_G) (ca : Nat → ClassId) (a0 : Nat) (a3 : Nat) (g0 : Nat → Value) (g3 : Nat → Value) (v0 : Int32) (A : Nat → Prop) : Array Value → State → Outcome → State → Prop := va_Qi (S := Unit) (fun (r : Int32) (u : Unit) => r = (-1)) (fun u => gB D ca A [(a0, .inr (12, rg 10 g0)), (a3, .inr (0, rg 3 g3))]) A
set_option maxHeartbeats 8000000 in
set_option maxRecDepth 100000 in
theorem c_S_out_0 (l : Launch) (D : va_G) (ca : Nat → ClassId) (ad av : Nat → Nat) (sz : Nat) (a0 : Nat) (a3 : Nat) (g0 : Nat → Value) (g3 : Nat → Value) (v0 : Int32) (hp0 : gF g0 [(2, .ref a3)]) (hp3 : gF g3 [(1, .int 0)]) : Met l ({ cls := "StaveHouse", name := "out", desc := "(I)I" } : Jvm.MethodName) (Cond.code ({ cls := "StaveHouse", name := "out", desc := "(I)I" } : Jvm.MethodName) prog_1_method_22_code 2 (Option.some Jvm.ClassFile.FieldType.int) :: wAll) ({ frames := 1, cells := 0, slots := 0, locals := 21 } : Room) (va_Pc [.ref a0, .int v0] (gPre D ca ad av [(a0, .inr (12, rg 10 g0)), (a3, .inr (0, rg 3 g3))] sz)) (Q_S_out_0 D ca a0 a3 g0 g3 v0 (va_A [(a0, .inr (12, rg 10 g0)), (a3, .inr (0, rg 3 g3))] sz)) 0 0 (va_A [(a0, .inr (12, rg 10 g0)), (a3, .inr (0, rg 3 g3))] sz) := by
  refine gMet (Qc := Q_S_out_0 D ca a0 a3 g0 g3 v0) (lv := [(0, .ref a0), (1, .int v0)]) (by decide) (Nat.le_of_ble_eq_true rfl) rfl (fun A p e s m below meth c ls hx hb hr hml hown hts hlk hnm hl hP hK hD hS hA hX => ?_)
  have hown : s.vm.findClass "StaveHouse" = some m.cls := hown
  have hnm : meth.name = "out" := hnm
  refine lv_aload_n hx hb d_1_22_0 rfl (lv_at hl 0 rfl) ?_
  refine gget hx hb hts inW_12 hown hK hP 0 rfl rfl hp0 0 rfl (by decide) k_2_129 d_1_22_1 ?_
  refine lv_iload_n hx hb d_1_22_4 rfl (lv_at hl 1 rfl) ?_
  have hFc1 := va_free (wc := [(a3, .inr (0, rg 3 g3))]) hD hS hA [1] rfl
  refine va_calli (va_runV (As := [.int v0]) (rest := []) ⟨hx, hb, hml, hown, hts⟩ (c_ByteRow_at_0 l D ca ad av s.heap.size a3 g3 v0 (hp3.sub [0] rfl)) (cwV 1 hts (gdV k_7_200 k_3_35 k_3_36 k_1_2 k_3_37) rfl rfl rfl (by decide +kernel) ⟨Nat.le_of_ble_eq_true rfl, Nat.le_of_ble_eq_true rfl⟩) (gPV hP hD hK hS hA hX [1] (by decide) rfl a3 [.int v0] 1 (ci := 0) (r := (RX0, TX0, 3)) rfl rfl) rfl rfl hl.1 rfl (lv_room (Nat.le_of_ble_eq_true rfl)) d_1_22_5 ⟨Nat.le_of_ble_eq_true rfl, Nat.le_of_ble_eq_true rfl⟩) hS (fun q _ h => hFc1 q h) hFc1 (fun r1 u1 t1 H1 locs1 ht1 hvm1 hw1 hB1 hz1 hk1 hS1 => ?_)
  have hr1 := hw1
  obtain ⟨hP1, hD1⟩ := gJoin (wr := [(a0, .inr (12, rg 10 g0))]) (w1 := [(a3, .inr (0, rg 3 g3))]) hP hD [1] [0] rfl rfl (by decide) (by decide) hk1 hFc1 ht1 hB1
  have hP1 : va_P D cls [(a0, .inr (12, rg 10 g0)), (a3, .inr (0, rg 3 g3))] H1 := hP1
  have hD1 : va_D A [(a0, .inr (12, rg 10 g0)), (a3, .inr (0, rg 3 g3))] := hD1
  refine W.widen (k := 0) (n := 0) (Nat.le_of_ble_eq_true rfl) (Nat.le_of_ble_eq_true rfl) ?_
  subst hr1
  have hP9 := hP1.sub (ws' := [(a0, .inr (12, rg 10 g0)), (a3, .inr (0, rg 3 g3))]) [0, 1] rfl
  have hD9 := hD1.sub (ws' := [(a0, .inr (12, rg 10 g0)), (a3, .inr (0, rg 3 g3))]) [0, 1] (by decide) rfl
  refine W.widen (k := 0) (n := 0) (Nat.le_of_ble_eq_true rfl) (Nat.le_of_ble_eq_true rfl) ?_
  exact W.iret (v := (-1)) hx hb hr (fun t ht hW => ⟨⟨(-1), (), rfl, rfl, by rw [ht]; exact hP9, va_K.moved hW.alike hK, hD9⟩, hS1.F ht⟩) hS1.2.2 d_1_22_8
abbrev Q_S_again_0 (D : va_G) (ca : Nat → ClassId) (a0 : Nat) (a3 : Nat) (g0 : Nat → Value) (g3 : Nat → Value) (A : Nat → Prop) : Array Value → State → Outcome → State → Prop := va_Qi (S := Unit) (fun (r : Int32) (u : Unit) => r = (-1)) (fun u => gB D ca A [(a0, .inr (12, rg 10 g0)), (a3, .inr (0, rg 3 g3))]) A
set_option maxHeartbeats 8000000 in
set_option maxRecDepth 100000 in
theorem c_S_again_0 (l : Launch) (D : va_G) (ca : Nat → ClassId) (ad av : Nat → Nat) (sz : Nat) (a0 : Nat) (a3 : Nat) (g0 : Nat → Value) (g3 : Nat → Value) (hp0 : gF g0 [(2, .ref a3)]) (hp3 : gF g3 [(1, .int 0)]) : Met l ({ cls := "StaveHouse", name := "again", desc := "()I" } : Jvm.MethodName) (Cond.code ({ cls := "StaveHouse", name := "again", desc := "()I" } : Jvm.MethodName) prog_1_method_23_code 2 (Option.some Jvm.ClassFile.FieldType.int) :: wAll) ({ frames := 0, cells := 0, slots := 0, locals := 0 } : Room) (va_Pc [.ref a0] (gPre D ca ad av [(a0, .inr (12, rg 10 g0)), (a3, .inr (0, rg 3 g3))] sz)) (Q_S_again_0 D ca a0 a3 g0 g3 (va_A [(a0, .inr (12, rg 10 g0)), (a3, .inr (0, rg 3 g3))] sz)) 0 0 (va_A [(a0, .inr (12, rg 10 g0)), (a3, .inr (0, rg 3 g3))] sz) := by
  refine gMet (Qc := Q_S_again_0 D ca a0 a3 g0 g3) (lv := [(0, .ref a0)]) (by decide) (Nat.le_of_ble_eq_true rfl) rfl (fun A p e s m below meth c ls hx hb hr hml hown hts hlk hnm hl hP hK hD hS hA hX => ?_)
  have hown : s.vm.findClass "StaveHouse" = some m.cls := hown
  have hnm : meth.name = "again" := hnm
  refine lv_aload_n hx hb d_1_23_0 rfl (lv_at hl 0 rfl) ?_
  refine gget hx hb hts inW_12 hown hK hP 0 rfl rfl hp0 0 rfl (by decide) k_2_129 d_1_23_1 ?_
  refine gget hx hb hts inW_0 hown hK hP 1 rfl rfl hp3 0 rfl (by decide) k_1_46 d_1_23_4 ?_
  refine lv_if_eq (tgt := 23) hx hb d_1_23_7 (by decide) (fun _ => ?_) (fun c => absurd (by decide) c)
  refine lv_iconst (v := (-1)) hx hb d_1_23_23 (by decide) ?_
  have hP9 := hP.sub (ws' := [(a0, .inr (12, rg 10 g0)), (a3, .inr (0, rg 3 g3))]) [0, 1] rfl
  have hD9 := hD.sub (ws' := [(a0, .inr (12, rg 10 g0)), (a3, .inr (0, rg 3 g3))]) [0, 1] (by decide) rfl
  refine W.widen (k := 0) (n := 0) (Nat.le_of_ble_eq_true rfl) (Nat.le_of_ble_eq_true rfl) ?_
  exact W.iret (v := (-1)) hx hb hr (fun t ht hW => ⟨⟨(-1), (), rfl, rfl, by rw [ht]; exact hP9, va_K.moved hW.alike hK, hD9⟩, hS.F ht⟩) hS.2.2 d_1_23_24
abbrev Q_S_track_0 (D : va_G) (ca : Nat → ClassId) (a0 : Nat) (g0 : Nat → Value) (v0 : Int32) (A : Nat → Prop) : Array Value → State → Outcome → State → Prop := va_Qi (S := Unit) (fun (r : Int32) (u : Unit) => r = (-2147483648)) (fun u => gB D ca A [(a0, .inr (12, rg 10 g0))]) A
set_option maxHeartbeats 8000000 in
set_option maxRecDepth 100000 in
theorem c_S_track_0 (l : Launch) (D : va_G) (ca : Nat → ClassId) (ad av : Nat → Nat) (sz : Nat) (a0 : Nat) (g0 : Nat → Value) (v0 : Int32) (hp0 : gF g0 [(8, .null)]) : Met l ({ cls := "StaveHouse", name := "track", desc := "(I)I" } : Jvm.MethodName) (Cond.code ({ cls := "StaveHouse", name := "track", desc := "(I)I" } : Jvm.MethodName) prog_1_method_25_code 2 (Option.some Jvm.ClassFile.FieldType.int) :: wAll) ({ frames := 0, cells := 0, slots := 0, locals := 0 } : Room) (va_Pc [.ref a0, .int v0] (gPre D ca ad av [(a0, .inr (12, rg 10 g0))] sz)) (Q_S_track_0 D ca a0 g0 v0 (va_A [(a0, .inr (12, rg 10 g0))] sz)) 0 0 (va_A [(a0, .inr (12, rg 10 g0))] sz) := by
  refine gMet (Qc := Q_S_track_0 D ca a0 g0 v0) (lv := [(0, .ref a0), (1, .int v0)]) (by decide) (Nat.le_of_ble_eq_true rfl) rfl (fun A p e s m below meth c ls hx hb hr hml hown hts hlk hnm hl hP hK hD hS hA hX => ?_)
  have hown : s.vm.findClass "StaveHouse" = some m.cls := hown
  have hnm : meth.name = "track" := hnm
  refine lv_aload_n hx hb d_1_25_0 rfl (lv_at hl 0 rfl) ?_
  refine gget hx hb hts inW_12 hown hK hP 0 rfl rfl hp0 0 rfl (by decide) k_2_135 d_1_25_1 ?_
  refine lv_ifnullN (tgt := 17) hx hb d_1_25_4 (by decide) ?_
  refine lv_ldc hx hb hown (hts _ k_6_199) d_1_25_17 ?_
  have hP9 := hP.sub (ws' := [(a0, .inr (12, rg 10 g0))]) [0] rfl
  have hD9 := hD.sub (ws' := [(a0, .inr (12, rg 10 g0))]) [0] (by decide) rfl
  refine W.widen (k := 0) (n := 0) (Nat.le_of_ble_eq_true rfl) (Nat.le_of_ble_eq_true rfl) ?_
  exact W.iret (v := (-2147483648)) hx hb hr (fun t ht hW => ⟨⟨(-2147483648), (), rfl, rfl, by rw [ht]; exact hP9, va_K.moved hW.alike hK, hD9⟩, hS.F ht⟩) hS.2.2 d_1_25_19
abbrev Q_S_sound_0 (D : va_G) (ca : Nat → ClassId) (a0 : Nat) (g0 : Nat → Value) (v0 : Int32) (v1 : Int32) (A : Nat → Prop) : Array Value → State → Outcome → State → Prop := va_Ql (S := Unit) (fun (r : Int64) (u : Unit) => r = (-1)) (fun u => gB D ca A [(a0, .inr (12, rg 10 g0))]) A
set_option maxHeartbeats 8000000 in
set_option maxRecDepth 100000 in
theorem c_S_sound_0 (l : Launch) (D : va_G) (ca : Nat → ClassId) (ad av : Nat → Nat) (sz : Nat) (a0 : Nat) (g0 : Nat → Value) (v0 : Int32) (v1 : Int32) (hp0 : gF g0 [(8, .null)]) : Met l ({ cls := "StaveHouse", name := "sound", desc := "(II)J" } : Jvm.MethodName) (Cond.code ({ cls := "StaveHouse", name := "sound", desc := "(II)J" } : Jvm.MethodName) prog_1_method_26_code 3 (Option.some Jvm.ClassFile.FieldType.long) :: wAll) ({ frames := 0, cells := 0, slots := 0, locals := 0 } : Room) (va_Pc [.ref a0, .int v0, .int v1] (gPre D ca ad av [(a0, .inr (12, rg 10 g0))] sz)) (Q_S_sound_0 D ca a0 g0 v0 v1 (va_A [(a0, .inr (12, rg 10 g0))] sz)) 0 0 (va_A [(a0, .inr (12, rg 10 g0))] sz) := by
  refine gMet (Qc := Q_S_sound_0 D ca a0 g0 v0 v1) (lv := [(0, .ref a0), (1, .int v0), (2, .int v1)]) (by decide) (Nat.le_of_ble_eq_true rfl) rfl (fun A p e s m below meth c ls hx hb hr hml hown hts hlk hnm hl hP hK hD hS hA hX => ?_)
  have hown : s.vm.findClass "StaveHouse" = some m.cls := hown
  have hnm : meth.name = "sound" := hnm
  refine lv_aload_n hx hb d_1_26_0 rfl (lv_at hl 0 rfl) ?_
  refine gget hx hb hts inW_12 hown hK hP 0 rfl rfl hp0 0 rfl (by decide) k_2_135 d_1_26_1 ?_
  refine lv_ifnullN (tgt := 32) hx hb d_1_26_4 (by decide) ?_
  refine lv_ldc2 hx hb hown (hts _ k_6_184) d_1_26_32 ?_
  have hP9 := hP.sub (ws' := [(a0, .inr (12, rg 10 g0))]) [0] rfl
  have hD9 := hD.sub (ws' := [(a0, .inr (12, rg 10 g0))]) [0] (by decide) rfl
  refine W.widen (k := 0) (n := 0) (Nat.le_of_ble_eq_true rfl) (Nat.le_of_ble_eq_true rfl) ?_
  exact W.lret (v := (-1)) hx hb hr (fun t ht hW => ⟨⟨(-1), (), rfl, rfl, by rw [ht]; exact hP9, va_K.moved hW.alike hK, hD9⟩, hS.F ht⟩) hS.2.2 d_1_26_35
abbrev Q_S_down_0 (D : va_G) (ca : Nat → ClassId) (a0 : Nat) (g0 : Nat → Value) (v0 : Int32) (A : Nat → Prop) : Array Value → State → Outcome → State → Prop := va_Qi (S := Unit) (fun (r : Int32) (u : Unit) => r = (-1)) (fun u => gB D ca A [(a0, .inr (12, rg 10 g0))]) A
set_option maxHeartbeats 8000000 in
set_option maxRecDepth 100000 in
theorem c_S_down_0 (l : Launch) (D : va_G) (ca : Nat → ClassId) (ad av : Nat → Nat) (sz : Nat) (a0 : Nat) (g0 : Nat → Value) (v0 : Int32) (hp0 : gF g0 [(8, .null)]) : Met l ({ cls := "StaveHouse", name := "down", desc := "(I)I" } : Jvm.MethodName) (Cond.code ({ cls := "StaveHouse", name := "down", desc := "(I)I" } : Jvm.MethodName) prog_1_method_27_code 3 (Option.some Jvm.ClassFile.FieldType.int) :: wAll) ({ frames := 0, cells := 0, slots := 0, locals := 0 } : Room) (va_Pc [.ref a0, .int v0] (gPre D ca ad av [(a0, .inr (12, rg 10 g0))] sz)) (Q_S_down_0 D ca a0 g0 v0 (va_A [(a0, .inr (12, rg 10 g0))] sz)) 0 0 (va_A [(a0, .inr (12, rg 10 g0))] sz) := by
  refine gMet (Qc := Q_S_down_0 D ca a0 g0 v0) (lv := [(0, .ref a0), (1, .int v0)]) (by decide) (Nat.le_of_ble_eq_true rfl) rfl (fun A p e s m below meth c ls hx hb hr hml hown hts hlk hnm hl hP hK hD hS hA hX => ?_)
  have hown : s.vm.findClass "StaveHouse" = some m.cls := hown
  have hnm : meth.name = "down" := hnm
  refine lv_iload_n hx hb d_1_27_0 rfl (lv_at hl 1 rfl) ?_
  refine lv_iconst (v := 4) hx hb d_1_27_1 (by decide) ?_
  refine lv_icmp_eq (tgt := 23) hx hb d_1_27_2 (by decide) (fun c1 => ?_) (fun c1 => ?_)
  · refine lv_iconst (v := 1) hx hb d_1_27_23 (by decide) ?_
    refine lv_goto (tgt := 28) hx hb d_1_27_24 (by decide) ?_
    refine lv_istore_n (lv' := [(2, .int 1), (0, .ref a0), (1, .int v0)]) hx hb d_1_27_28 rfl hl (by decide) rfl (fun ls hl => ?_)
    refine lv_aload_n hx hb d_1_27_29 rfl (lv_at hl 1 rfl) ?_
    refine gget hx hb hts inW_12 hown hK hP 0 rfl rfl hp0 0 rfl (by decide) k_2_135 d_1_27_30 ?_
    refine lv_ifnullN (tgt := 50) hx hb d_1_27_33 (by decide) ?_
    refine lv_iconst (v := (-1)) hx hb d_1_27_50 (by decide) ?_
    have hP9 := hP.sub (ws' := [(a0, .inr (12, rg 10 g0))]) [0] rfl
    have hD9 := hD.sub (ws' := [(a0, .inr (12, rg 10 g0))]) [0] (by decide) rfl
    refine W.widen (k := 0) (n := 0) (Nat.le_of_ble_eq_true rfl) (Nat.le_of_ble_eq_true rfl) ?_
    exact W.iret (v := (-1)) hx hb hr (fun t ht hW => ⟨⟨(-1), (), rfl, rfl, by rw [ht]; exact hP9, va_K.moved hW.alike hK, hD9⟩, hS.F ht⟩) hS.2.2 d_1_27_51
  · refine lv_iload_n hx hb d_1_27_5 rfl (lv_at hl 1 rfl) ?_
    refine lv_bipush (v := 8) hx hb d_1_27_6 (by decide) ?_
    refine lv_icmp_eq (tgt := 23) hx hb d_1_27_8 (by decide) (fun c2 => ?_) (fun c2 => ?_)
    · refine lv_iconst (v := 1) hx hb d_1_27_23 (by decide) ?_
      refine lv_goto (tgt := 28) hx hb d_1_27_24 (by decide) ?_
      refine lv_istore_n (lv' := [(2, .int 1), (0, .ref a0), (1, .int v0)]) hx hb d_1_27_28 rfl hl (by decide) rfl (fun ls hl => ?_)
      refine lv_aload_n hx hb d_1_27_29 rfl (lv_at hl 1 rfl) ?_
      refine gget hx hb hts inW_12 hown hK hP 0 rfl rfl hp0 0 rfl (by decide) k_2_135 d_1_27_30 ?_
      refine lv_ifnullN (tgt := 50) hx hb d_1_27_33 (by decide) ?_
      refine lv_iconst (v := (-1)) hx hb d_1_27_50 (by decide) ?_
      have hP9 := hP.sub (ws' := [(a0, .inr (12, rg 10 g0))]) [0] rfl
      have hD9 := hD.sub (ws' := [(a0, .inr (12, rg 10 g0))]) [0] (by decide) rfl
      refine W.widen (k := 0) (n := 0) (Nat.le_of_ble_eq_true rfl) (Nat.le_of_ble_eq_true rfl) ?_
      exact W.iret (v := (-1)) hx hb hr (fun t ht hW => ⟨⟨(-1), (), rfl, rfl, by rw [ht]; exact hP9, va_K.moved hW.alike hK, hD9⟩, hS.F ht⟩) hS.2.2 d_1_27_51
    · refine lv_iload_n hx hb d_1_27_11 rfl (lv_at hl 1 rfl) ?_
      refine lv_bipush (v := 16) hx hb d_1_27_12 (by decide) ?_
      refine lv_icmp_eq (tgt := 23) hx hb d_1_27_14 (by decide) (fun c3 => ?_) (fun c3 => ?_)
      · refine lv_iconst (v := 1) hx hb d_1_27_23 (by decide) ?_
        refine lv_goto (tgt := 28) hx hb d_1_27_24 (by decide) ?_
        refine lv_istore_n (lv' := [(2, .int 1), (0, .ref a0), (1, .int v0)]) hx hb d_1_27_28 rfl hl (by decide) rfl (fun ls hl => ?_)
        refine lv_aload_n hx hb d_1_27_29 rfl (lv_at hl 1 rfl) ?_
        refine gget hx hb hts inW_12 hown hK hP 0 rfl rfl hp0 0 rfl (by decide) k_2_135 d_1_27_30 ?_
        refine lv_ifnullN (tgt := 50) hx hb d_1_27_33 (by decide) ?_
        refine lv_iconst (v := (-1)) hx hb d_1_27_50 (by decide) ?_
        have hP9 := hP.sub (ws' := [(a0, .inr (12, rg 10 g0))]) [0] rfl
        have hD9 := hD.sub (ws' := [(a0, .inr (12, rg 10 g0))]) [0] (by decide) rfl
        refine W.widen (k := 0) (n := 0) (Nat.le_of_ble_eq_true rfl) (Nat.le_of_ble_eq_true rfl) ?_
        exact W.iret (v := (-1)) hx hb hr (fun t ht hW => ⟨⟨(-1), (), rfl, rfl, by rw [ht]; exact hP9, va_K.moved hW.alike hK, hD9⟩, hS.F ht⟩) hS.2.2 d_1_27_51
      · refine lv_iload_n hx hb d_1_27_17 rfl (lv_at hl 1 rfl) ?_
        refine lv_bipush (v := 32) hx hb d_1_27_18 (by decide) ?_
        refine lv_icmp_ne (tgt := 27) hx hb d_1_27_20 (by decide) (fun c4 => ?_) (fun c4 => ?_)
        · refine lv_iconst (v := 0) hx hb d_1_27_27 (by decide) ?_
          refine lv_istore_n (lv' := [(2, .int 0), (0, .ref a0), (1, .int v0)]) hx hb d_1_27_28 rfl hl (by decide) rfl (fun ls hl => ?_)
          refine lv_aload_n hx hb d_1_27_29 rfl (lv_at hl 1 rfl) ?_
          refine gget hx hb hts inW_12 hown hK hP 0 rfl rfl hp0 0 rfl (by decide) k_2_135 d_1_27_30 ?_
          refine lv_ifnullN (tgt := 50) hx hb d_1_27_33 (by decide) ?_
          refine lv_iconst (v := (-1)) hx hb d_1_27_50 (by decide) ?_
          have hP9 := hP.sub (ws' := [(a0, .inr (12, rg 10 g0))]) [0] rfl
          have hD9 := hD.sub (ws' := [(a0, .inr (12, rg 10 g0))]) [0] (by decide) rfl
          refine W.widen (k := 0) (n := 0) (Nat.le_of_ble_eq_true rfl) (Nat.le_of_ble_eq_true rfl) ?_
          exact W.iret (v := (-1)) hx hb hr (fun t ht hW => ⟨⟨(-1), (), rfl, rfl, by rw [ht]; exact hP9, va_K.moved hW.alike hK, hD9⟩, hS.F ht⟩) hS.2.2 d_1_27_51
        · refine lv_iconst (v := 1) hx hb d_1_27_23 (by decide) ?_
          refine lv_goto (tgt := 28) hx hb d_1_27_24 (by decide) ?_
          refine lv_istore_n (lv' := [(2, .int 1), (0, .ref a0), (1, .int v0)]) hx hb d_1_27_28 rfl hl (by decide) rfl (fun ls hl => ?_)
          refine lv_aload_n hx hb d_1_27_29 rfl (lv_at hl 1 rfl) ?_
          refine gget hx hb hts inW_12 hown hK hP 0 rfl rfl hp0 0 rfl (by decide) k_2_135 d_1_27_30 ?_
          refine lv_ifnullN (tgt := 50) hx hb d_1_27_33 (by decide) ?_
          refine lv_iconst (v := (-1)) hx hb d_1_27_50 (by decide) ?_
          have hP9 := hP.sub (ws' := [(a0, .inr (12, rg 10 g0))]) [0] rfl
          have hD9 := hD.sub (ws' := [(a0, .inr (12, rg 10 g0))]) [0] (by decide) rfl
          refine W.widen (k := 0) (n := 0) (Nat.le_of_ble_eq_true rfl) (Nat.le_of_ble_eq_true rfl) ?_
          exact W.iret (v := (-1)) hx hb hr (fun t ht hW => ⟨⟨(-1), (), rfl, rfl, by rw [ht]; exact hP9, va_K.moved hW.alike hK, hD9⟩, hS.F ht⟩) hS.2.2 d_1_27_51
abbrev Q_S_play_0 (D : va_G) (ca : Nat → ClassId) (a0 : Nat) (a2 : Nat) (g0 : Nat → Value) (g2 : Nat → Option Nat) (v0 : Int32) (v1 : Int32) (A : Nat → Prop) : Array Value → State → Outcome → State → Prop := va_Qi (S := Unit) (fun (r : Int32) (u : Unit) => r = (-1)) (fun u => gB D ca A [(a0, .inr (12, rg 10 g0)), (a2, .inl (ca 4, 2, .inr (.inr (.inr (.inr g2)))))]) A
set_option maxHeartbeats 8000000 in
set_option maxRecDepth 100000 in
theorem c_S_play_0 (l : Launch) (D : va_G) (ca : Nat → ClassId) (ad av : Nat → Nat) (sz : Nat) (a0 : Nat) (a2 : Nat) (g0 : Nat → Value) (g2 : Nat → Option Nat) (v0 : Int32) (v1 : Int32) (hp0 : gF g0 [(3, .ref a2)]) (hp2 : gF g2 [(0, none), (1, none)]) : Met l ({ cls := "StaveHouse", name := "play", desc := "(II)I" } : Jvm.MethodName) (Cond.code ({ cls := "StaveHouse", name := "play", desc := "(II)I" } : Jvm.MethodName) prog_1_method_28_code 5 (Option.some Jvm.ClassFile.FieldType.int) :: wAll) ({ frames := 2, cells := 0, slots := 0, locals := 43 } : Room) (va_Pc [.ref a0, .int v0, .int v1] (gPre D ca ad av [(a0, .inr (12, rg 10 g0)), (a2, .inl (ca 4, 2, .inr (.inr (.inr (.inr g2)))))] sz)) (Q_S_play_0 D ca a0 a2 g0 g2 v0 v1 (va_A [(a0, .inr (12, rg 10 g0)), (a2, .inl (ca 4, 2, .inr (.inr (.inr (.inr g2)))))] sz)) 0 0 (va_A [(a0, .inr (12, rg 10 g0)), (a2, .inl (ca 4, 2, .inr (.inr (.inr (.inr g2)))))] sz) := by
  refine gMet (Qc := Q_S_play_0 D ca a0 a2 g0 g2 v0 v1) (lv := [(0, .ref a0), (1, .int v0), (2, .int v1)]) (by decide) (Nat.le_of_ble_eq_true rfl) rfl (fun A p e s m below meth c ls hx hb hr hml hown hts hlk hnm hl hP hK hD hS hA hX => ?_)
  have hown : s.vm.findClass "StaveHouse" = some m.cls := hown
  have hnm : meth.name = "play" := hnm
  refine lv_aload_n hx hb d_1_28_0 rfl (lv_at hl 0 rfl) ?_
  refine lv_iload_n hx hb d_1_28_1 rfl (lv_at hl 1 rfl) ?_
  have hFc1 := va_free (wc := [(a0, .inr (12, rg 10 g0)), (a2, .inl (ca 4, 2, .inr (.inr (.inr (.inr g2)))))]) hD hS hA [0, 1] rfl
  refine va_callq (va_runV (As := [.int v0]) (rest := []) ⟨hx, hb, hml, hown, hts⟩ (c_S_performanceOf_0 l D ca ad av s.heap.size a0 a2 g0 g2 v0 (hp0.sub [0] rfl) (hp2.sub [0, 1] rfl)) (cwV 1 hts (gdV k_7_108 k_7_110 ks_89 k_1_1 k_7_111) rfl rfl rfl (by decide +kernel) ⟨Nat.le_of_ble_eq_true rfl, Nat.le_of_ble_eq_true rfl⟩) (gPV hP hD hK hS hA hX [0, 1] (by decide) rfl a0 [.int v0] 0 (ci := 12) (r := (RX12, TX12, 10)) rfl rfl) rfl rfl hl.1 rfl (lv_room (Nat.le_of_ble_eq_true rfl)) d_1_28_2 ⟨Nat.le_of_ble_eq_true rfl, Nat.le_of_ble_eq_true rfl⟩) hS (fun q _ h => hFc1 q h) hFc1 (fun r1 u1 t1 H1 locs1 ht1 hvm1 hw1 hB1 hz1 hk1 hS1 => ?_)
  have hr1 := hw1
  obtain ⟨hP1, hD1⟩ := gJoin (wr := []) (w1 := [(a0, .inr (12, rg 10 g0)), (a2, .inl (ca 4, 2, .inr (.inr (.inr (.inr g2)))))]) hP hD [0, 1] [] rfl rfl (by decide) (by decide) hk1 hFc1 ht1 hB1
  have hP1 : va_P D cls [(a0, .inr (12, rg 10 g0)), (a2, .inl (ca 4, 2, .inr (.inr (.inr (.inr g2)))))] H1 := hP1
  have hD1 : va_D A [(a0, .inr (12, rg 10 g0)), (a2, .inl (ca 4, 2, .inr (.inr (.inr (.inr g2)))))] := hD1
  refine W.widen (k := 0) (n := 0) (Nat.le_of_ble_eq_true rfl) (Nat.le_of_ble_eq_true rfl) ?_
  subst hr1
  refine W.eq (g2 := F0 m 5 ls [.null]) rfl ?_
  refine lv_astore_nN (lv' := [(3, .null), (0, .ref a0), (1, .int v0), (2, .int v1)]) hx hb d_1_28_5 rfl hl (by decide) rfl (fun ls hl => ?_)
  refine lv_aload_n hx hb d_1_28_6 rfl (lv_at hl 1 rfl) ?_
  refine lv_iload_n hx hb d_1_28_7 rfl (lv_at hl 2 rfl) ?_
  have hFc2 := va_free (wc := [(a0, .inr (12, rg 10 g0)), (a2, .inl (ca 4, 2, .inr (.inr (.inr (.inr g2)))))]) hD1 hS1 hA [0, 1] rfl
  refine va_callq (va_runV (As := [.int v0]) (rest := []) ⟨hx, hb, hml, hown, hts⟩ (c_S_pieceAt_0 l D ca ad av H1.size a0 a2 g0 g2 v0 (hp0.sub [0] rfl) (hp2.sub [0, 1] rfl)) (cwV 1 hts (gdV k_5_182 k_5_184 ks_65 k_1_1 k_5_185) rfl rfl rfl (by decide +kernel) ⟨Nat.le_of_ble_eq_true rfl, Nat.le_of_ble_eq_true rfl⟩) (gPV hP1 hD1 hK hS1 hA hX [0, 1] (by decide) rfl a0 [.int v0] 0 (ci := 12) (r := (RX12, TX12, 10)) rfl rfl) rfl rfl hl.1 rfl (lv_room (Nat.le_of_ble_eq_true rfl)) d_1_28_8 ⟨Nat.le_of_ble_eq_true rfl, Nat.le_of_ble_eq_true rfl⟩) hS1 (fun q _ h => hFc2 q h) hFc2 (fun r2 u2 t2 H2 locs2 ht2 hvm2 hw2 hB2 hz2 hk2 hS2 => ?_)
  have hr2 := hw2
  obtain ⟨hP2, hD2⟩ := gJoin (wr := []) (w1 := [(a0, .inr (12, rg 10 g0)), (a2, .inl (ca 4, 2, .inr (.inr (.inr (.inr g2)))))]) hP1 hD1 [0, 1] [] rfl rfl (by decide) (by decide) hk2 hFc2 ht2 hB2
  have hP2 : va_P D cls [(a0, .inr (12, rg 10 g0)), (a2, .inl (ca 4, 2, .inr (.inr (.inr (.inr g2)))))] H2 := hP2
  have hD2 : va_D A [(a0, .inr (12, rg 10 g0)), (a2, .inl (ca 4, 2, .inr (.inr (.inr (.inr g2)))))] := hD2
  refine W.widen (k := 0) (n := 0) (Nat.le_of_ble_eq_true rfl) (Nat.le_of_ble_eq_true rfl) ?_
  subst hr2
  refine W.eq (g2 := F0 m 11 ls [.null]) rfl ?_
  refine lv_astoreN (lv' := [(4, .null), (3, .null), (0, .ref a0), (1, .int v0), (2, .int v1)]) hx hb d_1_28_11 hl (by decide) rfl (fun ls hl => ?_)
  refine lv_aload_nN hx hb d_1_28_13 rfl (lv_at hl 1 rfl) ?_
  refine lv_ifnullN (tgt := 33) hx hb d_1_28_14 (by decide) ?_
  refine lv_iconst (v := (-1)) hx hb d_1_28_33 (by decide) ?_
  have hP9 := hP2.sub (ws' := [(a0, .inr (12, rg 10 g0)), (a2, .inl (ca 4, 2, .inr (.inr (.inr (.inr g2)))))]) [0, 1] rfl
  have hD9 := hD2.sub (ws' := [(a0, .inr (12, rg 10 g0)), (a2, .inl (ca 4, 2, .inr (.inr (.inr (.inr g2)))))]) [0, 1] (by decide) rfl
  refine W.widen (k := 0) (n := 0) (Nat.le_of_ble_eq_true rfl) (Nat.le_of_ble_eq_true rfl) ?_
  exact W.iret (v := (-1)) hx hb hr (fun t ht hW => ⟨⟨(-1), (), rfl, rfl, by rw [ht]; exact hP9, va_K.moved hW.alike hK, hD9⟩, hS2.F ht⟩) hS2.2.2 d_1_28_34
abbrev Q_S_sample_0 (D : va_G) (ca : Nat → ClassId) (a0 : Nat) (a2 : Nat) (g0 : Nat → Value) (g2 : Nat → Option Nat) (v0 : Int32) (v1 : Int32) (v2 : Int32) (A : Nat → Prop) : Array Value → State → Outcome → State → Prop := va_Qi (S := Unit) (fun (r : Int32) (u : Unit) => r = (-2147483648)) (fun u => gB D ca A [(a0, .inr (12, rg 10 g0)), (a2, .inl (ca 4, 2, .inr (.inr (.inr (.inr g2)))))]) A
set_option maxHeartbeats 8000000 in
set_option maxRecDepth 100000 in
theorem c_S_sample_0 (l : Launch) (D : va_G) (ca : Nat → ClassId) (ad av : Nat → Nat) (sz : Nat) (a0 : Nat) (a2 : Nat) (g0 : Nat → Value) (g2 : Nat → Option Nat) (v0 : Int32) (v1 : Int32) (v2 : Int32) (hp0 : gF g0 [(3, .ref a2)]) (hp2 : gF g2 [(0, none), (1, none)]) : Met l ({ cls := "StaveHouse", name := "sample", desc := "(III)I" } : Jvm.MethodName) (Cond.code ({ cls := "StaveHouse", name := "sample", desc := "(III)I" } : Jvm.MethodName) prog_1_method_29_code 5 (Option.some Jvm.ClassFile.FieldType.int) :: wAll) ({ frames := 2, cells := 0, slots := 0, locals := 43 } : Room) (va_Pc [.ref a0, .int v0, .int v1, .int v2] (gPre D ca ad av [(a0, .inr (12, rg 10 g0)), (a2, .inl (ca 4, 2, .inr (.inr (.inr (.inr g2)))))] sz)) (Q_S_sample_0 D ca a0 a2 g0 g2 v0 v1 v2 (va_A [(a0, .inr (12, rg 10 g0)), (a2, .inl (ca 4, 2, .inr (.inr (.inr (.inr g2)))))] sz)) 0 0 (va_A [(a0, .inr (12, rg 10 g0)), (a2, .inl (ca 4, 2, .inr (.inr (.inr (.inr g2)))))] sz) := by
  refine gMet (Qc := Q_S_sample_0 D ca a0 a2 g0 g2 v0 v1 v2) (lv := [(0, .ref a0), (1, .int v0), (2, .int v1), (3, .int v2)]) (by decide) (Nat.le_of_ble_eq_true rfl) rfl (fun A p e s m below meth c ls hx hb hr hml hown hts hlk hnm hl hP hK hD hS hA hX => ?_)
  have hown : s.vm.findClass "StaveHouse" = some m.cls := hown
  have hnm : meth.name = "sample" := hnm
  refine lv_aload_n hx hb d_1_29_0 rfl (lv_at hl 0 rfl) ?_
  refine lv_iload_n hx hb d_1_29_1 rfl (lv_at hl 1 rfl) ?_
  have hFc1 := va_free (wc := [(a0, .inr (12, rg 10 g0)), (a2, .inl (ca 4, 2, .inr (.inr (.inr (.inr g2)))))]) hD hS hA [0, 1] rfl
  refine va_callq (va_runV (As := [.int v0]) (rest := []) ⟨hx, hb, hml, hown, hts⟩ (c_S_performanceOf_0 l D ca ad av s.heap.size a0 a2 g0 g2 v0 (hp0.sub [0] rfl) (hp2.sub [0, 1] rfl)) (cwV 1 hts (gdV k_7_108 k_7_110 ks_89 k_1_1 k_7_111) rfl rfl rfl (by decide +kernel) ⟨Nat.le_of_ble_eq_true rfl, Nat.le_of_ble_eq_true rfl⟩) (gPV hP hD hK hS hA hX [0, 1] (by decide) rfl a0 [.int v0] 0 (ci := 12) (r := (RX12, TX12, 10)) rfl rfl) rfl rfl hl.1 rfl (lv_room (Nat.le_of_ble_eq_true rfl)) d_1_29_2 ⟨Nat.le_of_ble_eq_true rfl, Nat.le_of_ble_eq_true rfl⟩) hS (fun q _ h => hFc1 q h) hFc1 (fun r1 u1 t1 H1 locs1 ht1 hvm1 hw1 hB1 hz1 hk1 hS1 => ?_)
  have hr1 := hw1
  obtain ⟨hP1, hD1⟩ := gJoin (wr := []) (w1 := [(a0, .inr (12, rg 10 g0)), (a2, .inl (ca 4, 2, .inr (.inr (.inr (.inr g2)))))]) hP hD [0, 1] [] rfl rfl (by decide) (by decide) hk1 hFc1 ht1 hB1
  have hP1 : va_P D cls [(a0, .inr (12, rg 10 g0)), (a2, .inl (ca 4, 2, .inr (.inr (.inr (.inr g2)))))] H1 := hP1
  have hD1 : va_D A [(a0, .inr (12, rg 10 g0)), (a2, .inl (ca 4, 2, .inr (.inr (.inr (.inr g2)))))] := hD1
  refine W.widen (k := 0) (n := 0) (Nat.le_of_ble_eq_true rfl) (Nat.le_of_ble_eq_true rfl) ?_
  subst hr1
  refine W.eq (g2 := F0 m 5 ls [.null]) rfl ?_
  refine lv_astoreN (lv' := [(4, .null), (0, .ref a0), (1, .int v0), (2, .int v1), (3, .int v2)]) hx hb d_1_29_5 hl (by decide) rfl (fun ls hl => ?_)
  refine lv_aloadN hx hb d_1_29_7 (lv_at hl 0 rfl) ?_
  refine lv_ifnullN (tgt := 25) hx hb d_1_29_9 (by decide) ?_
  refine lv_ldc hx hb hown (hts _ k_6_199) d_1_29_25 ?_
  have hP9 := hP1.sub (ws' := [(a0, .inr (12, rg 10 g0)), (a2, .inl (ca 4, 2, .inr (.inr (.inr (.inr g2)))))]) [0, 1] rfl
  have hD9 := hD1.sub (ws' := [(a0, .inr (12, rg 10 g0)), (a2, .inl (ca 4, 2, .inr (.inr (.inr (.inr g2)))))]) [0, 1] (by decide) rfl
  refine W.widen (k := 0) (n := 0) (Nat.le_of_ble_eq_true rfl) (Nat.le_of_ble_eq_true rfl) ?_
  exact W.iret (v := (-2147483648)) hx hb hr (fun t ht hW => ⟨⟨(-2147483648), (), rfl, rfl, by rw [ht]; exact hP9, va_K.moved hW.alike hK, hD9⟩, hS1.F ht⟩) hS1.2.2 d_1_29_27
abbrev Q_S_moment_0 (D : va_G) (ca : Nat → ClassId) (a0 : Nat) (a2 : Nat) (g0 : Nat → Value) (g2 : Nat → Option Nat) (v0 : Int32) (v1 : Int32) (v2 : Int32) (A : Nat → Prop) : Array Value → State → Outcome → State → Prop := va_Ql (S := Unit) (fun (r : Int64) (u : Unit) => r = (-2147483648)) (fun u => gB D ca A [(a0, .inr (12, rg 10 g0)), (a2, .inl (ca 4, 2, .inr (.inr (.inr (.inr g2)))))]) A
set_option maxHeartbeats 8000000 in
set_option maxRecDepth 100000 in
theorem c_S_moment_0 (l : Launch) (D : va_G) (ca : Nat → ClassId) (ad av : Nat → Nat) (sz : Nat) (a0 : Nat) (a2 : Nat) (g0 : Nat → Value) (g2 : Nat → Option Nat) (v0 : Int32) (v1 : Int32) (v2 : Int32) (hp0 : gF g0 [(3, .ref a2)]) (hp2 : gF g2 [(0, none), (1, none)]) : Met l ({ cls := "StaveHouse", name := "moment", desc := "(III)J" } : Jvm.MethodName) (Cond.code ({ cls := "StaveHouse", name := "moment", desc := "(III)J" } : Jvm.MethodName) prog_1_method_30_code 6 (Option.some Jvm.ClassFile.FieldType.long) :: wAll) ({ frames := 1, cells := 0, slots := 0, locals := 21 } : Room) (va_Pc [.ref a0, .int v0, .int v1, .int v2] (gPre D ca ad av [(a0, .inr (12, rg 10 g0)), (a2, .inl (ca 4, 2, .inr (.inr (.inr (.inr g2)))))] sz)) (Q_S_moment_0 D ca a0 a2 g0 g2 v0 v1 v2 (va_A [(a0, .inr (12, rg 10 g0)), (a2, .inl (ca 4, 2, .inr (.inr (.inr (.inr g2)))))] sz)) 0 0 (va_A [(a0, .inr (12, rg 10 g0)), (a2, .inl (ca 4, 2, .inr (.inr (.inr (.inr g2)))))] sz) := by
  refine gMet (Qc := Q_S_moment_0 D ca a0 a2 g0 g2 v0 v1 v2) (lv := [(0, .ref a0), (1, .int v0), (2, .int v1), (3, .int v2)]) (by decide) (Nat.le_of_ble_eq_true rfl) rfl (fun A p e s m below meth c ls hx hb hr hml hown hts hlk hnm hl hP hK hD hS hA hX => ?_)
  have hown : s.vm.findClass "StaveHouse" = some m.cls := hown
  have hnm : meth.name = "moment" := hnm
  refine lv_aload_n hx hb d_1_30_0 rfl (lv_at hl 0 rfl) ?_
  refine lv_iload_n hx hb d_1_30_1 rfl (lv_at hl 1 rfl) ?_
  have hFc1 := va_free (wc := [(a0, .inr (12, rg 10 g0)), (a2, .inl (ca 4, 2, .inr (.inr (.inr (.inr g2)))))]) hD hS hA [0, 1] rfl
  refine va_callq (va_runV (As := [.int v0]) (rest := []) ⟨hx, hb, hml, hown, hts⟩ (c_S_pieceAt_0 l D ca ad av s.heap.size a0 a2 g0 g2 v0 (hp0.sub [0] rfl) (hp2.sub [0, 1] rfl)) (cwV 1 hts (gdV k_5_182 k_5_184 ks_65 k_1_1 k_5_185) rfl rfl rfl (by decide +kernel) ⟨Nat.le_of_ble_eq_true rfl, Nat.le_of_ble_eq_true rfl⟩) (gPV hP hD hK hS hA hX [0, 1] (by decide) rfl a0 [.int v0] 0 (ci := 12) (r := (RX12, TX12, 10)) rfl rfl) rfl rfl hl.1 rfl (lv_room (Nat.le_of_ble_eq_true rfl)) d_1_30_2 ⟨Nat.le_of_ble_eq_true rfl, Nat.le_of_ble_eq_true rfl⟩) hS (fun q _ h => hFc1 q h) hFc1 (fun r1 u1 t1 H1 locs1 ht1 hvm1 hw1 hB1 hz1 hk1 hS1 => ?_)
  have hr1 := hw1
  obtain ⟨hP1, hD1⟩ := gJoin (wr := []) (w1 := [(a0, .inr (12, rg 10 g0)), (a2, .inl (ca 4, 2, .inr (.inr (.inr (.inr g2)))))]) hP hD [0, 1] [] rfl rfl (by decide) (by decide) hk1 hFc1 ht1 hB1
  have hP1 : va_P D cls [(a0, .inr (12, rg 10 g0)), (a2, .inl (ca 4, 2, .inr (.inr (.inr (.inr g2)))))] H1 := hP1
  have hD1 : va_D A [(a0, .inr (12, rg 10 g0)), (a2, .inl (ca 4, 2, .inr (.inr (.inr (.inr g2)))))] := hD1
  refine W.widen (k := 0) (n := 0) (Nat.le_of_ble_eq_true rfl) (Nat.le_of_ble_eq_true rfl) ?_
  subst hr1
  refine W.eq (g2 := F0 m 5 ls [.null]) rfl ?_
  refine lv_astoreN (lv' := [(4, .null), (0, .ref a0), (1, .int v0), (2, .int v1), (3, .int v2)]) hx hb d_1_30_5 hl (by decide) rfl (fun ls hl => ?_)
  refine lv_aloadN hx hb d_1_30_7 (lv_at hl 0 rfl) ?_
  refine lv_ifnullN (tgt := 28) hx hb d_1_30_9 (by decide) ?_
  refine lv_ldc2 hx hb hown (hts _ k_9_38) d_1_30_28 ?_
  have hP9 := hP1.sub (ws' := [(a0, .inr (12, rg 10 g0)), (a2, .inl (ca 4, 2, .inr (.inr (.inr (.inr g2)))))]) [0, 1] rfl
  have hD9 := hD1.sub (ws' := [(a0, .inr (12, rg 10 g0)), (a2, .inl (ca 4, 2, .inr (.inr (.inr (.inr g2)))))]) [0, 1] (by decide) rfl
  refine W.widen (k := 0) (n := 0) (Nat.le_of_ble_eq_true rfl) (Nat.le_of_ble_eq_true rfl) ?_
  exact W.lret (v := (-2147483648)) hx hb hr (fun t ht hW => ⟨⟨(-2147483648), (), rfl, rfl, by rw [ht]; exact hP9, va_K.moved hW.alike hK, hD9⟩, hS1.F ht⟩) hS1.2.2 d_1_30_31
abbrev Q_S_fault_0 (D : va_G) (ca : Nat → ClassId) (a0 : Nat) (a2 : Nat) (g0 : Nat → Value) (g2 : Nat → Option Nat) (v0 : Int32) (v1 : Int32) (v2 : Int32) (A : Nat → Prop) : Array Value → State → Outcome → State → Prop := va_Qi (S := Unit) (fun (r : Int32) (u : Unit) => r = (-1)) (fun u => gB D ca A [(a0, .inr (12, rg 10 g0)), (a2, .inl (ca 4, 2, .inr (.inr (.inr (.inr g2)))))]) A
set_option maxHeartbeats 8000000 in
set_option maxRecDepth 100000 in
theorem c_S_fault_0 (l : Launch) (D : va_G) (ca : Nat → ClassId) (ad av : Nat → Nat) (sz : Nat) (a0 : Nat) (a2 : Nat) (g0 : Nat → Value) (g2 : Nat → Option Nat) (v0 : Int32) (v1 : Int32) (v2 : Int32) (hp0 : gF g0 [(3, .ref a2)]) (hp2 : gF g2 [(0, none), (1, none)]) : Met l ({ cls := "StaveHouse", name := "fault", desc := "(III)I" } : Jvm.MethodName) (Cond.code ({ cls := "StaveHouse", name := "fault", desc := "(III)I" } : Jvm.MethodName) prog_1_method_31_code 5 (Option.some Jvm.ClassFile.FieldType.int) :: wAll) ({ frames := 1, cells := 0, slots := 0, locals := 21 } : Room) (va_Pc [.ref a0, .int v0, .int v1, .int v2] (gPre D ca ad av [(a0, .inr (12, rg 10 g0)), (a2, .inl (ca 4, 2, .inr (.inr (.inr (.inr g2)))))] sz)) (Q_S_fault_0 D ca a0 a2 g0 g2 v0 v1 v2 (va_A [(a0, .inr (12, rg 10 g0)), (a2, .inl (ca 4, 2, .inr (.inr (.inr (.inr g2)))))] sz)) 0 0 (va_A [(a0, .inr (12, rg 10 g0)), (a2, .inl (ca 4, 2, .inr (.inr (.inr (.inr g2)))))] sz) := by
  refine gMet (Qc := Q_S_fault_0 D ca a0 a2 g0 g2 v0 v1 v2) (lv := [(0, .ref a0), (1, .int v0), (2, .int v1), (3, .int v2)]) (by decide) (Nat.le_of_ble_eq_true rfl) rfl (fun A p e s m below meth c ls hx hb hr hml hown hts hlk hnm hl hP hK hD hS hA hX => ?_)
  have hown : s.vm.findClass "StaveHouse" = some m.cls := hown
  have hnm : meth.name = "fault" := hnm
  refine lv_aload_n hx hb d_1_31_0 rfl (lv_at hl 0 rfl) ?_
  refine lv_iload_n hx hb d_1_31_1 rfl (lv_at hl 1 rfl) ?_
  have hFc1 := va_free (wc := [(a0, .inr (12, rg 10 g0)), (a2, .inl (ca 4, 2, .inr (.inr (.inr (.inr g2)))))]) hD hS hA [0, 1] rfl
  refine va_callq (va_runV (As := [.int v0]) (rest := []) ⟨hx, hb, hml, hown, hts⟩ (c_S_pieceAt_0 l D ca ad av s.heap.size a0 a2 g0 g2 v0 (hp0.sub [0] rfl) (hp2.sub [0, 1] rfl)) (cwV 1 hts (gdV k_5_182 k_5_184 ks_65 k_1_1 k_5_185) rfl rfl rfl (by decide +kernel) ⟨Nat.le_of_ble_eq_true rfl, Nat.le_of_ble_eq_true rfl⟩) (gPV hP hD hK hS hA hX [0, 1] (by decide) rfl a0 [.int v0] 0 (ci := 12) (r := (RX12, TX12, 10)) rfl rfl) rfl rfl hl.1 rfl (lv_room (Nat.le_of_ble_eq_true rfl)) d_1_31_2 ⟨Nat.le_of_ble_eq_true rfl, Nat.le_of_ble_eq_true rfl⟩) hS (fun q _ h => hFc1 q h) hFc1 (fun r1 u1 t1 H1 locs1 ht1 hvm1 hw1 hB1 hz1 hk1 hS1 => ?_)
  have hr1 := hw1
  obtain ⟨hP1, hD1⟩ := gJoin (wr := []) (w1 := [(a0, .inr (12, rg 10 g0)), (a2, .inl (ca 4, 2, .inr (.inr (.inr (.inr g2)))))]) hP hD [0, 1] [] rfl rfl (by decide) (by decide) hk1 hFc1 ht1 hB1
  have hP1 : va_P D cls [(a0, .inr (12, rg 10 g0)), (a2, .inl (ca 4, 2, .inr (.inr (.inr (.inr g2)))))] H1 := hP1
  have hD1 : va_D A [(a0, .inr (12, rg 10 g0)), (a2, .inl (ca 4, 2, .inr (.inr (.inr (.inr g2)))))] := hD1
  refine W.widen (k := 0) (n := 0) (Nat.le_of_ble_eq_true rfl) (Nat.le_of_ble_eq_true rfl) ?_
  subst hr1
  refine W.eq (g2 := F0 m 5 ls [.null]) rfl ?_
  refine lv_astoreN (lv' := [(4, .null), (0, .ref a0), (1, .int v0), (2, .int v1), (3, .int v2)]) hx hb d_1_31_5 hl (by decide) rfl (fun ls hl => ?_)
  refine lv_aloadN hx hb d_1_31_7 (lv_at hl 0 rfl) ?_
  refine lv_ifnullN (tgt := 37) hx hb d_1_31_9 (by decide) ?_
  refine lv_iconst (v := (-1)) hx hb d_1_31_37 (by decide) ?_
  have hP9 := hP1.sub (ws' := [(a0, .inr (12, rg 10 g0)), (a2, .inl (ca 4, 2, .inr (.inr (.inr (.inr g2)))))]) [0, 1] rfl
  have hD9 := hD1.sub (ws' := [(a0, .inr (12, rg 10 g0)), (a2, .inl (ca 4, 2, .inr (.inr (.inr (.inr g2)))))]) [0, 1] (by decide) rfl
  refine W.widen (k := 0) (n := 0) (Nat.le_of_ble_eq_true rfl) (Nat.le_of_ble_eq_true rfl) ?_
  exact W.iret (v := (-1)) hx hb hr (fun t ht hW => ⟨⟨(-1), (), rfl, rfl, by rw [ht]; exact hP9, va_K.moved hW.alike hK, hD9⟩, hS1.F ht⟩) hS1.2.2 d_1_31_38
abbrev Q_S_follows_0 (D : va_G) (ca : Nat → ClassId) (a0 : Nat) (a2 : Nat) (g0 : Nat → Value) (g2 : Nat → Option Nat) (v0 : Int32) (v1 : Int32) (v2 : Int32) (v3 : Int32) (A : Nat → Prop) : Array Value → State → Outcome → State → Prop := va_Ql (S := Unit) (fun (r : Int64) (u : Unit) => r = (-1)) (fun u => gB D ca A [(a0, .inr (12, rg 10 g0)), (a2, .inl (ca 4, 2, .inr (.inr (.inr (.inr g2)))))]) A
set_option maxHeartbeats 8000000 in
set_option maxRecDepth 100000 in
theorem c_S_follows_0 (l : Launch) (D : va_G) (ca : Nat → ClassId) (ad av : Nat → Nat) (sz : Nat) (a0 : Nat) (a2 : Nat) (g0 : Nat → Value) (g2 : Nat → Option Nat) (v0 : Int32) (v1 : Int32) (v2 : Int32) (v3 : Int32) (hp0 : gF g0 [(3, .ref a2)]) (hp2 : gF g2 [(0, none), (1, none)]) : Met l ({ cls := "StaveHouse", name := "follows", desc := "(IIII)J" } : Jvm.MethodName) (Cond.code ({ cls := "StaveHouse", name := "follows", desc := "(IIII)J" } : Jvm.MethodName) prog_1_method_32_code 12 (Option.some Jvm.ClassFile.FieldType.long) :: wAll) ({ frames := 2, cells := 0, slots := 0, locals := 44 } : Room) (va_Pc [.ref a0, .int v0, .int v1, .int v2, .int v3] (gPre D ca ad av [(a0, .inr (12, rg 10 g0)), (a2, .inl (ca 4, 2, .inr (.inr (.inr (.inr g2)))))] sz)) (Q_S_follows_0 D ca a0 a2 g0 g2 v0 v1 v2 v3 (va_A [(a0, .inr (12, rg 10 g0)), (a2, .inl (ca 4, 2, .inr (.inr (.inr (.inr g2)))))] sz)) 0 0 (va_A [(a0, .inr (12, rg 10 g0)), (a2, .inl (ca 4, 2, .inr (.inr (.inr (.inr g2)))))] sz) := by
  refine gMet (Qc := Q_S_follows_0 D ca a0 a2 g0 g2 v0 v1 v2 v3) (lv := [(0, .ref a0), (1, .int v0), (2, .int v1), (3, .int v2), (4, .int v3)]) (by decide) (Nat.le_of_ble_eq_true rfl) rfl (fun A p e s m below meth c ls hx hb hr hml hown hts hlk hnm hl hP hK hD hS hA hX => ?_)
  have hown : s.vm.findClass "StaveHouse" = some m.cls := hown
  have hnm : meth.name = "follows" := hnm
  refine lv_aload_n hx hb d_1_32_0 rfl (lv_at hl 0 rfl) ?_
  refine lv_iload_n hx hb d_1_32_1 rfl (lv_at hl 1 rfl) ?_
  refine lv_iload_n hx hb d_1_32_2 rfl (lv_at hl 2 rfl) ?_
  have hFc1 := va_free (wc := [(a0, .inr (12, rg 10 g0)), (a2, .inl (ca 4, 2, .inr (.inr (.inr (.inr g2)))))]) hD hS hA [0, 1] rfl
  refine va_callq (va_runV (As := [.int v0, .int v1]) (rest := []) ⟨hx, hb, hml, hown, hts⟩ (c_S_partAt_0 l D ca ad av s.heap.size a0 a2 g0 g2 v0 v1 (hp0.sub [0] rfl) (hp2.sub [0, 1] rfl)) (cwV 2 hts (gdV k_6_168 k_6_170 ks_77 k_1_1 k_6_171) rfl rfl rfl (by decide +kernel) ⟨Nat.le_of_ble_eq_true rfl, Nat.le_of_ble_eq_true rfl⟩) (gPV hP hD hK hS hA hX [0, 1] (by decide) rfl a0 [.int v0, .int v1] 0 (ci := 12) (r := (RX12, TX12, 10)) rfl rfl) rfl rfl hl.1 rfl (lv_room (Nat.le_of_ble_eq_true rfl)) d_1_32_3 ⟨Nat.le_of_ble_eq_true rfl, Nat.le_of_ble_eq_true rfl⟩) hS (fun q _ h => hFc1 q h) hFc1 (fun r1 u1 t1 H1 locs1 ht1 hvm1 hw1 hB1 hz1 hk1 hS1 => ?_)
  have hr1 := hw1
  obtain ⟨hP1, hD1⟩ := gJoin (wr := []) (w1 := [(a0, .inr (12, rg 10 g0)), (a2, .inl (ca 4, 2, .inr (.inr (.inr (.inr g2)))))]) hP hD [0, 1] [] rfl rfl (by decide) (by decide) hk1 hFc1 ht1 hB1
  have hP1 : va_P D cls [(a0, .inr (12, rg 10 g0)), (a2, .inl (ca 4, 2, .inr (.inr (.inr (.inr g2)))))] H1 := hP1
  have hD1 : va_D A [(a0, .inr (12, rg 10 g0)), (a2, .inl (ca 4, 2, .inr (.inr (.inr (.inr g2)))))] := hD1
  refine W.widen (k := 0) (n := 0) (Nat.le_of_ble_eq_true rfl) (Nat.le_of_ble_eq_true rfl) ?_
  subst hr1
  refine W.eq (g2 := F0 m 6 ls [.null]) rfl ?_
  refine lv_astoreN (lv' := [(5, .null), (0, .ref a0), (1, .int v0), (2, .int v1), (3, .int v2), (4, .int v3)]) hx hb d_1_32_6 hl (by decide) rfl (fun ls hl => ?_)
  refine lv_aload_n hx hb d_1_32_8 rfl (lv_at hl 1 rfl) ?_
  refine lv_iload_n hx hb d_1_32_9 rfl (lv_at hl 2 rfl) ?_
  refine lv_iload_n hx hb d_1_32_10 rfl (lv_at hl 4 rfl) ?_
  have hFc2 := va_free (wc := [(a0, .inr (12, rg 10 g0)), (a2, .inl (ca 4, 2, .inr (.inr (.inr (.inr g2)))))]) hD1 hS1 hA [0, 1] rfl
  refine va_callq (va_runV (As := [.int v0, .int v2]) (rest := []) ⟨hx, hb, hml, hown, hts⟩ (c_S_partAt_0 l D ca ad av H1.size a0 a2 g0 g2 v0 v2 (hp0.sub [0] rfl) (hp2.sub [0, 1] rfl)) (cwV 2 hts (gdV k_6_168 k_6_170 ks_77 k_1_1 k_6_171) rfl rfl rfl (by decide +kernel) ⟨Nat.le_of_ble_eq_true rfl, Nat.le_of_ble_eq_true rfl⟩) (gPV hP1 hD1 hK hS1 hA hX [0, 1] (by decide) rfl a0 [.int v0, .int v2] 0 (ci := 12) (r := (RX12, TX12, 10)) rfl rfl) rfl rfl hl.1 rfl (lv_room (Nat.le_of_ble_eq_true rfl)) d_1_32_11 ⟨Nat.le_of_ble_eq_true rfl, Nat.le_of_ble_eq_true rfl⟩) hS1 (fun q _ h => hFc2 q h) hFc2 (fun r2 u2 t2 H2 locs2 ht2 hvm2 hw2 hB2 hz2 hk2 hS2 => ?_)
  have hr2 := hw2
  obtain ⟨hP2, hD2⟩ := gJoin (wr := []) (w1 := [(a0, .inr (12, rg 10 g0)), (a2, .inl (ca 4, 2, .inr (.inr (.inr (.inr g2)))))]) hP1 hD1 [0, 1] [] rfl rfl (by decide) (by decide) hk2 hFc2 ht2 hB2
  have hP2 : va_P D cls [(a0, .inr (12, rg 10 g0)), (a2, .inl (ca 4, 2, .inr (.inr (.inr (.inr g2)))))] H2 := hP2
  have hD2 : va_D A [(a0, .inr (12, rg 10 g0)), (a2, .inl (ca 4, 2, .inr (.inr (.inr (.inr g2)))))] := hD2
  refine W.widen (k := 0) (n := 0) (Nat.le_of_ble_eq_true rfl) (Nat.le_of_ble_eq_true rfl) ?_
  subst hr2
  refine W.eq (g2 := F0 m 14 ls [.null]) rfl ?_
  refine lv_astoreN (lv' := [(6, .null), (5, .null), (0, .ref a0), (1, .int v0), (2, .int v1), (3, .int v2), (4, .int v3)]) hx hb d_1_32_14 hl (by decide) rfl (fun ls hl => ?_)
  refine lv_aloadN hx hb d_1_32_16 (lv_at hl 1 rfl) ?_
  refine lv_ifnullN (tgt := 42) hx hb d_1_32_18 (by decide) ?_
  refine lv_ldc2 hx hb hown (hts _ k_6_184) d_1_32_42 ?_
  have hP9 := hP2.sub (ws' := [(a0, .inr (12, rg 10 g0)), (a2, .inl (ca 4, 2, .inr (.inr (.inr (.inr g2)))))]) [0, 1] rfl
  have hD9 := hD2.sub (ws' := [(a0, .inr (12, rg 10 g0)), (a2, .inl (ca 4, 2, .inr (.inr (.inr (.inr g2)))))]) [0, 1] (by decide) rfl
  refine W.widen (k := 0) (n := 0) (Nat.le_of_ble_eq_true rfl) (Nat.le_of_ble_eq_true rfl) ?_
  exact W.lret (v := (-1)) hx hb hr (fun t ht hW => ⟨⟨(-1), (), rfl, rfl, by rw [ht]; exact hP9, va_K.moved hW.alike hK, hD9⟩, hS2.F ht⟩) hS2.2.2 d_1_32_45
abbrev Q_S_shape_0 (D : va_G) (ca : Nat → ClassId) (a0 : Nat) (a2 : Nat) (g0 : Nat → Value) (g2 : Nat → Option Nat) (v0 : Int32) (v1 : Int32) (v2 : Int32) (v3 : Int32) (v4 : Int32) (v5 : Int32) (v6 : Int32) (v7 : Int32) (A : Nat → Prop) : Array Value → State → Outcome → State → Prop := va_Qi (S := Unit) (fun (r : Int32) (u : Unit) => r = (-1)) (fun u => gB D ca A [(a0, .inr (12, rg 10 g0)), (a2, .inl (ca 4, 2, .inr (.inr (.inr (.inr g2)))))]) A
set_option maxHeartbeats 8000000 in
set_option maxRecDepth 100000 in
theorem c_S_shape_0 (l : Launch) (D : va_G) (ca : Nat → ClassId) (ad av : Nat → Nat) (sz : Nat) (a0 : Nat) (a2 : Nat) (g0 : Nat → Value) (g2 : Nat → Option Nat) (v0 : Int32) (v1 : Int32) (v2 : Int32) (v3 : Int32) (v4 : Int32) (v5 : Int32) (v6 : Int32) (v7 : Int32) (hp0 : gF g0 [(3, .ref a2)]) (hp2 : gF g2 [(0, none), (1, none)]) : Met l ({ cls := "StaveHouse", name := "shape", desc := "(IIIIIIII)I" } : Jvm.MethodName) (Cond.code ({ cls := "StaveHouse", name := "shape", desc := "(IIIIIIII)I" } : Jvm.MethodName) prog_1_method_33_code 14 (Option.some Jvm.ClassFile.FieldType.int) :: wAll) ({ frames := 2, cells := 0, slots := 0, locals := 44 } : Room) (va_Pc [.ref a0, .int v0, .int v1, .int v2, .int v3, .int v4, .int v5, .int v6, .int v7] (gPre D ca ad av [(a0, .inr (12, rg 10 g0)), (a2, .inl (ca 4, 2, .inr (.inr (.inr (.inr g2)))))] sz)) (Q_S_shape_0 D ca a0 a2 g0 g2 v0 v1 v2 v3 v4 v5 v6 v7 (va_A [(a0, .inr (12, rg 10 g0)), (a2, .inl (ca 4, 2, .inr (.inr (.inr (.inr g2)))))] sz)) 0 0 (va_A [(a0, .inr (12, rg 10 g0)), (a2, .inl (ca 4, 2, .inr (.inr (.inr (.inr g2)))))] sz) := by
  refine gMet (Qc := Q_S_shape_0 D ca a0 a2 g0 g2 v0 v1 v2 v3 v4 v5 v6 v7) (lv := [(0, .ref a0), (1, .int v0), (2, .int v1), (3, .int v2), (4, .int v3), (5, .int v4), (6, .int v5), (7, .int v6), (8, .int v7)]) (by decide) (Nat.le_of_ble_eq_true rfl) rfl (fun A p e s m below meth c ls hx hb hr hml hown hts hlk hnm hl hP hK hD hS hA hX => ?_)
  have hown : s.vm.findClass "StaveHouse" = some m.cls := hown
  have hnm : meth.name = "shape" := hnm
  refine lv_aload_n hx hb d_1_33_0 rfl (lv_at hl 0 rfl) ?_
  refine lv_iload_n hx hb d_1_33_1 rfl (lv_at hl 1 rfl) ?_
  refine lv_iload_n hx hb d_1_33_2 rfl (lv_at hl 2 rfl) ?_
  have hFc1 := va_free (wc := [(a0, .inr (12, rg 10 g0)), (a2, .inl (ca 4, 2, .inr (.inr (.inr (.inr g2)))))]) hD hS hA [0, 1] rfl
  refine va_callq (va_runV (As := [.int v0, .int v1]) (rest := []) ⟨hx, hb, hml, hown, hts⟩ (c_S_partAt_0 l D ca ad av s.heap.size a0 a2 g0 g2 v0 v1 (hp0.sub [0] rfl) (hp2.sub [0, 1] rfl)) (cwV 2 hts (gdV k_6_168 k_6_170 ks_77 k_1_1 k_6_171) rfl rfl rfl (by decide +kernel) ⟨Nat.le_of_ble_eq_true rfl, Nat.le_of_ble_eq_true rfl⟩) (gPV hP hD hK hS hA hX [0, 1] (by decide) rfl a0 [.int v0, .int v1] 0 (ci := 12) (r := (RX12, TX12, 10)) rfl rfl) rfl rfl hl.1 rfl (lv_room (Nat.le_of_ble_eq_true rfl)) d_1_33_3 ⟨Nat.le_of_ble_eq_true rfl, Nat.le_of_ble_eq_true rfl⟩) hS (fun q _ h => hFc1 q h) hFc1 (fun r1 u1 t1 H1 locs1 ht1 hvm1 hw1 hB1 hz1 hk1 hS1 => ?_)
  have hr1 := hw1
  obtain ⟨hP1, hD1⟩ := gJoin (wr := []) (w1 := [(a0, .inr (12, rg 10 g0)), (a2, .inl (ca 4, 2, .inr (.inr (.inr (.inr g2)))))]) hP hD [0, 1] [] rfl rfl (by decide) (by decide) hk1 hFc1 ht1 hB1
  have hP1 : va_P D cls [(a0, .inr (12, rg 10 g0)), (a2, .inl (ca 4, 2, .inr (.inr (.inr (.inr g2)))))] H1 := hP1
  have hD1 : va_D A [(a0, .inr (12, rg 10 g0)), (a2, .inl (ca 4, 2, .inr (.inr (.inr (.inr g2)))))] := hD1
  refine W.widen (k := 0) (n := 0) (Nat.le_of_ble_eq_true rfl) (Nat.le_of_ble_eq_true rfl) ?_
  subst hr1
  refine W.eq (g2 := F0 m 6 ls [.null]) rfl ?_
  refine lv_astoreN (lv' := [(9, .null), (0, .ref a0), (1, .int v0), (2, .int v1), (3, .int v2), (4, .int v3), (5, .int v4), (6, .int v5), (7, .int v6), (8, .int v7)]) hx hb d_1_33_6 hl (by decide) rfl (fun ls hl => ?_)
  refine lv_aload_n hx hb d_1_33_8 rfl (lv_at hl 1 rfl) ?_
  refine lv_iload hx hb d_1_33_9 (lv_at hl 6 rfl) ?_
  refine lv_iload hx hb d_1_33_11 (lv_at hl 7 rfl) ?_
  have hFc2 := va_free (wc := [(a0, .inr (12, rg 10 g0)), (a2, .inl (ca 4, 2, .inr (.inr (.inr (.inr g2)))))]) hD1 hS1 hA [0, 1] rfl
  refine va_callq (va_runV (As := [.int v4, .int v5]) (rest := []) ⟨hx, hb, hml, hown, hts⟩ (c_S_partAt_0 l D ca ad av H1.size a0 a2 g0 g2 v4 v5 (hp0.sub [0] rfl) (hp2.sub [0, 1] rfl)) (cwV 2 hts (gdV k_6_168 k_6_170 ks_77 k_1_1 k_6_171) rfl rfl rfl (by decide +kernel) ⟨Nat.le_of_ble_eq_true rfl, Nat.le_of_ble_eq_true rfl⟩) (gPV hP1 hD1 hK hS1 hA hX [0, 1] (by decide) rfl a0 [.int v4, .int v5] 0 (ci := 12) (r := (RX12, TX12, 10)) rfl rfl) rfl rfl hl.1 rfl (lv_room (Nat.le_of_ble_eq_true rfl)) d_1_33_13 ⟨Nat.le_of_ble_eq_true rfl, Nat.le_of_ble_eq_true rfl⟩) hS1 (fun q _ h => hFc2 q h) hFc2 (fun r2 u2 t2 H2 locs2 ht2 hvm2 hw2 hB2 hz2 hk2 hS2 => ?_)
  have hr2 := hw2
  obtain ⟨hP2, hD2⟩ := gJoin (wr := []) (w1 := [(a0, .inr (12, rg 10 g0)), (a2, .inl (ca 4, 2, .inr (.inr (.inr (.inr g2)))))]) hP1 hD1 [0, 1] [] rfl rfl (by decide) (by decide) hk2 hFc2 ht2 hB2
  have hP2 : va_P D cls [(a0, .inr (12, rg 10 g0)), (a2, .inl (ca 4, 2, .inr (.inr (.inr (.inr g2)))))] H2 := hP2
  have hD2 : va_D A [(a0, .inr (12, rg 10 g0)), (a2, .inl (ca 4, 2, .inr (.inr (.inr (.inr g2)))))] := hD2
  refine W.widen (k := 0) (n := 0) (Nat.le_of_ble_eq_true rfl) (Nat.le_of_ble_eq_true rfl) ?_
  subst hr2
  refine W.eq (g2 := F0 m 16 ls [.null]) rfl ?_
  refine lv_astoreN (lv' := [(10, .null), (9, .null), (0, .ref a0), (1, .int v0), (2, .int v1), (3, .int v2), (4, .int v3), (5, .int v4), (6, .int v5), (7, .int v6), (8, .int v7)]) hx hb d_1_33_16 hl (by decide) rfl (fun ls hl => ?_)
  refine lv_aloadN hx hb d_1_33_18 (lv_at hl 1 rfl) ?_
  refine lv_ifnullN (tgt := 53) hx hb d_1_33_20 (by decide) ?_
  refine lv_iconst (v := 1) hx hb d_1_33_53 (by decide) ?_
  refine lv_goto (tgt := 58) hx hb d_1_33_54 (by decide) ?_
  refine lv_istore (lv' := [(11, .int 1), (10, .null), (9, .null), (0, .ref a0), (1, .int v0), (2, .int v1), (3, .int v2), (4, .int v3), (5, .int v4), (6, .int v5), (7, .int v6), (8, .int v7)]) hx hb d_1_33_58 hl (by decide) rfl (fun ls hl => ?_)
  refine lv_iload hx hb d_1_33_60 (lv_at hl 0 rfl) ?_
  refine lv_if_ne (tgt := 86) hx hb d_1_33_62 (by decide) (fun _ => ?_) (fun c => absurd c (by decide))
  refine lv_iconst (v := (-1)) hx hb d_1_33_86 (by decide) ?_
  have hP9 := hP2.sub (ws' := [(a0, .inr (12, rg 10 g0)), (a2, .inl (ca 4, 2, .inr (.inr (.inr (.inr g2)))))]) [0, 1] rfl
  have hD9 := hD2.sub (ws' := [(a0, .inr (12, rg 10 g0)), (a2, .inl (ca 4, 2, .inr (.inr (.inr (.inr g2)))))]) [0, 1] (by decide) rfl
  refine W.widen (k := 0) (n := 0) (Nat.le_of_ble_eq_true rfl) (Nat.le_of_ble_eq_true rfl) ?_
  exact W.iret (v := (-1)) hx hb hr (fun t ht hW => ⟨⟨(-1), (), rfl, rfl, by rw [ht]; exact hP9, va_K.moved hW.alike hK, hD9⟩, hS2.F ht⟩) hS2.2.2 d_1_33_87
