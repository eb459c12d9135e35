theorem k_9_125 : (Jvm.Cond.fieldLink "StaveHouseModel" (300 : Nat) "StaveHouseModel$Piece" "there" "Z") ∈ wAll := wA_9 (j := 125) rfl rfl
theorem k_12_95 : (Jvm.Cond.code ({ cls := "StaveHouseModel", name := "piece", desc := "(I)LStaveHouseModel$Piece;" } : Jvm.MethodName) prog_15_method_15_code (2 : Nat) (Option.some (Jvm.ClassFile.FieldType.object "StaveHouseModel$Piece"))) ∈ wAll := wA_12 (j := 95) rfl rfl
theorem k_12_92 : (Jvm.Cond.methodLink "StaveHouseModel" (851 : Nat) ({ cls := "StaveHouseModel", name := "piece", desc := "(I)LStaveHouseModel$Piece;" } : Jvm.MethodName)) ∈ wAll := wA_12 (j := 92) rfl rfl
theorem k_12_94 : (Jvm.Cond.instanceMethod ({ cls := "StaveHouseModel", name := "piece", desc := "(I)LStaveHouseModel$Piece;" } : Jvm.MethodName)) ∈ wAll := wA_12 (j := 94) rfl rfl
theorem ks_131 : (Jvm.Cond.selects "StaveHouseModel" ({ cls := "StaveHouseModel", name := "piece", desc := "(I)LStaveHouseModel$Piece;" } : Jvm.MethodName) ({ cls := "StaveHouseModel", name := "piece", desc := "(I)LStaveHouseModel$Piece;" } : Jvm.MethodName)) ∈ wAll := wA_s (j := 131) rfl rfl
theorem k_12_120 : (Jvm.Cond.code ({ cls := "StaveHouseModel", name := "isVoice", desc := "(LStaveHouseModel$Piece;I)Z" } : Jvm.MethodName) prog_15_method_16_code (2 : Nat) (Option.some Jvm.ClassFile.FieldType.boolean)) ∈ wAll := wA_12 (j := 120) rfl rfl
theorem k_12_118 : (Jvm.Cond.methodLink "StaveHouseModel" (879 : Nat) ({ cls := "StaveHouseModel", name := "isVoice", desc := "(LStaveHouseModel$Piece;I)Z" } : Jvm.MethodName)) ∈ wAll := wA_12 (j := 118) rfl rfl
theorem k_12_119 : (Jvm.Cond.static ({ cls := "StaveHouseModel", name := "isVoice", desc := "(LStaveHouseModel$Piece;I)Z" } : Jvm.MethodName)) ∈ wAll := wA_12 (j := 119) rfl rfl
theorem k_12_105 : (Jvm.Cond.constantLong "StaveHouseModel" (847 : Nat) (-1 : Int64)) ∈ wAll := wA_12 (j := 105) rfl rfl
theorem k_13_68 : (Jvm.Cond.constant "StaveHouseModel" (1060 : Nat) (-2147483648 : Int32)) ∈ wAll := wA_13 (j := 68) rfl rfl
theorem k_11_69 : (Jvm.Cond.fieldLink "StaveHouseModel" (961 : Nat) "StaveHouseModel" "outs" "I") ∈ wAll := wA_11 (j := 69) rfl rfl
theorem k_11_70 : (Jvm.Cond.fieldLink "StaveHouseModel" (1045 : Nat) "StaveHouseModel" "isOpen" "Z") ∈ wAll := wA_11 (j := 70) rfl rfl
theorem k_14_16 : (Jvm.Cond.constantLong "StaveHouseModel" (1226 : Nat) (-2147483648 : Int64)) ∈ wAll := wA_14 (j := 16) rfl rfl
theorem d_15_203_0 : decode prog_15_method_203_code 0 = .ok (.aload_n 0, 1) := by decide +kernel
theorem d_15_203_1 : decode prog_15_method_203_code 1 = .ok (.iload_n 1, 1) := by decide +kernel
theorem d_15_203_2 : decode prog_15_method_203_code 2 = .ok (.invokevirtual 851, 3) := by decide +kernel
theorem d_15_15_0 : decode prog_15_method_15_code 0 = .ok (.iload_n 1, 1) := by decide +kernel
theorem d_15_15_1 : decode prog_15_method_15_code 1 = .ok (.ifCond .lt 29, 3) := by decide +kernel
theorem d_15_15_30 : decode prog_15_method_15_code 30 = .ok (.aconst_null, 1) := by decide +kernel
theorem d_15_15_31 : decode prog_15_method_15_code 31 = .ok (.areturn, 1) := by decide +kernel
theorem d_15_15_4 : decode prog_15_method_15_code 4 = .ok (.iload_n 1, 1) := by decide +kernel
theorem d_15_15_5 : decode prog_15_method_15_code 5 = .ok (.iconst 2, 1) := by decide +kernel
theorem d_15_15_6 : decode prog_15_method_15_code 6 = .ok (.if_icmp .ge 24, 3) := by decide +kernel
theorem d_15_15_9 : decode prog_15_method_15_code 9 = .ok (.aload_n 0, 1) := by decide +kernel
theorem d_15_15_10 : decode prog_15_method_15_code 10 = .ok (.getfield 40, 3) := by decide +kernel
theorem d_15_15_13 : decode prog_15_method_15_code 13 = .ok (.iload_n 1, 1) := by decide +kernel
theorem d_15_15_14 : decode prog_15_method_15_code 14 = .ok (.aaload, 1) := by decide +kernel
theorem d_15_15_15 : decode prog_15_method_15_code 15 = .ok (.getfield 300, 3) := by decide +kernel
theorem d_15_15_18 : decode prog_15_method_15_code 18 = .ok (.ifCond .eq 12, 3) := by decide +kernel
theorem d_15_203_5 : decode prog_15_method_203_code 5 = .ok (.astore_n 3, 1) := by decide +kernel
theorem d_15_203_6 : decode prog_15_method_203_code 6 = .ok (.aload_n 3, 1) := by decide +kernel
theorem d_15_203_7 : decode prog_15_method_203_code 7 = .ok (.ifnonnull 5, 3) := by decide +kernel
theorem d_15_203_10 : decode prog_15_method_203_code 10 = .ok (.iconst (-1), 1) := by decide +kernel
theorem d_15_203_11 : decode prog_15_method_203_code 11 = .ok (.ireturn, 1) := by decide +kernel
theorem d_15_204_0 : decode prog_15_method_204_code 0 = .ok (.aload_n 0, 1) := by decide +kernel
theorem d_15_204_1 : decode prog_15_method_204_code 1 = .ok (.iload_n 1, 1) := by decide +kernel
theorem d_15_204_2 : decode prog_15_method_204_code 2 = .ok (.invokevirtual 851, 3) := by decide +kernel
theorem d_15_204_5 : decode prog_15_method_204_code 5 = .ok (.astore 4, 2) := by decide +kernel
theorem d_15_204_7 : decode prog_15_method_204_code 7 = .ok (.aload 4, 2) := by decide +kernel
theorem d_15_204_9 : decode prog_15_method_204_code 9 = .ok (.iload_n 2, 1) := by decide +kernel
theorem d_15_204_10 : decode prog_15_method_204_code 10 = .ok (.invokestatic 879, 3) := by decide +kernel
theorem d_15_16_0 : decode prog_15_method_16_code 0 = .ok (.aload_n 0, 1) := by decide +kernel
theorem d_15_16_1 : decode prog_15_method_16_code 1 = .ok (.ifnull 19, 3) := by decide +kernel
theorem d_15_16_20 : decode prog_15_method_16_code 20 = .ok (.iconst 0, 1) := by decide +kernel
theorem d_15_16_21 : decode prog_15_method_16_code 21 = .ok (.ireturn, 1) := by decide +kernel
theorem d_15_204_13 : decode prog_15_method_204_code 13 = .ok (.ifCond .ne 5, 3) := by decide +kernel
theorem d_15_204_16 : decode prog_15_method_204_code 16 = .ok (.iconst (-1), 1) := by decide +kernel
theorem d_15_204_17 : decode prog_15_method_204_code 17 = .ok (.ireturn, 1) := by decide +kernel
theorem d_15_205_0 : decode prog_15_method_205_code 0 = .ok (.aload_n 0, 1) := by decide +kernel
theorem d_15_205_1 : decode prog_15_method_205_code 1 = .ok (.iload_n 1, 1) := by decide +kernel
theorem d_15_205_2 : decode prog_15_method_205_code 2 = .ok (.invokevirtual 851, 3) := by decide +kernel
theorem d_15_205_5 : decode prog_15_method_205_code 5 = .ok (.astore_n 3, 1) := by decide +kernel
theorem d_15_205_6 : decode prog_15_method_205_code 6 = .ok (.aload_n 3, 1) := by decide +kernel
theorem d_15_205_7 : decode prog_15_method_205_code 7 = .ok (.iload_n 2, 1) := by decide +kernel
theorem d_15_205_8 : decode prog_15_method_205_code 8 = .ok (.invokestatic 879, 3) := by decide +kernel
theorem d_15_205_11 : decode prog_15_method_205_code 11 = .ok (.ifCond .eq 12, 3) := by decide +kernel
theorem d_15_205_23 : decode prog_15_method_205_code 23 = .ok (.lconst 0, 1) := by decide +kernel
theorem d_15_205_24 : decode prog_15_method_205_code 24 = .ok (.lreturn, 1) := by decide +kernel
theorem d_15_206_0 : decode prog_15_method_206_code 0 = .ok (.aload_n 0, 1) := by decide +kernel
theorem d_15_206_1 : decode prog_15_method_206_code 1 = .ok (.iload_n 1, 1) := by decide +kernel
theorem d_15_206_2 : decode prog_15_method_206_code 2 = .ok (.invokevirtual 851, 3) := by decide +kernel
theorem d_15_206_5 : decode prog_15_method_206_code 5 = .ok (.astore 5, 2) := by decide +kernel
theorem d_15_206_7 : decode prog_15_method_206_code 7 = .ok (.aload 5, 2) := by decide +kernel
theorem d_15_206_9 : decode prog_15_method_206_code 9 = .ok (.iload_n 2, 1) := by decide +kernel
theorem d_15_206_10 : decode prog_15_method_206_code 10 = .ok (.invokestatic 879, 3) := by decide +kernel
theorem d_15_206_13 : decode prog_15_method_206_code 13 = .ok (.ifCond .eq 18, 3) := by decide +kernel
theorem d_15_206_31 : decode prog_15_method_206_code 31 = .ok (.ldc2_w 847, 3) := by decide +kernel
theorem d_15_206_34 : decode prog_15_method_206_code 34 = .ok (.lreturn, 1) := by decide +kernel
theorem d_15_207_0 : decode prog_15_method_207_code 0 = .ok (.aload_n 0, 1) := by decide +kernel
theorem d_15_207_1 : decode prog_15_method_207_code 1 = .ok (.iload_n 1, 1) := by decide +kernel
theorem d_15_207_2 : decode prog_15_method_207_code 2 = .ok (.invokevirtual 851, 3) := by decide +kernel
theorem d_15_207_5 : decode prog_15_method_207_code 5 = .ok (.astore 6, 2) := by decide +kernel
theorem d_15_207_7 : decode prog_15_method_207_code 7 = .ok (.aload 6, 2) := by decide +kernel
theorem d_15_207_9 : decode prog_15_method_207_code 9 = .ok (.iload_n 2, 1) := by decide +kernel
theorem d_15_207_10 : decode prog_15_method_207_code 10 = .ok (.invokestatic 879, 3) := by decide +kernel
theorem d_15_207_13 : decode prog_15_method_207_code 13 = .ok (.ifCond .eq 41, 3) := by decide +kernel
theorem d_15_207_54 : decode prog_15_method_207_code 54 = .ok (.ldc_w 1060, 3) := by decide +kernel
theorem d_15_207_57 : decode prog_15_method_207_code 57 = .ok (.ireturn, 1) := by decide +kernel
theorem d_15_208_0 : decode prog_15_method_208_code 0 = .ok (.aload_n 0, 1) := by decide +kernel
theorem d_15_208_1 : decode prog_15_method_208_code 1 = .ok (.iload_n 1, 1) := by decide +kernel
theorem d_15_208_2 : decode prog_15_method_208_code 2 = .ok (.invokevirtual 851, 3) := by decide +kernel
theorem d_15_208_5 : decode prog_15_method_208_code 5 = .ok (.astore 5, 2) := by decide +kernel
theorem d_15_208_7 : decode prog_15_method_208_code 7 = .ok (.aload 5, 2) := by decide +kernel
theorem d_15_208_9 : decode prog_15_method_208_code 9 = .ok (.iload_n 2, 1) := by decide +kernel
theorem d_15_208_10 : decode prog_15_method_208_code 10 = .ok (.invokestatic 879, 3) := by decide +kernel
theorem d_15_208_13 : decode prog_15_method_208_code 13 = .ok (.ifCond .eq 18, 3) := by decide +kernel
theorem d_15_208_31 : decode prog_15_method_208_code 31 = .ok (.ldc2_w 847, 3) := by decide +kernel
theorem d_15_208_34 : decode prog_15_method_208_code 34 = .ok (.lreturn, 1) := by decide +kernel
theorem d_15_108_0 : decode prog_15_method_108_code 0 = .ok (.aload_n 0, 1) := by decide +kernel
theorem d_15_108_1 : decode prog_15_method_108_code 1 = .ok (.iload_n 1, 1) := by decide +kernel
theorem d_15_108_2 : decode prog_15_method_108_code 2 = .ok (.invokevirtual 851, 3) := by decide +kernel
theorem d_15_108_5 : decode prog_15_method_108_code 5 = .ok (.astore_n 3, 1) := by decide +kernel
theorem d_15_108_6 : decode prog_15_method_108_code 6 = .ok (.aload_n 3, 1) := by decide +kernel
theorem d_15_108_7 : decode prog_15_method_108_code 7 = .ok (.ifnull 17, 3) := by decide +kernel
theorem d_15_108_24 : decode prog_15_method_108_code 24 = .ok (.iconst (-1), 1) := by decide +kernel
theorem d_15_108_25 : decode prog_15_method_108_code 25 = .ok (.ireturn, 1) := by decide +kernel
theorem d_15_110_0 : decode prog_15_method_110_code 0 = .ok (.aload_n 0, 1) := by decide +kernel
theorem d_15_110_1 : decode prog_15_method_110_code 1 = .ok (.iload_n 1, 1) := by decide +kernel
theorem d_15_110_2 : decode prog_15_method_110_code 2 = .ok (.invokevirtual 851, 3) := by decide +kernel
theorem d_15_110_5 : decode prog_15_method_110_code 5 = .ok (.astore 4, 2) := by decide +kernel
theorem d_15_110_7 : decode prog_15_method_110_code 7 = .ok (.aload 4, 2) := by decide +kernel
theorem d_15_110_9 : decode prog_15_method_110_code 9 = .ok (.ifnull 16, 3) := by decide +kernel
theorem d_15_110_25 : decode prog_15_method_110_code 25 = .ok (.ldc2_w 847, 3) := by decide +kernel
theorem d_15_110_28 : decode prog_15_method_110_code 28 = .ok (.lreturn, 1) := by decide +kernel
theorem d_15_111_0 : decode prog_15_method_111_code 0 = .ok (.aload_n 0, 1) := by decide +kernel
theorem d_15_111_1 : decode prog_15_method_111_code 1 = .ok (.iload_n 1, 1) := by decide +kernel
theorem d_15_111_2 : decode prog_15_method_111_code 2 = .ok (.invokevirtual 851, 3) := by decide +kernel
theorem d_15_111_5 : decode prog_15_method_111_code 5 = .ok (.astore 4, 2) := by decide +kernel
theorem d_15_111_7 : decode prog_15_method_111_code 7 = .ok (.aload 4, 2) := by decide +kernel
theorem d_15_111_9 : decode prog_15_method_111_code 9 = .ok (.iload_n 2, 1) := by decide +kernel
theorem d_15_111_10 : decode prog_15_method_111_code 10 = .ok (.invokestatic 879, 3) := by decide +kernel
theorem d_15_111_13 : decode prog_15_method_111_code 13 = .ok (.ifCond .eq 26, 3) := by decide +kernel
theorem d_15_111_39 : decode prog_15_method_111_code 39 = .ok (.iconst (-1), 1) := by decide +kernel
theorem d_15_111_40 : decode prog_15_method_111_code 40 = .ok (.ireturn, 1) := by decide +kernel
theorem d_15_121_0 : decode prog_15_method_121_code 0 = .ok (.aload_n 0, 1) := by decide +kernel
theorem d_15_121_1 : decode prog_15_method_121_code 1 = .ok (.iload_n 1, 1) := by decide +kernel
theorem d_15_121_2 : decode prog_15_method_121_code 2 = .ok (.invokevirtual 851, 3) := by decide +kernel
theorem d_15_121_5 : decode prog_15_method_121_code 5 = .ok (.astore_n 2, 1) := by decide +kernel
theorem d_15_121_6 : decode prog_15_method_121_code 6 = .ok (.aload_n 2, 1) := by decide +kernel
theorem d_15_121_7 : decode prog_15_method_121_code 7 = .ok (.ifnonnull 5, 3) := by decide +kernel
theorem d_15_121_10 : decode prog_15_method_121_code 10 = .ok (.iconst (-1), 1) := by decide +kernel
theorem d_15_121_11 : decode prog_15_method_121_code 11 = .ok (.ireturn, 1) := by decide +kernel
theorem d_15_122_0 : decode prog_15_method_122_code 0 = .ok (.aload_n 0, 1) := by decide +kernel
theorem d_15_122_1 : decode prog_15_method_122_code 1 = .ok (.iload_n 1, 1) := by decide +kernel
theorem d_15_122_2 : decode prog_15_method_122_code 2 = .ok (.invokevirtual 851, 3) := by decide +kernel
theorem d_15_122_5 : decode prog_15_method_122_code 5 = .ok (.astore 4, 2) := by decide +kernel
theorem d_15_122_7 : decode prog_15_method_122_code 7 = .ok (.aload 4, 2) := by decide +kernel
theorem d_15_122_9 : decode prog_15_method_122_code 9 = .ok (.ifnull 24, 3) := by decide +kernel
theorem d_15_122_33 : decode prog_15_method_122_code 33 = .ok (.iconst (-1), 1) := by decide +kernel
theorem d_15_122_34 : decode prog_15_method_122_code 34 = .ok (.ireturn, 1) := by decide +kernel
theorem d_15_129_0 : decode prog_15_method_129_code 0 = .ok (.aload_n 0, 1) := by decide +kernel
theorem d_15_129_1 : decode prog_15_method_129_code 1 = .ok (.iload_n 1, 1) := by decide +kernel
theorem d_15_129_2 : decode prog_15_method_129_code 2 = .ok (.invokevirtual 851, 3) := by decide +kernel
theorem d_15_129_5 : decode prog_15_method_129_code 5 = .ok (.astore_n 2, 1) := by decide +kernel
theorem d_15_129_6 : decode prog_15_method_129_code 6 = .ok (.aload_n 2, 1) := by decide +kernel
theorem d_15_129_7 : decode prog_15_method_129_code 7 = .ok (.ifnull 10, 3) := by decide +kernel
theorem d_15_129_17 : decode prog_15_method_129_code 17 = .ok (.iconst (-1), 1) := by decide +kernel
theorem d_15_129_18 : decode prog_15_method_129_code 18 = .ok (.ireturn, 1) := by decide +kernel
theorem d_15_133_0 : decode prog_15_method_133_code 0 = .ok (.iload_n 1, 1) := by decide +kernel
theorem d_15_133_1 : decode prog_15_method_133_code 1 = .ok (.ifCond .lt 24, 3) := by decide +kernel
theorem d_15_133_25 : decode prog_15_method_133_code 25 = .ok (.iconst (-1), 1) := by decide +kernel
theorem d_15_133_26 : decode prog_15_method_133_code 26 = .ok (.ireturn, 1) := by decide +kernel
theorem d_15_133_4 : decode prog_15_method_133_code 4 = .ok (.iload_n 1, 1) := by decide +kernel
theorem d_15_133_5 : decode prog_15_method_133_code 5 = .ok (.aload_n 0, 1) := by decide +kernel
theorem d_15_133_6 : decode prog_15_method_133_code 6 = .ok (.getfield 961, 3) := by decide +kernel
theorem d_15_133_9 : decode prog_15_method_133_code 9 = .ok (.if_icmp .ge 16, 3) := by decide +kernel
theorem d_15_134_0 : decode prog_15_method_134_code 0 = .ok (.aload_n 0, 1) := by decide +kernel
theorem d_15_134_1 : decode prog_15_method_134_code 1 = .ok (.getfield 961, 3) := by decide +kernel
theorem d_15_134_4 : decode prog_15_method_134_code 4 = .ok (.ifCond .eq 13, 3) := by decide +kernel
theorem d_15_134_17 : decode prog_15_method_134_code 17 = .ok (.iconst (-1), 1) := by decide +kernel
theorem d_15_134_18 : decode prog_15_method_134_code 18 = .ok (.ireturn, 1) := by decide +kernel
theorem d_15_149_0 : decode prog_15_method_149_code 0 = .ok (.aload_n 0, 1) := by decide +kernel
theorem d_15_149_1 : decode prog_15_method_149_code 1 = .ok (.getfield 1045, 3) := by decide +kernel
theorem d_15_149_4 : decode prog_15_method_149_code 4 = .ok (.ifCond .eq 22, 3) := by decide +kernel
theorem d_15_149_26 : decode prog_15_method_149_code 26 = .ok (.ldc_w 1060, 3) := by decide +kernel
theorem d_15_149_29 : decode prog_15_method_149_code 29 = .ok (.ireturn, 1) := by decide +kernel
theorem d_15_150_0 : decode prog_15_method_150_code 0 = .ok (.aload_n 0, 1) := by decide +kernel
theorem d_15_150_1 : decode prog_15_method_150_code 1 = .ok (.getfield 1045, 3) := by decide +kernel
theorem d_15_150_4 : decode prog_15_method_150_code 4 = .ok (.ifCond .eq 18, 3) := by decide +kernel
theorem d_15_150_22 : decode prog_15_method_150_code 22 = .ok (.ldc2_w 847, 3) := by decide +kernel
theorem d_15_150_25 : decode prog_15_method_150_code 25 = .ok (.lreturn, 1) := by decide +kernel
theorem d_15_153_0 : decode prog_15_method_153_code 0 = .ok (.aload_n 0, 1) := by decide +kernel
theorem d_15_153_1 : decode prog_15_method_153_code 1 = .ok (.getfield 1045, 3) := by decide +kernel
theorem d_15_153_4 : decode prog_15_method_153_code 4 = .ok (.ifCond .eq 36, 3) := by decide +kernel
theorem d_15_153_40 : decode prog_15_method_153_code 40 = .ok (.iconst (-1), 1) := by decide +kernel
theorem d_15_153_41 : decode prog_15_method_153_code 41 = .ok (.ireturn, 1) := by decide +kernel
theorem d_15_168_0 : decode prog_15_method_168_code 0 = .ok (.aload_n 0, 1) := by decide +kernel
theorem d_15_168_1 : decode prog_15_method_168_code 1 = .ok (.iload_n 1, 1) := by decide +kernel
theorem d_15_168_2 : decode prog_15_method_168_code 2 = .ok (.invokevirtual 851, 3) := by decide +kernel
theorem d_15_168_5 : decode prog_15_method_168_code 5 = .ok (.astore_n 3, 1) := by decide +kernel
theorem d_15_168_6 : decode prog_15_method_168_code 6 = .ok (.aload_n 3, 1) := by decide +kernel
theorem d_15_168_7 : decode prog_15_method_168_code 7 = .ok (.ifnull 21, 3) := by decide +kernel
theorem d_15_168_28 : decode prog_15_method_168_code 28 = .ok (.iconst (-1), 1) := by decide +kernel
theorem d_15_168_29 : decode prog_15_method_168_code 29 = .ok (.ireturn, 1) := by decide +kernel
theorem d_15_170_0 : decode prog_15_method_170_code 0 = .ok (.aload_n 0, 1) := by decide +kernel
theorem d_15_170_1 : decode prog_15_method_170_code 1 = .ok (.iload_n 1, 1) := by decide +kernel
theorem d_15_170_2 : decode prog_15_method_170_code 2 = .ok (.invokevirtual 851, 3) := by decide +kernel
theorem d_15_170_5 : decode prog_15_method_170_code 5 = .ok (.astore 4, 2) := by decide +kernel
theorem d_15_170_7 : decode prog_15_method_170_code 7 = .ok (.aload 4, 2) := by decide +kernel
theorem d_15_170_9 : decode prog_15_method_170_code 9 = .ok (.ifnull 24, 3) := by decide +kernel
theorem d_15_170_33 : decode prog_15_method_170_code 33 = .ok (.ldc_w 1060, 3) := by decide +kernel
theorem d_15_170_36 : decode prog_15_method_170_code 36 = .ok (.ireturn, 1) := by decide +kernel
theorem d_15_181_0 : decode prog_15_method_181_code 0 = .ok (.aload_n 0, 1) := by decide +kernel
theorem d_15_181_1 : decode prog_15_method_181_code 1 = .ok (.iload_n 1, 1) := by decide +kernel
theorem d_15_181_2 : decode prog_15_method_181_code 2 = .ok (.invokevirtual 851, 3) := by decide +kernel
theorem d_15_181_5 : decode prog_15_method_181_code 5 = .ok (.astore 4, 2) := by decide +kernel
theorem d_15_181_7 : decode prog_15_method_181_code 7 = .ok (.aload 4, 2) := by decide +kernel
theorem d_15_181_9 : decode prog_15_method_181_code 9 = .ok (.ifnull 26, 3) := by decide +kernel
theorem d_15_181_35 : decode prog_15_method_181_code 35 = .ok (.ldc2_w 1226, 3) := by decide +kernel
theorem d_15_181_38 : decode prog_15_method_181_code 38 = .ok (.lreturn, 1) := by decide +kernel
theorem d_15_194_0 : decode prog_15_method_194_code 0 = .ok (.aload_n 0, 1) := by decide +kernel
theorem d_15_194_1 : decode prog_15_method_194_code 1 = .ok (.iload_n 1, 1) := by decide +kernel
theorem d_15_194_2 : decode prog_15_method_194_code 2 = .ok (.invokevirtual 851, 3) := by decide +kernel
theorem d_15_194_5 : decode prog_15_method_194_code 5 = .ok (.astore 4, 2) := by decide +kernel
theorem d_15_194_7 : decode prog_15_method_194_code 7 = .ok (.aload 4, 2) := by decide +kernel
theorem d_15_194_9 : decode prog_15_method_194_code 9 = .ok (.ifnull 16, 3) := by decide +kernel
theorem d_15_194_25 : decode prog_15_method_194_code 25 = .ok (.iconst (-1), 1) := by decide +kernel
theorem d_15_194_26 : decode prog_15_method_194_code 26 = .ok (.ireturn, 1) := by decide +kernel
theorem d_15_198_0 : decode prog_15_method_198_code 0 = .ok (.aload_n 0, 1) := by decide +kernel
theorem d_15_198_1 : decode prog_15_method_198_code 1 = .ok (.iload_n 1, 1) := by decide +kernel
theorem d_15_198_2 : decode prog_15_method_198_code 2 = .ok (.invokevirtual 851, 3) := by decide +kernel
theorem d_15_198_5 : decode prog_15_method_198_code 5 = .ok (.astore 5, 2) := by decide +kernel
theorem d_15_198_7 : decode prog_15_method_198_code 7 = .ok (.aload 5, 2) := by decide +kernel
theorem d_15_198_9 : decode prog_15_method_198_code 9 = .ok (.iload_n 2, 1) := by decide +kernel
theorem d_15_198_10 : decode prog_15_method_198_code 10 = .ok (.invokestatic 879, 3) := by decide +kernel
theorem d_15_198_13 : decode prog_15_method_198_code 13 = .ok (.ifCond .eq 28, 3) := by decide +kernel
theorem d_15_198_41 : decode prog_15_method_198_code 41 = .ok (.ldc2_w 847, 3) := by decide +kernel
theorem d_15_198_44 : decode prog_15_method_198_code 44 = .ok (.lreturn, 1) := by decide +kernel
theorem d_15_199_0 : decode prog_15_method_199_code 0 = .ok (.aload_n 0, 1) := by decide +kernel
theorem d_15_199_1 : decode prog_15_method_199_code 1 = .ok (.iload_n 1, 1) := by decide +kernel
theorem d_15_199_2 : decode prog_15_method_199_code 2 = .ok (.invokevirtual 851, 3) := by decide +kernel
theorem d_15_199_5 : decode prog_15_method_199_code 5 = .ok (.astore 9, 2) := by decide +kernel
theorem d_15_199_7 : decode prog_15_method_199_code 7 = .ok (.aload_n 0, 1) := by decide +kernel
theorem d_15_199_8 : decode prog_15_method_199_code 8 = .ok (.iload 5, 2) := by decide +kernel
theorem d_15_199_10 : decode prog_15_method_199_code 10 = .ok (.invokevirtual 851, 3) := by decide +kernel
theorem d_15_199_13 : decode prog_15_method_199_code 13 = .ok (.astore 10, 2) := by decide +kernel
theorem d_15_199_15 : decode prog_15_method_199_code 15 = .ok (.aload 9, 2) := by decide +kernel
theorem d_15_199_17 : decode prog_15_method_199_code 17 = .ok (.iload_n 2, 1) := by decide +kernel
theorem d_15_199_18 : decode prog_15_method_199_code 18 = .ok (.invokestatic 879, 3) := by decide +kernel
theorem d_15_199_21 : decode prog_15_method_199_code 21 = .ok (.ifCond .eq 43, 3) := by decide +kernel
theorem d_15_199_64 : decode prog_15_method_199_code 64 = .ok (.iconst (-1), 1) := by decide +kernel
theorem d_15_199_65 : decode prog_15_method_199_code 65 = .ok (.ireturn, 1) := by decide +kernel
abbrev Q_M_piece_0 (D : va_G) (ca : Nat → ClassId) (a0 : Nat) (a5 : Nat) (a8 : Nat) (a9 : Nat) (g0 : Nat → Value) (g5 : Nat → Option Nat) (g8 : Nat → Value) (g9 : Nat → Value) (v0 : Int32) (A : Nat → Prop) : Array Value → State → Outcome → State → Prop := va_Qq (S := Unit) (fun (r : Option Nat) (u : Unit) => r = none) (fun u => gB D ca A [(a0, .inr (14, rg 107 g0)), (a5, .inl (ca 5, 2, .inr (.inr (.inr (.inr g5))))), (a8, .inr (13, rg 81 g8)), (a9, .inr (13, rg 81 g9))]) A
set_option maxHeartbeats 8000000 in
set_option maxRecDepth 100000 in
theorem c_M_piece_0 (l : Launch) (D : va_G) (ca : Nat → ClassId) (ad av : Nat → Nat) (sz : Nat) (a0 : Nat) (a5 : Nat) (a8 : Nat) (a9 : Nat) (g0 : Nat → Value) (g5 : Nat → Option Nat) (g8 : Nat → Value) (g9 : Nat → Value) (v0 : Int32) (hp0 : gF g0 [(5, .ref a5)]) (hp5 : gF g5 [(1, some a8), (0, some a9)]) (hp8 : gF g8 [(0, .int 0)]) (hp9 : gF g9 [(0, .int 0)]) : Met l ({ cls := "StaveHouseModel", name := "piece", desc := "(I)LStaveHouseModel$Piece;" } : Jvm.MethodName) (Cond.code ({ cls := "StaveHouseModel", name := "piece", desc := "(I)LStaveHouseModel$Piece;" } : Jvm.MethodName) prog_15_method_15_code 2 (Option.some (Jvm.ClassFile.FieldType.object "StaveHouseModel$Piece")) :: wAll) ({ frames := 0, cells := 0, slots := 0, locals := 0 } : Room) (va_Pc [.ref a0, .int v0] (gPre D ca ad av [(a0, .inr (14, rg 107 g0)), (a5, .inl (ca 5, 2, .inr (.inr (.inr (.inr g5))))), (a8, .inr (13, rg 81 g8)), (a9, .inr (13, rg 81 g9))] sz)) (Q_M_piece_0 D ca a0 a5 a8 a9 g0 g5 g8 g9 v0 (va_A [(a0, .inr (14, rg 107 g0)), (a5, .inl (ca 5, 2, .inr (.inr (.inr (.inr g5))))), (a8, .inr (13, rg 81 g8)), (a9, .inr (13, rg 81 g9))] sz)) 0 0 (va_A [(a0, .inr (14, rg 107 g0)), (a5, .inl (ca 5, 2, .inr (.inr (.inr (.inr g5))))), (a8, .inr (13, rg 81 g8)), (a9, .inr (13, rg 81 g9))] sz) := by
  refine gMet (Qc := Q_M_piece_0 D ca a0 a5 a8 a9 g0 g5 g8 g9 v0) (lv := [(0, .ref a0), (1, .int v0)]) (by decide) (Nat.le_of_ble_eq_true rfl) rfl (fun A p e s m below meth c ls hx hb hr hml hown hts hlk hnm hl hP hK hD hS hA hX => ?_)
  have hown : s.vm.findClass "StaveHouseModel" = some m.cls := hown
  have hnm : meth.name = "piece" := hnm
  refine lv_iload_n hx hb d_15_15_0 rfl (lv_at hl 1 rfl) ?_
  refine lv_if_lt (tgt := 30) hx hb d_15_15_1 (by decide) (fun c1 => ?_) (fun c1 => ?_)
  · refine lv_null hx hb d_15_15_30 ?_
    have hP9 := hP.sub (ws' := [(a0, .inr (14, rg 107 g0)), (a5, .inl (ca 5, 2, .inr (.inr (.inr (.inr g5))))), (a8, .inr (13, rg 81 g8)), (a9, .inr (13, rg 81 g9))]) [0, 1, 2, 3] rfl
    have hD9 := hD.sub (ws' := [(a0, .inr (14, rg 107 g0)), (a5, .inl (ca 5, 2, .inr (.inr (.inr (.inr g5))))), (a8, .inr (13, rg 81 g8)), (a9, .inr (13, rg 81 g9))]) [0, 1, 2, 3] (by decide) rfl
    refine W.widen (k := 0) (n := 0) (Nat.le_of_ble_eq_true rfl) (Nat.le_of_ble_eq_true rfl) ?_
    exact W.aret (v := .null) hx hb hr (Or.inl ⟨_, rfl⟩) (Or.inl rfl) (fun t ht hW => ⟨⟨none, (), rfl, rfl, by rw [ht]; exact hP9, va_K.moved hW.alike hK, hD9⟩, hS.F ht⟩) hS.2.2 d_15_15_31
  · refine lv_iload_n hx hb d_15_15_4 rfl (lv_at hl 1 rfl) ?_
    refine lv_iconst (v := 2) hx hb d_15_15_5 (by decide) ?_
    refine lv_icmp_ge (tgt := 30) hx hb d_15_15_6 (by decide) (fun c2 => ?_) (fun c2 => ?_)
    · refine lv_null hx hb d_15_15_30 ?_
      have hP9 := hP.sub (ws' := [(a0, .inr (14, rg 107 g0)), (a5, .inl (ca 5, 2, .inr (.inr (.inr (.inr g5))))), (a8, .inr (13, rg 81 g8)), (a9, .inr (13, rg 81 g9))]) [0, 1, 2, 3] rfl
      have hD9 := hD.sub (ws' := [(a0, .inr (14, rg 107 g0)), (a5, .inl (ca 5, 2, .inr (.inr (.inr (.inr g5))))), (a8, .inr (13, rg 81 g8)), (a9, .inr (13, rg 81 g9))]) [0, 1, 2, 3] (by decide) rfl
      refine W.widen (k := 0) (n := 0) (Nat.le_of_ble_eq_true rfl) (Nat.le_of_ble_eq_true rfl) ?_
      exact W.aret (v := .null) hx hb hr (Or.inl ⟨_, rfl⟩) (Or.inl rfl) (fun t ht hW => ⟨⟨none, (), rfl, rfl, by rw [ht]; exact hP9, va_K.moved hW.alike hK, hD9⟩, hS.F ht⟩) hS.2.2 d_15_15_31
    · refine lv_aload_n hx hb d_15_15_9 rfl (lv_at hl 0 rfl) ?_
      refine gget hx hb hts inW_14 hown hK hP 0 rfl rfl hp0 0 rfl (by decide) k_11_3 d_15_15_10 ?_
      refine lv_iload_n hx hb d_15_15_13 rfl (lv_at hl 1 rfl) ?_
      have hi3 : vp_in v0 2 := vin2 (by decide) c1 c2
      rcases v2 hi3 with h0 | h0
      · refine gaald hx hb hK hP 1 5 rfl rfl hp5 1 rfl h0 hi3 d_15_15_14 ?_
        refine W.eq (g2 := F0 m 15 ls [.ref a9]) rfl ?_
        refine gget hx hb hts inW_13 hown hK hP 3 rfl rfl hp9 0 rfl (by decide) k_9_125 d_15_15_15 ?_
        refine lv_if_eq (tgt := 30) hx hb d_15_15_18 (by decide) (fun _ => ?_) (fun c => absurd (by decide) c)
        refine lv_null hx hb d_15_15_30 ?_
        have hP9 := hP.sub (ws' := [(a0, .inr (14, rg 107 g0)), (a5, .inl (ca 5, 2, .inr (.inr (.inr (.inr g5))))), (a8, .inr (13, rg 81 g8)), (a9, .inr (13, rg 81 g9))]) [0, 1, 2, 3] rfl
        have hD9 := hD.sub (ws' := [(a0, .inr (14, rg 107 g0)), (a5, .inl (ca 5, 2, .inr (.inr (.inr (.inr g5))))), (a8, .inr (13, rg 81 g8)), (a9, .inr (13, rg 81 g9))]) [0, 1, 2, 3] (by decide) rfl
        refine W.widen (k := 0) (n := 0) (Nat.le_of_ble_eq_true rfl) (Nat.le_of_ble_eq_true rfl) ?_
        exact W.aret (v := .null) hx hb hr (Or.inl ⟨_, rfl⟩) (Or.inl rfl) (fun t ht hW => ⟨⟨none, (), rfl, rfl, by rw [ht]; exact hP9, va_K.moved hW.alike hK, hD9⟩, hS.F ht⟩) hS.2.2 d_15_15_31
      · refine gaald hx hb hK hP 1 5 rfl rfl hp5 0 rfl h0 hi3 d_15_15_14 ?_
        refine W.eq (g2 := F0 m 15 ls [.ref a8]) rfl ?_
        refine gget hx hb hts inW_13 hown hK hP 2 rfl rfl hp8 0 rfl (by decide) k_9_125 d_15_15_15 ?_
        refine lv_if_eq (tgt := 30) hx hb d_15_15_18 (by decide) (fun _ => ?_) (fun c => absurd (by decide) c)
        refine lv_null hx hb d_15_15_30 ?_
        have hP9 := hP.sub (ws' := [(a0, .inr (14, rg 107 g0)), (a5, .inl (ca 5, 2, .inr (.inr (.inr (.inr g5))))), (a8, .inr (13, rg 81 g8)), (a9, .inr (13, rg 81 g9))]) [0, 1, 2, 3] rfl
        have hD9 := hD.sub (ws' := [(a0, .inr (14, rg 107 g0)), (a5, .inl (ca 5, 2, .inr (.inr (.inr (.inr g5))))), (a8, .inr (13, rg 81 g8)), (a9, .inr (13, rg 81 g9))]) [0, 1, 2, 3] (by decide) rfl
        refine W.widen (k := 0) (n := 0) (Nat.le_of_ble_eq_true rfl) (Nat.le_of_ble_eq_true rfl) ?_
        exact W.aret (v := .null) hx hb hr (Or.inl ⟨_, rfl⟩) (Or.inl rfl) (fun t ht hW => ⟨⟨none, (), rfl, rfl, by rw [ht]; exact hP9, va_K.moved hW.alike hK, hD9⟩, hS.F ht⟩) hS.2.2 d_15_15_31
abbrev Q_M_look_0 (D : va_G) (ca : Nat → ClassId) (a0 : Nat) (a5 : Nat) (a8 : Nat) (a9 : Nat) (g0 : Nat → Value) (g5 : Nat → Option Nat) (g8 : Nat → Value) (g9 : Nat → Value) (v0 : Int32) (v1 : Int32) (A : Nat → Prop) : Array Value → State → Outcome → State → Prop := va_Qi (S := Unit) (fun (r : Int32) (u : Unit) => r = (-1)) (fun u => gB D ca A [(a0, .inr (14, rg 107 g0)), (a5, .inl (ca 5, 2, .inr (.inr (.inr (.inr g5))))), (a8, .inr (13, rg 81 g8)), (a9, .inr (13, rg 81 g9))]) A
set_option maxHeartbeats 8000000 in
set_option maxRecDepth 100000 in
theorem c_M_look_0 (l : Launch) (D : va_G) (ca : Nat → ClassId) (ad av : Nat → Nat) (sz : Nat) (a0 : Nat) (a5 : Nat) (a8 : Nat) (a9 : Nat) (g0 : Nat → Value) (g5 : Nat → Option Nat) (g8 : Nat → Value) (g9 : Nat → Value) (v0 : Int32) (v1 : Int32) (hp0 : gF g0 [(5, .ref a5)]) (hp5 : gF g5 [(1, some a8), (0, some a9)]) (hp8 : gF g8 [(0, .int 0)]) (hp9 : gF g9 [(0, .int 0)]) : Met l ({ cls := "StaveHouseModel", name := "look", desc := "(II)I" } : Jvm.MethodName) (Cond.code ({ cls := "StaveHouseModel", name := "look", desc := "(II)I" } : Jvm.MethodName) prog_15_method_203_code 4 (Option.some Jvm.ClassFile.FieldType.int) :: wAll) ({ frames := 1, cells := 0, slots := 0, locals := 21 } : Room) (va_Pc [.ref a0, .int v0, .int v1] (gPre D ca ad av [(a0, .inr (14, rg 107 g0)), (a5, .inl (ca 5, 2, .inr (.inr (.inr (.inr g5))))), (a8, .inr (13, rg 81 g8)), (a9, .inr (13, rg 81 g9))] sz)) (Q_M_look_0 D ca a0 a5 a8 a9 g0 g5 g8 g9 v0 v1 (va_A [(a0, .inr (14, rg 107 g0)), (a5, .inl (ca 5, 2, .inr (.inr (.inr (.inr g5))))), (a8, .inr (13, rg 81 g8)), (a9, .inr (13, rg 81 g9))] sz)) 0 0 (va_A [(a0, .inr (14, rg 107 g0)), (a5, .inl (ca 5, 2, .inr (.inr (.inr (.inr g5))))), (a8, .inr (13, rg 81 g8)), (a9, .inr (13, rg 81 g9))] sz) := by
  refine gMet (Qc := Q_M_look_0 D ca a0 a5 a8 a9 g0 g5 g8 g9 v0 v1) (lv := [(0, .ref a0), (1, .int v0), (2, .int v1)]) (by decide) (Nat.le_of_ble_eq_true rfl) rfl (fun A p e s m below meth c ls hx hb hr hml hown hts hlk hnm hl hP hK hD hS hA hX => ?_)
  have hown : s.vm.findClass "StaveHouseModel" = some m.cls := hown
  have hnm : meth.name = "look" := hnm
  refine lv_aload_n hx hb d_15_203_0 rfl (lv_at hl 0 rfl) ?_
  refine lv_iload_n hx hb d_15_203_1 rfl (lv_at hl 1 rfl) ?_
  have hFc1 := va_free (wc := [(a0, .inr (14, rg 107 g0)), (a5, .inl (ca 5, 2, .inr (.inr (.inr (.inr g5))))), (a8, .inr (13, rg 81 g8)), (a9, .inr (13, rg 81 g9))]) hD hS hA [0, 1, 2, 3] rfl
  refine va_callq (va_runV (As := [.int v0]) (rest := []) ⟨hx, hb, hml, hown, hts⟩ (c_M_piece_0 l D ca ad av s.heap.size a0 a5 a8 a9 g0 g5 g8 g9 v0 (hp0.sub [0] rfl) (hp5.sub [0, 1] rfl) (hp8.sub [0] rfl) (hp9.sub [0] rfl)) (cwV 1 hts (gdV k_12_92 k_12_94 ks_131 k_1_9 k_12_95) rfl rfl rfl (by decide +kernel) ⟨Nat.le_of_ble_eq_true rfl, Nat.le_of_ble_eq_true rfl⟩) (gPV hP hD hK hS hA hX [0, 1, 2, 3] (by decide) rfl a0 [.int v0] 0 (ci := 14) (r := (RX14, TX14, 107)) rfl rfl) rfl rfl hl.1 rfl (lv_room (Nat.le_of_ble_eq_true rfl)) d_15_203_2 ⟨Nat.le_of_ble_eq_true rfl, Nat.le_of_ble_eq_true rfl⟩) hS (fun q _ h => hFc1 q h) hFc1 (fun r1 u1 t1 H1 locs1 ht1 hvm1 hw1 hB1 hz1 hk1 hS1 => ?_)
  have hr1 := hw1
  obtain ⟨hP1, hD1⟩ := gJoin (wr := []) (w1 := [(a0, .inr (14, rg 107 g0)), (a5, .inl (ca 5, 2, .inr (.inr (.inr (.inr g5))))), (a8, .inr (13, rg 81 g8)), (a9, .inr (13, rg 81 g9))]) hP hD [0, 1, 2, 3] [] rfl rfl (by decide) (by decide) hk1 hFc1 ht1 hB1
  have hP1 : va_P D cls [(a0, .inr (14, rg 107 g0)), (a5, .inl (ca 5, 2, .inr (.inr (.inr (.inr g5))))), (a8, .inr (13, rg 81 g8)), (a9, .inr (13, rg 81 g9))] H1 := hP1
  have hD1 : va_D A [(a0, .inr (14, rg 107 g0)), (a5, .inl (ca 5, 2, .inr (.inr (.inr (.inr g5))))), (a8, .inr (13, rg 81 g8)), (a9, .inr (13, rg 81 g9))] := hD1
  refine W.widen (k := 0) (n := 0) (Nat.le_of_ble_eq_true rfl) (Nat.le_of_ble_eq_true rfl) ?_
  subst hr1
  refine W.eq (g2 := F0 m 5 ls [.null]) rfl ?_
  refine lv_astore_nN (lv' := [(3, .null), (0, .ref a0), (1, .int v0), (2, .int v1)]) hx hb d_15_203_5 rfl hl (by decide) rfl (fun ls hl => ?_)
  refine lv_aload_nN hx hb d_15_203_6 rfl (lv_at hl 0 rfl) ?_
  refine lv_ifnonnullN hx hb d_15_203_7 ?_
  refine lv_iconst (v := (-1)) hx hb d_15_203_10 (by decide) ?_
  have hP9 := hP1.sub (ws' := [(a0, .inr (14, rg 107 g0)), (a5, .inl (ca 5, 2, .inr (.inr (.inr (.inr g5))))), (a8, .inr (13, rg 81 g8)), (a9, .inr (13, rg 81 g9))]) [0, 1, 2, 3] rfl
  have hD9 := hD1.sub (ws' := [(a0, .inr (14, rg 107 g0)), (a5, .inl (ca 5, 2, .inr (.inr (.inr (.inr g5))))), (a8, .inr (13, rg 81 g8)), (a9, .inr (13, rg 81 g9))]) [0, 1, 2, 3] (by decide) rfl
  refine W.widen (k := 0) (n := 0) (Nat.le_of_ble_eq_true rfl) (Nat.le_of_ble_eq_true rfl) ?_
  exact W.iret (v := (-1)) hx hb hr (fun t ht hW => ⟨⟨(-1), (), rfl, rfl, by rw [ht]; exact hP9, va_K.moved hW.alike hK, hD9⟩, hS1.F ht⟩) hS1.2.2 d_15_203_11
abbrev Q_M_isVoice_0 (D : va_G) (ca : Nat → ClassId) (v0 : Int32) (A : Nat → Prop) : Array Value → State → Outcome → State → Prop := va_Qi (S := Unit) (fun (r : Int32) (u : Unit) => r = 0) (fun u => gB D ca A []) A
set_option maxHeartbeats 8000000 in
set_option maxRecDepth 100000 in
theorem c_M_isVoice_0 (l : Launch) (D : va_G) (ca : Nat → ClassId) (ad av : Nat → Nat) (sz : Nat) (v0 : Int32)  : Met l ({ cls := "StaveHouseModel", name := "isVoice", desc := "(LStaveHouseModel$Piece;I)Z" } : Jvm.MethodName) (Cond.code ({ cls := "StaveHouseModel", name := "isVoice", desc := "(LStaveHouseModel$Piece;I)Z" } : Jvm.MethodName) prog_15_method_16_code 2 (Option.some Jvm.ClassFile.FieldType.boolean) :: wAll) ({ frames := 0, cells := 0, slots := 0, locals := 0 } : Room) (va_Pc [.null, .int v0] (gPre D ca ad av [] sz)) (Q_M_isVoice_0 D ca v0 (va_A [] sz)) 0 0 (va_A [] sz) := by
  refine gMet (Qc := Q_M_isVoice_0 D ca v0) (lv := [(0, .null), (1, .int v0)]) (by decide) (Nat.le_of_ble_eq_true rfl) rfl (fun A p e s m below meth c ls hx hb hr hml hown hts hlk hnm hl hP hK hD hS hA hX => ?_)
  have hown : s.vm.findClass "StaveHouseModel" = some m.cls := hown
  have hnm : meth.name = "isVoice" := hnm
  refine lv_aload_nN hx hb d_15_16_0 rfl (lv_at hl 0 rfl) ?_
  refine lv_ifnullN (tgt := 20) hx hb d_15_16_1 (by decide) ?_
  refine lv_iconst (v := 0) hx hb d_15_16_20 (by decide) ?_
  have hP9 := hP.sub (ws' := []) [] rfl
  have hD9 := hD.sub (ws' := []) [] (by decide) rfl
  refine W.widen (k := 0) (n := 0) (Nat.le_of_ble_eq_true rfl) (Nat.le_of_ble_eq_true rfl) ?_
  exact W.zret (v := 0) hx hb hr rfl (fun t ht hW => ⟨⟨0, (), rfl, rfl, by rw [ht]; exact hP9, va_K.moved hW.alike hK, hD9⟩, hS.F ht⟩) hS.2.2 d_15_16_21
abbrev Q_M_voice_0 (D : va_G) (ca : Nat → ClassId) (a0 : Nat) (a5 : Nat) (a8 : Nat) (a9 : Nat) (g0 : Nat → Value) (g5 : Nat → Option Nat) (g8 : Nat → Value) (g9 : Nat → Value) (v0 : Int32) (v1 : Int32) (v2 : Int32) (A : Nat → Prop) : Array Value → State → Outcome → State → Prop := va_Qi (S := Unit) (fun (r : Int32) (u : Unit) => r = (-1)) (fun u => gB D ca A [(a0, .inr (14, rg 107 g0)), (a5, .inl (ca 5, 2, .inr (.inr (.inr (.inr g5))))), (a8, .inr (13, rg 81 g8)), (a9, .inr (13, rg 81 g9))]) A
set_option maxHeartbeats 8000000 in
set_option maxRecDepth 100000 in
theorem c_M_voice_0 (l : Launch) (D : va_G) (ca : Nat → ClassId) (ad av : Nat → Nat) (sz : Nat) (a0 : Nat) (a5 : Nat) (a8 : Nat) (a9 : Nat) (g0 : Nat → Value) (g5 : Nat → Option Nat) (g8 : Nat → Value) (g9 : Nat → Value) (v0 : Int32) (v1 : Int32) (v2 : Int32) (hp0 : gF g0 [(5, .ref a5)]) (hp5 : gF g5 [(1, some a8), (0, some a9)]) (hp8 : gF g8 [(0, .int 0)]) (hp9 : gF g9 [(0, .int 0)]) : Met l ({ cls := "StaveHouseModel", name := "voice", desc := "(III)I" } : Jvm.MethodName) (Cond.code ({ cls := "StaveHouseModel", name := "voice", desc := "(III)I" } : Jvm.MethodName) prog_15_method_204_code 5 (Option.some Jvm.ClassFile.FieldType.int) :: wAll) ({ frames := 1, cells := 0, slots := 0, locals := 21 } : Room) (va_Pc [.ref a0, .int v0, .int v1, .int v2] (gPre D ca ad av [(a0, .inr (14, rg 107 g0)), (a5, .inl (ca 5, 2, .inr (.inr (.inr (.inr g5))))), (a8, .inr (13, rg 81 g8)), (a9, .inr (13, rg 81 g9))] sz)) (Q_M_voice_0 D ca a0 a5 a8 a9 g0 g5 g8 g9 v0 v1 v2 (va_A [(a0, .inr (14, rg 107 g0)), (a5, .inl (ca 5, 2, .inr (.inr (.inr (.inr g5))))), (a8, .inr (13, rg 81 g8)), (a9, .inr (13, rg 81 g9))] sz)) 0 0 (va_A [(a0, .inr (14, rg 107 g0)), (a5, .inl (ca 5, 2, .inr (.inr (.inr (.inr g5))))), (a8, .inr (13, rg 81 g8)), (a9, .inr (13, rg 81 g9))] sz) := by
  refine gMet (Qc := Q_M_voice_0 D ca a0 a5 a8 a9 g0 g5 g8 g9 v0 v1 v2) (lv := [(0, .ref a0), (1, .int v0), (2, .int v1), (3, .int v2)]) (by decide) (Nat.le_of_ble_eq_true rfl) rfl (fun A p e s m below meth c ls hx hb hr hml hown hts hlk hnm hl hP hK hD hS hA hX => ?_)
  have hown : s.vm.findClass "StaveHouseModel" = some m.cls := hown
  have hnm : meth.name = "voice" := hnm
  refine lv_aload_n hx hb d_15_204_0 rfl (lv_at hl 0 rfl) ?_
  refine lv_iload_n hx hb d_15_204_1 rfl (lv_at hl 1 rfl) ?_
  have hFc1 := va_free (wc := [(a0, .inr (14, rg 107 g0)), (a5, .inl (ca 5, 2, .inr (.inr (.inr (.inr g5))))), (a8, .inr (13, rg 81 g8)), (a9, .inr (13, rg 81 g9))]) hD hS hA [0, 1, 2, 3] rfl
  refine va_callq (va_runV (As := [.int v0]) (rest := []) ⟨hx, hb, hml, hown, hts⟩ (c_M_piece_0 l D ca ad av s.heap.size a0 a5 a8 a9 g0 g5 g8 g9 v0 (hp0.sub [0] rfl) (hp5.sub [0, 1] rfl) (hp8.sub [0] rfl) (hp9.sub [0] rfl)) (cwV 1 hts (gdV k_12_92 k_12_94 ks_131 k_1_9 k_12_95) rfl rfl rfl (by decide +kernel) ⟨Nat.le_of_ble_eq_true rfl, Nat.le_of_ble_eq_true rfl⟩) (gPV hP hD hK hS hA hX [0, 1, 2, 3] (by decide) rfl a0 [.int v0] 0 (ci := 14) (r := (RX14, TX14, 107)) rfl rfl) rfl rfl hl.1 rfl (lv_room (Nat.le_of_ble_eq_true rfl)) d_15_204_2 ⟨Nat.le_of_ble_eq_true rfl, Nat.le_of_ble_eq_true rfl⟩) hS (fun q _ h => hFc1 q h) hFc1 (fun r1 u1 t1 H1 locs1 ht1 hvm1 hw1 hB1 hz1 hk1 hS1 => ?_)
  have hr1 := hw1
  obtain ⟨hP1, hD1⟩ := gJoin (wr := []) (w1 := [(a0, .inr (14, rg 107 g0)), (a5, .inl (ca 5, 2, .inr (.inr (.inr (.inr g5))))), (a8, .inr (13, rg 81 g8)), (a9, .inr (13, rg 81 g9))]) hP hD [0, 1, 2, 3] [] rfl rfl (by decide) (by decide) hk1 hFc1 ht1 hB1
  have hP1 : va_P D cls [(a0, .inr (14, rg 107 g0)), (a5, .inl (ca 5, 2, .inr (.inr (.inr (.inr g5))))), (a8, .inr (13, rg 81 g8)), (a9, .inr (13, rg 81 g9))] H1 := hP1
  have hD1 : va_D A [(a0, .inr (14, rg 107 g0)), (a5, .inl (ca 5, 2, .inr (.inr (.inr (.inr g5))))), (a8, .inr (13, rg 81 g8)), (a9, .inr (13, rg 81 g9))] := hD1
  refine W.widen (k := 0) (n := 0) (Nat.le_of_ble_eq_true rfl) (Nat.le_of_ble_eq_true rfl) ?_
  subst hr1
  refine W.eq (g2 := F0 m 5 ls [.null]) rfl ?_
  refine lv_astoreN (lv' := [(4, .null), (0, .ref a0), (1, .int v0), (2, .int v1), (3, .int v2)]) hx hb d_15_204_5 hl (by decide) rfl (fun ls hl => ?_)
  refine lv_aloadN hx hb d_15_204_7 (lv_at hl 0 rfl) ?_
  refine lv_iload_n hx hb d_15_204_9 rfl (lv_at hl 3 rfl) ?_
  have hFc2 := va_free (wc := []) hD1 hS1 hA [] rfl
  refine va_calli (va_runS (As := [.null, .int v1]) (rest := []) ⟨hx, hb, hml, hown, hts⟩ (c_M_isVoice_0 l D ca ad av H1.size v1 ) (va_cwS 2 hts (gdS k_12_118 k_12_119 k_1_9 k_12_120) rfl rfl rfl (by decide +kernel) ⟨Nat.le_of_ble_eq_true rfl, Nat.le_of_ble_eq_true rfl⟩) (gPS hP1 hD1 hK hS1 hA hX [] (by decide) rfl [.null, .int v1]) rfl rfl hl.1 rfl (lv_room (Nat.le_of_ble_eq_true rfl)) d_15_204_10 ⟨Nat.le_of_ble_eq_true rfl, Nat.le_of_ble_eq_true rfl⟩) hS1 (fun q _ h => hFc2 q h) hFc2 (fun r2 u2 t2 H2 locs2 ht2 hvm2 hw2 hB2 hz2 hk2 hS2 => ?_)
  have hr2 := hw2
  obtain ⟨hP2, hD2⟩ := gJoin (wr := [(a0, .inr (14, rg 107 g0)), (a5, .inl (ca 5, 2, .inr (.inr (.inr (.inr g5))))), (a8, .inr (13, rg 81 g8)), (a9, .inr (13, rg 81 g9))]) (w1 := []) hP1 hD1 [] [0, 1, 2, 3] rfl rfl (by decide) (by decide) hk2 hFc2 ht2 hB2
  have hP2 : va_P D cls [(a0, .inr (14, rg 107 g0)), (a5, .inl (ca 5, 2, .inr (.inr (.inr (.inr g5))))), (a8, .inr (13, rg 81 g8)), (a9, .inr (13, rg 81 g9))] H2 := hP2
  have hD2 : va_D A [(a0, .inr (14, rg 107 g0)), (a5, .inl (ca 5, 2, .inr (.inr (.inr (.inr g5))))), (a8, .inr (13, rg 81 g8)), (a9, .inr (13, rg 81 g9))] := hD2
  refine W.widen (k := 0) (n := 0) (Nat.le_of_ble_eq_true rfl) (Nat.le_of_ble_eq_true rfl) ?_
  subst hr2
  refine lv_if_ne (tgt := 18) hx hb d_15_204_13 (by decide) (fun c => absurd c (by decide)) (fun _ => ?_)
  refine lv_iconst (v := (-1)) hx hb d_15_204_16 (by decide) ?_
  have hP9 := hP2.sub (ws' := [(a0, .inr (14, rg 107 g0)), (a5, .inl (ca 5, 2, .inr (.inr (.inr (.inr g5))))), (a8, .inr (13, rg 81 g8)), (a9, .inr (13, rg 81 g9))]) [0, 1, 2, 3] rfl
  have hD9 := hD2.sub (ws' := [(a0, .inr (14, rg 107 g0)), (a5, .inl (ca 5, 2, .inr (.inr (.inr (.inr g5))))), (a8, .inr (13, rg 81 g8)), (a9, .inr (13, rg 81 g9))]) [0, 1, 2, 3] (by decide) rfl
  refine W.widen (k := 0) (n := 0) (Nat.le_of_ble_eq_true rfl) (Nat.le_of_ble_eq_true rfl) ?_
  exact W.iret (v := (-1)) hx hb hr (fun t ht hW => ⟨⟨(-1), (), rfl, rfl, by rw [ht]; exact hP9, va_K.moved hW.alike hK, hD9⟩, hS2.F ht⟩) hS2.2.2 d_15_204_17
abbrev Q_M_name_0 (D : va_G) (ca : Nat → ClassId) (a0 : Nat) (a5 : Nat) (a8 : Nat) (a9 : Nat) (g0 : Nat → Value) (g5 : Nat → Option Nat) (g8 : Nat → Value) (g9 : Nat → Value) (v0 : Int32) (v1 : Int32) (A : Nat → Prop) : Array Value → State → Outcome → State → Prop := va_Ql (S := Unit) (fun (r : Int64) (u : Unit) => r = 0) (fun u => gB D ca A [(a0, .inr (14, rg 107 g0)), (a5, .inl (ca 5, 2, .inr (.inr (.inr (.inr g5))))), (a8, .inr (13, rg 81 g8)), (a9, .inr (13, rg 81 g9))]) A
set_option maxHeartbeats 8000000 in
set_option maxRecDepth 100000 in
theorem c_M_name_0 (l : Launch) (D : va_G) (ca : Nat → ClassId) (ad av : Nat → Nat) (sz : Nat) (a0 : Nat) (a5 : Nat) (a8 : Nat) (a9 : Nat) (g0 : Nat → Value) (g5 : Nat → Option Nat) (g8 : Nat → Value) (g9 : Nat → Value) (v0 : Int32) (v1 : Int32) (hp0 : gF g0 [(5, .ref a5)]) (hp5 : gF g5 [(1, some a8), (0, some a9)]) (hp8 : gF g8 [(0, .int 0)]) (hp9 : gF g9 [(0, .int 0)]) : Met l ({ cls := "StaveHouseModel", name := "name", desc := "(II)J" } : Jvm.MethodName) (Cond.code ({ cls := "StaveHouseModel", name := "name", desc := "(II)J" } : Jvm.MethodName) prog_15_method_205_code 4 (Option.some Jvm.ClassFile.FieldType.long) :: wAll) ({ frames := 1, cells := 0, slots := 0, locals := 21 } : Room) (va_Pc [.ref a0, .int v0, .int v1] (gPre D ca ad av [(a0, .inr (14, rg 107 g0)), (a5, .inl (ca 5, 2, .inr (.inr (.inr (.inr g5))))), (a8, .inr (13, rg 81 g8)), (a9, .inr (13, rg 81 g9))] sz)) (Q_M_name_0 D ca a0 a5 a8 a9 g0 g5 g8 g9 v0 v1 (va_A [(a0, .inr (14, rg 107 g0)), (a5, .inl (ca 5, 2, .inr (.inr (.inr (.inr g5))))), (a8, .inr (13, rg 81 g8)), (a9, .inr (13, rg 81 g9))] sz)) 0 0 (va_A [(a0, .inr (14, rg 107 g0)), (a5, .inl (ca 5, 2, .inr (.inr (.inr (.inr g5))))), (a8, .inr (13, rg 81 g8)), (a9, .inr (13, rg 81 g9))] sz) := by
  refine gMet (Qc := Q_M_name_0 D ca a0 a5 a8 a9 g0 g5 g8 g9 v0 v1) (lv := [(0, .ref a0), (1, .int v0), (2, .int v1)]) (by decide) (Nat.le_of_ble_eq_true rfl) rfl (fun A p e s m below meth c ls hx hb hr hml hown hts hlk hnm hl hP hK hD hS hA hX => ?_)
  have hown : s.vm.findClass "StaveHouseModel" = some m.cls := hown
  have hnm : meth.name = "name" := hnm
  refine lv_aload_n hx hb d_15_205_0 rfl (lv_at hl 0 rfl) ?_
  refine lv_iload_n hx hb d_15_205_1 rfl (lv_at hl 1 rfl) ?_
  have hFc1 := va_free (wc := [(a0, .inr (14, rg 107 g0)), (a5, .inl (ca 5, 2, .inr (.inr (.inr (.inr g5))))), (a8, .inr (13, rg 81 g8)), (a9, .inr (13, rg 81 g9))]) hD hS hA [0, 1, 2, 3] rfl
  refine va_callq (va_runV (As := [.int v0]) (rest := []) ⟨hx, hb, hml, hown, hts⟩ (c_M_piece_0 l D ca ad av s.heap.size a0 a5 a8 a9 g0 g5 g8 g9 v0 (hp0.sub [0] rfl) (hp5.sub [0, 1] rfl) (hp8.sub [0] rfl) (hp9.sub [0] rfl)) (cwV 1 hts (gdV k_12_92 k_12_94 ks_131 k_1_9 k_12_95) rfl rfl rfl (by decide +kernel) ⟨Nat.le_of_ble_eq_true rfl, Nat.le_of_ble_eq_true rfl⟩) (gPV hP hD hK hS hA hX [0, 1, 2, 3] (by decide) rfl a0 [.int v0] 0 (ci := 14) (r := (RX14, TX14, 107)) rfl rfl) rfl rfl hl.1 rfl (lv_room (Nat.le_of_ble_eq_true rfl)) d_15_205_2 ⟨Nat.le_of_ble_eq_true rfl, Nat.le_of_ble_eq_true rfl⟩) hS (fun q _ h => hFc1 q h) hFc1 (fun r1 u1 t1 H1 locs1 ht1 hvm1 hw1 hB1 hz1 hk1 hS1 => ?_)
  have hr1 := hw1
  obtain ⟨hP1, hD1⟩ := gJoin (wr := []) (w1 := [(a0, .inr (14, rg 107 g0)), (a5, .inl (ca 5, 2, .inr (.inr (.inr (.inr g5))))), (a8, .inr (13, rg 81 g8)), (a9, .inr (13, rg 81 g9))]) hP hD [0, 1, 2, 3] [] rfl rfl (by decide) (by decide) hk1 hFc1 ht1 hB1
  have hP1 : va_P D cls [(a0, .inr (14, rg 107 g0)), (a5, .inl (ca 5, 2, .inr (.inr (.inr (.inr g5))))), (a8, .inr (13, rg 81 g8)), (a9, .inr (13, rg 81 g9))] H1 := hP1
  have hD1 : va_D A [(a0, .inr (14, rg 107 g0)), (a5, .inl (ca 5, 2, .inr (.inr (.inr (.inr g5))))), (a8, .inr (13, rg 81 g8)), (a9, .inr (13, rg 81 g9))] := hD1
  refine W.widen (k := 0) (n := 0) (Nat.le_of_ble_eq_true rfl) (Nat.le_of_ble_eq_true rfl) ?_
  subst hr1
  refine W.eq (g2 := F0 m 5 ls [.null]) rfl ?_
  refine lv_astore_nN (lv' := [(3, .null), (0, .ref a0), (1, .int v0), (2, .int v1)]) hx hb d_15_205_5 rfl hl (by decide) rfl (fun ls hl => ?_)
  refine lv_aload_nN hx hb d_15_205_6 rfl (lv_at hl 0 rfl) ?_
  refine lv_iload_n hx hb d_15_205_7 rfl (lv_at hl 3 rfl) ?_
  have hFc2 := va_free (wc := []) hD1 hS1 hA [] rfl
  refine va_calli (va_runS (As := [.null, .int v1]) (rest := []) ⟨hx, hb, hml, hown, hts⟩ (c_M_isVoice_0 l D ca ad av H1.size v1 ) (va_cwS 2 hts (gdS k_12_118 k_12_119 k_1_9 k_12_120) rfl rfl rfl (by decide +kernel) ⟨Nat.le_of_ble_eq_true rfl, Nat.le_of_ble_eq_true rfl⟩) (gPS hP1 hD1 hK hS1 hA hX [] (by decide) rfl [.null, .int v1]) rfl rfl hl.1 rfl (lv_room (Nat.le_of_ble_eq_true rfl)) d_15_205_8 ⟨Nat.le_of_ble_eq_true rfl, Nat.le_of_ble_eq_true rfl⟩) hS1 (fun q _ h => hFc2 q h) hFc2 (fun r2 u2 t2 H2 locs2 ht2 hvm2 hw2 hB2 hz2 hk2 hS2 => ?_)
  have hr2 := hw2
  obtain ⟨hP2, hD2⟩ := gJoin (wr := [(a0, .inr (14, rg 107 g0)), (a5, .inl (ca 5, 2, .inr (.inr (.inr (.inr g5))))), (a8, .inr (13, rg 81 g8)), (a9, .inr (13, rg 81 g9))]) (w1 := []) hP1 hD1 [] [0, 1, 2, 3] rfl rfl (by decide) (by decide) hk2 hFc2 ht2 hB2
  have hP2 : va_P D cls [(a0, .inr (14, rg 107 g0)), (a5, .inl (ca 5, 2, .inr (.inr (.inr (.inr g5))))), (a8, .inr (13, rg 81 g8)), (a9, .inr (13, rg 81 g9))] H2 := hP2
  have hD2 : va_D A [(a0, .inr (14, rg 107 g0)), (a5, .inl (ca 5, 2, .inr (.inr (.inr (.inr g5))))), (a8, .inr (13, rg 81 g8)), (a9, .inr (13, rg 81 g9))] := hD2
  refine W.widen (k := 0) (n := 0) (Nat.le_of_ble_eq_true rfl) (Nat.le_of_ble_eq_true rfl) ?_
  subst hr2
  refine lv_if_eq (tgt := 23) hx hb d_15_205_11 (by decide) (fun _ => ?_) (fun c => absurd (by decide) c)
  refine lv_lconst (v := 0) hx hb d_15_205_23 (by decide) ?_
  have hP9 := hP2.sub (ws' := [(a0, .inr (14, rg 107 g0)), (a5, .inl (ca 5, 2, .inr (.inr (.inr (.inr g5))))), (a8, .inr (13, rg 81 g8)), (a9, .inr (13, rg 81 g9))]) [0, 1, 2, 3] rfl
  have hD9 := hD2.sub (ws' := [(a0, .inr (14, rg 107 g0)), (a5, .inl (ca 5, 2, .inr (.inr (.inr (.inr g5))))), (a8, .inr (13, rg 81 g8)), (a9, .inr (13, rg 81 g9))]) [0, 1, 2, 3] (by decide) rfl
  refine W.widen (k := 0) (n := 0) (Nat.le_of_ble_eq_true rfl) (Nat.le_of_ble_eq_true rfl) ?_
  exact W.lret (v := 0) hx hb hr (fun t ht hW => ⟨⟨0, (), rfl, rfl, by rw [ht]; exact hP9, va_K.moved hW.alike hK, hD9⟩, hS2.F ht⟩) hS2.2.2 d_15_205_24
abbrev Q_M_event_0 (D : va_G) (ca : Nat → ClassId) (a0 : Nat) (a5 : Nat) (a8 : Nat) (a9 : Nat) (g0 : Nat → Value) (g5 : Nat → Option Nat) (g8 : Nat → Value) (g9 : Nat → Value) (v0 : Int32) (v1 : Int32) (v2 : Int32) (v3 : Int32) (A : Nat → Prop) : Array Value → State → Outcome → State → Prop := va_Ql (S := Unit) (fun (r : Int64) (u : Unit) => r = (-1)) (fun u => gB D ca A [(a0, .inr (14, rg 107 g0)), (a5, .inl (ca 5, 2, .inr (.inr (.inr (.inr g5))))), (a8, .inr (13, rg 81 g8)), (a9, .inr (13, rg 81 g9))]) A
set_option maxHeartbeats 8000000 in
set_option maxRecDepth 100000 in
theorem c_M_event_0 (l : Launch) (D : va_G) (ca : Nat → ClassId) (ad av : Nat → Nat) (sz : Nat) (a0 : Nat) (a5 : Nat) (a8 : Nat) (a9 : Nat) (g0 : Nat → Value) (g5 : Nat → Option Nat) (g8 : Nat → Value) (g9 : Nat → Value) (v0 : Int32) (v1 : Int32) (v2 : Int32) (v3 : Int32) (hp0 : gF g0 [(5, .ref a5)]) (hp5 : gF g5 [(1, some a8), (0, some a9)]) (hp8 : gF g8 [(0, .int 0)]) (hp9 : gF g9 [(0, .int 0)]) : Met l ({ cls := "StaveHouseModel", name := "event", desc := "(IIII)J" } : Jvm.MethodName) (Cond.code ({ cls := "StaveHouseModel", name := "event", desc := "(IIII)J" } : Jvm.MethodName) prog_15_method_206_code 7 (Option.some Jvm.ClassFile.FieldType.long) :: wAll) ({ frames := 1, cells := 0, slots := 0, locals := 21 } : Room) (va_Pc [.ref a0, .int v0, .int v1, .int v2, .int v3] (gPre D ca ad av [(a0, .inr (14, rg 107 g0)), (a5, .inl (ca 5, 2, .inr (.inr (.inr (.inr g5))))), (a8, .inr (13, rg 81 g8)), (a9, .inr (13, rg 81 g9))] sz)) (Q_M_event_0 D ca a0 a5 a8 a9 g0 g5 g8 g9 v0 v1 v2 v3 (va_A [(a0, .inr (14, rg 107 g0)), (a5, .inl (ca 5, 2, .inr (.inr (.inr (.inr g5))))), (a8, .inr (13, rg 81 g8)), (a9, .inr (13, rg 81 g9))] sz)) 0 0 (va_A [(a0, .inr (14, rg 107 g0)), (a5, .inl (ca 5, 2, .inr (.inr (.inr (.inr g5))))), (a8, .inr (13, rg 81 g8)), (a9, .inr (13, rg 81 g9))] sz) := by
  refine gMet (Qc := Q_M_event_0 D ca a0 a5 a8 a9 g0 g5 g8 g9 v0 v1 v2 v3) (lv := [(0, .ref a0), (1, .int v0), (2, .int v1), (3, .int v2), (4, .int v3)]) (by decide) (Nat.le_of_ble_eq_true rfl) rfl (fun A p e s m below meth c ls hx hb hr hml hown hts hlk hnm hl hP hK hD hS hA hX => ?_)
  have hown : s.vm.findClass "StaveHouseModel" = some m.cls := hown
  have hnm : meth.name = "event" := hnm
  refine lv_aload_n hx hb d_15_206_0 rfl (lv_at hl 0 rfl) ?_
  refine lv_iload_n hx hb d_15_206_1 rfl (lv_at hl 1 rfl) ?_
  have hFc1 := va_free (wc := [(a0, .inr (14, rg 107 g0)), (a5, .inl (ca 5, 2, .inr (.inr (.inr (.inr g5))))), (a8, .inr (13, rg 81 g8)), (a9, .inr (13, rg 81 g9))]) hD hS hA [0, 1, 2, 3] rfl
  refine va_callq (va_runV (As := [.int v0]) (rest := []) ⟨hx, hb, hml, hown, hts⟩ (c_M_piece_0 l D ca ad av s.heap.size a0 a5 a8 a9 g0 g5 g8 g9 v0 (hp0.sub [0] rfl) (hp5.sub [0, 1] rfl) (hp8.sub [0] rfl) (hp9.sub [0] rfl)) (cwV 1 hts (gdV k_12_92 k_12_94 ks_131 k_1_9 k_12_95) rfl rfl rfl (by decide +kernel) ⟨Nat.le_of_ble_eq_true rfl, Nat.le_of_ble_eq_true rfl⟩) (gPV hP hD hK hS hA hX [0, 1, 2, 3] (by decide) rfl a0 [.int v0] 0 (ci := 14) (r := (RX14, TX14, 107)) rfl rfl) rfl rfl hl.1 rfl (lv_room (Nat.le_of_ble_eq_true rfl)) d_15_206_2 ⟨Nat.le_of_ble_eq_true rfl, Nat.le_of_ble_eq_true rfl⟩) hS (fun q _ h => hFc1 q h) hFc1 (fun r1 u1 t1 H1 locs1 ht1 hvm1 hw1 hB1 hz1 hk1 hS1 => ?_)
  have hr1 := hw1
  obtain ⟨hP1, hD1⟩ := gJoin (wr := []) (w1 := [(a0, .inr (14, rg 107 g0)), (a5, .inl (ca 5, 2, .inr (.inr (.inr (.inr g5))))), (a8, .inr (13, rg 81 g8)), (a9, .inr (13, rg 81 g9))]) hP hD [0, 1, 2, 3] [] rfl rfl (by decide) (by decide) hk1 hFc1 ht1 hB1
  have hP1 : va_P D cls [(a0, .inr (14, rg 107 g0)), (a5, .inl (ca 5, 2, .inr (.inr (.inr (.inr g5))))), (a8, .inr (13, rg 81 g8)), (a9, .inr (13, rg 81 g9))] H1 := hP1
  have hD1 : va_D A [(a0, .inr (14, rg 107 g0)), (a5, .inl (ca 5, 2, .inr (.inr (.inr (.inr g5))))), (a8, .inr (13, rg 81 g8)), (a9, .inr (13, rg 81 g9))] := hD1
  refine W.widen (k := 0) (n := 0) (Nat.le_of_ble_eq_true rfl) (Nat.le_of_ble_eq_true rfl) ?_
  subst hr1
  refine W.eq (g2 := F0 m 5 ls [.null]) rfl ?_
  refine lv_astoreN (lv' := [(5, .null), (0, .ref a0), (1, .int v0), (2, .int v1), (3, .int v2), (4, .int v3)]) hx hb d_15_206_5 hl (by decide) rfl (fun ls hl => ?_)
  refine lv_aloadN hx hb d_15_206_7 (lv_at hl 0 rfl) ?_
  refine lv_iload_n hx hb d_15_206_9 rfl (lv_at hl 3 rfl) ?_
  have hFc2 := va_free (wc := []) hD1 hS1 hA [] rfl
  refine va_calli (va_runS (As := [.null, .int v1]) (rest := []) ⟨hx, hb, hml, hown, hts⟩ (c_M_isVoice_0 l D ca ad av H1.size v1 ) (va_cwS 2 hts (gdS k_12_118 k_12_119 k_1_9 k_12_120) rfl rfl rfl (by decide +kernel) ⟨Nat.le_of_ble_eq_true rfl, Nat.le_of_ble_eq_true rfl⟩) (gPS hP1 hD1 hK hS1 hA hX [] (by decide) rfl [.null, .int v1]) rfl rfl hl.1 rfl (lv_room (Nat.le_of_ble_eq_true rfl)) d_15_206_10 ⟨Nat.le_of_ble_eq_true rfl, Nat.le_of_ble_eq_true rfl⟩) hS1 (fun q _ h => hFc2 q h) hFc2 (fun r2 u2 t2 H2 locs2 ht2 hvm2 hw2 hB2 hz2 hk2 hS2 => ?_)
  have hr2 := hw2
  obtain ⟨hP2, hD2⟩ := gJoin (wr := [(a0, .inr (14, rg 107 g0)), (a5, .inl (ca 5, 2, .inr (.inr (.inr (.inr g5))))), (a8, .inr (13, rg 81 g8)), (a9, .inr (13, rg 81 g9))]) (w1 := []) hP1 hD1 [] [0, 1, 2, 3] rfl rfl (by decide) (by decide) hk2 hFc2 ht2 hB2
  have hP2 : va_P D cls [(a0, .inr (14, rg 107 g0)), (a5, .inl (ca 5, 2, .inr (.inr (.inr (.inr g5))))), (a8, .inr (13, rg 81 g8)), (a9, .inr (13, rg 81 g9))] H2 := hP2
  have hD2 : va_D A [(a0, .inr (14, rg 107 g0)), (a5, .inl (ca 5, 2, .inr (.inr (.inr (.inr g5))))), (a8, .inr (13, rg 81 g8)), (a9, .inr (13, rg 81 g9))] := hD2
  refine W.widen (k := 0) (n := 0) (Nat.le_of_ble_eq_true rfl) (Nat.le_of_ble_eq_true rfl) ?_
  subst hr2
  refine lv_if_eq (tgt := 31) hx hb d_15_206_13 (by decide) (fun _ => ?_) (fun c => absurd (by decide) c)
  refine lv_ldc2 hx hb hown (hts _ k_12_105) d_15_206_31 ?_
  have hP9 := hP2.sub (ws' := [(a0, .inr (14, rg 107 g0)), (a5, .inl (ca 5, 2, .inr (.inr (.inr (.inr g5))))), (a8, .inr (13, rg 81 g8)), (a9, .inr (13, rg 81 g9))]) [0, 1, 2, 3] rfl
  have hD9 := hD2.sub (ws' := [(a0, .inr (14, rg 107 g0)), (a5, .inl (ca 5, 2, .inr (.inr (.inr (.inr g5))))), (a8, .inr (13, rg 81 g8)), (a9, .inr (13, rg 81 g9))]) [0, 1, 2, 3] (by decide) rfl
  refine W.widen (k := 0) (n := 0) (Nat.le_of_ble_eq_true rfl) (Nat.le_of_ble_eq_true rfl) ?_
  exact W.lret (v := (-1)) hx hb hr (fun t ht hW => ⟨⟨(-1), (), rfl, rfl, by rw [ht]; exact hP9, va_K.moved hW.alike hK, hD9⟩, hS2.F ht⟩) hS2.2.2 d_15_206_34
abbrev Q_M_pitch_0 (D : va_G) (ca : Nat → ClassId) (a0 : Nat) (a5 : Nat) (a8 : Nat) (a9 : Nat) (g0 : Nat → Value) (g5 : Nat → Option Nat) (g8 : Nat → Value) (g9 : Nat → Value) (v0 : Int32) (v1 : Int32) (v2 : Int32) (v3 : Int32) (v4 : Int32) (A : Nat → Prop) : Array Value → State → Outcome → State → Prop := va_Qi (S := Unit) (fun (r : Int32) (u : Unit) => r = (-2147483648)) (fun u => gB D ca A [(a0, .inr (14, rg 107 g0)), (a5, .inl (ca 5, 2, .inr (.inr (.inr (.inr g5))))), (a8, .inr (13, rg 81 g8)), (a9, .inr (13, rg 81 g9))]) A
set_option maxHeartbeats 8000000 in
set_option maxRecDepth 100000 in
theorem c_M_pitch_0 (l : Launch) (D : va_G) (ca : Nat → ClassId) (ad av : Nat → Nat) (sz : Nat) (a0 : Nat) (a5 : Nat) (a8 : Nat) (a9 : Nat) (g0 : Nat → Value) (g5 : Nat → Option Nat) (g8 : Nat → Value) (g9 : Nat → Value) (v0 : Int32) (v1 : Int32) (v2 : Int32) (v3 : Int32) (v4 : Int32) (hp0 : gF g0 [(5, .ref a5)]) (hp5 : gF g5 [(1, some a8), (0, some a9)]) (hp8 : gF g8 [(0, .int 0)]) (hp9 : gF g9 [(0, .int 0)]) : Met l ({ cls := "StaveHouseModel", name := "pitch", desc := "(IIIII)I" } : Jvm.MethodName) (Cond.code ({ cls := "StaveHouseModel", name := "pitch", desc := "(IIIII)I" } : Jvm.MethodName) prog_15_method_207_code 8 (Option.some Jvm.ClassFile.FieldType.int) :: wAll) ({ frames := 1, cells := 0, slots := 0, locals := 21 } : Room) (va_Pc [.ref a0, .int v0, .int v1, .int v2, .int v3, .int v4] (gPre D ca ad av [(a0, .inr (14, rg 107 g0)), (a5, .inl (ca 5, 2, .inr (.inr (.inr (.inr g5))))), (a8, .inr (13, rg 81 g8)), (a9, .inr (13, rg 81 g9))] sz)) (Q_M_pitch_0 D ca a0 a5 a8 a9 g0 g5 g8 g9 v0 v1 v2 v3 v4 (va_A [(a0, .inr (14, rg 107 g0)), (a5, .inl (ca 5, 2, .inr (.inr (.inr (.inr g5))))), (a8, .inr (13, rg 81 g8)), (a9, .inr (13, rg 81 g9))] sz)) 0 0 (va_A [(a0, .inr (14, rg 107 g0)), (a5, .inl (ca 5, 2, .inr (.inr (.inr (.inr g5))))), (a8, .inr (13, rg 81 g8)), (a9, .inr (13, rg 81 g9))] sz) := by
  refine gMet (Qc := Q_M_pitch_0 D ca a0 a5 a8 a9 g0 g5 g8 g9 v0 v1 v2 v3 v4) (lv := [(0, .ref a0), (1, .int v0), (2, .int v1), (3, .int v2), (4, .int v3), (5, .int v4)]) (by decide) (Nat.le_of_ble_eq_true rfl) rfl (fun A p e s m below meth c ls hx hb hr hml hown hts hlk hnm hl hP hK hD hS hA hX => ?_)
  have hown : s.vm.findClass "StaveHouseModel" = some m.cls := hown
  have hnm : meth.name = "pitch" := hnm
  refine lv_aload_n hx hb d_15_207_0 rfl (lv_at hl 0 rfl) ?_
  refine lv_iload_n hx hb d_15_207_1 rfl (lv_at hl 1 rfl) ?_
  have hFc1 := va_free (wc := [(a0, .inr (14, rg 107 g0)), (a5, .inl (ca 5, 2, .inr (.inr (.inr (.inr g5))))), (a8, .inr (13, rg 81 g8)), (a9, .inr (13, rg 81 g9))]) hD hS hA [0, 1, 2, 3] rfl
  refine va_callq (va_runV (As := [.int v0]) (rest := []) ⟨hx, hb, hml, hown, hts⟩ (c_M_piece_0 l D ca ad av s.heap.size a0 a5 a8 a9 g0 g5 g8 g9 v0 (hp0.sub [0] rfl) (hp5.sub [0, 1] rfl) (hp8.sub [0] rfl) (hp9.sub [0] rfl)) (cwV 1 hts (gdV k_12_92 k_12_94 ks_131 k_1_9 k_12_95) rfl rfl rfl (by decide +kernel) ⟨Nat.le_of_ble_eq_true rfl, Nat.le_of_ble_eq_true rfl⟩) (gPV hP hD hK hS hA hX [0, 1, 2, 3] (by decide) rfl a0 [.int v0] 0 (ci := 14) (r := (RX14, TX14, 107)) rfl rfl) rfl rfl hl.1 rfl (lv_room (Nat.le_of_ble_eq_true rfl)) d_15_207_2 ⟨Nat.le_of_ble_eq_true rfl, Nat.le_of_ble_eq_true rfl⟩) hS (fun q _ h => hFc1 q h) hFc1 (fun r1 u1 t1 H1 locs1 ht1 hvm1 hw1 hB1 hz1 hk1 hS1 => ?_)
  have hr1 := hw1
  obtain ⟨hP1, hD1⟩ := gJoin (wr := []) (w1 := [(a0, .inr (14, rg 107 g0)), (a5, .inl (ca 5, 2, .inr (.inr (.inr (.inr g5))))), (a8, .inr (13, rg 81 g8)), (a9, .inr (13, rg 81 g9))]) hP hD [0, 1, 2, 3] [] rfl rfl (by decide) (by decide) hk1 hFc1 ht1 hB1
  have hP1 : va_P D cls [(a0, .inr (14, rg 107 g0)), (a5, .inl (ca 5, 2, .inr (.inr (.inr (.inr g5))))), (a8, .inr (13, rg 81 g8)), (a9, .inr (13, rg 81 g9))] H1 := hP1
  have hD1 : va_D A [(a0, .inr (14, rg 107 g0)), (a5, .inl (ca 5, 2, .inr (.inr (.inr (.inr g5))))), (a8, .inr (13, rg 81 g8)), (a9, .inr (13, rg 81 g9))] := hD1
  refine W.widen (k := 0) (n := 0) (Nat.le_of_ble_eq_true rfl) (Nat.le_of_ble_eq_true rfl) ?_
  subst hr1
  refine W.eq (g2 := F0 m 5 ls [.null]) rfl ?_
  refine lv_astoreN (lv' := [(6, .null), (0, .ref a0), (1, .int v0), (2, .int v1), (3, .int v2), (4, .int v3), (5, .int v4)]) hx hb d_15_207_5 hl (by decide) rfl (fun ls hl => ?_)
  refine lv_aloadN hx hb d_15_207_7 (lv_at hl 0 rfl) ?_
  refine lv_iload_n hx hb d_15_207_9 rfl (lv_at hl 3 rfl) ?_
  have hFc2 := va_free (wc := []) hD1 hS1 hA [] rfl
  refine va_calli (va_runS (As := [.null, .int v1]) (rest := []) ⟨hx, hb, hml, hown, hts⟩ (c_M_isVoice_0 l D ca ad av H1.size v1 ) (va_cwS 2 hts (gdS k_12_118 k_12_119 k_1_9 k_12_120) rfl rfl rfl (by decide +kernel) ⟨Nat.le_of_ble_eq_true rfl, Nat.le_of_ble_eq_true rfl⟩) (gPS hP1 hD1 hK hS1 hA hX [] (by decide) rfl [.null, .int v1]) rfl rfl hl.1 rfl (lv_room (Nat.le_of_ble_eq_true rfl)) d_15_207_10 ⟨Nat.le_of_ble_eq_true rfl, Nat.le_of_ble_eq_true rfl⟩) hS1 (fun q _ h => hFc2 q h) hFc2 (fun r2 u2 t2 H2 locs2 ht2 hvm2 hw2 hB2 hz2 hk2 hS2 => ?_)
  have hr2 := hw2
  obtain ⟨hP2, hD2⟩ := gJoin (wr := [(a0, .inr (14, rg 107 g0)), (a5, .inl (ca 5, 2, .inr (.inr (.inr (.inr g5))))), (a8, .inr (13, rg 81 g8)), (a9, .inr (13, rg 81 g9))]) (w1 := []) hP1 hD1 [] [0, 1, 2, 3] rfl rfl (by decide) (by decide) hk2 hFc2 ht2 hB2
  have hP2 : va_P D cls [(a0, .inr (14, rg 107 g0)), (a5, .inl (ca 5, 2, .inr (.inr (.inr (.inr g5))))), (a8, .inr (13, rg 81 g8)), (a9, .inr (13, rg 81 g9))] H2 := hP2
  have hD2 : va_D A [(a0, .inr (14, rg 107 g0)), (a5, .inl (ca 5, 2, .inr (.inr (.inr (.inr g5))))), (a8, .inr (13, rg 81 g8)), (a9, .inr (13, rg 81 g9))] := hD2
  refine W.widen (k := 0) (n := 0) (Nat.le_of_ble_eq_true rfl) (Nat.le_of_ble_eq_true rfl) ?_
  subst hr2
  refine lv_if_eq (tgt := 54) hx hb d_15_207_13 (by decide) (fun _ => ?_) (fun c => absurd (by decide) c)
  refine lv_ldcw hx hb hown (hts _ k_13_68) d_15_207_54 ?_
  have hP9 := hP2.sub (ws' := [(a0, .inr (14, rg 107 g0)), (a5, .inl (ca 5, 2, .inr (.inr (.inr (.inr g5))))), (a8, .inr (13, rg 81 g8)), (a9, .inr (13, rg 81 g9))]) [0, 1, 2, 3] rfl
  have hD9 := hD2.sub (ws' := [(a0, .inr (14, rg 107 g0)), (a5, .inl (ca 5, 2, .inr (.inr (.inr (.inr g5))))), (a8, .inr (13, rg 81 g8)), (a9, .inr (13, rg 81 g9))]) [0, 1, 2, 3] (by decide) rfl
  refine W.widen (k := 0) (n := 0) (Nat.le_of_ble_eq_true rfl) (Nat.le_of_ble_eq_true rfl) ?_
  exact W.iret (v := (-2147483648)) hx hb hr (fun t ht hW => ⟨⟨(-2147483648), (), rfl, rfl, by rw [ht]; exact hP9, va_K.moved hW.alike hK, hD9⟩, hS2.F ht⟩) hS2.2.2 d_15_207_57
abbrev Q_M_note_0 (D : va_G) (ca : Nat → ClassId) (a0 : Nat) (a5 : Nat) (a8 : Nat) (a9 : Nat) (g0 : Nat → Value) (g5 : Nat → Option Nat) (g8 : Nat → Value) (g9 : Nat → Value) (v0 : Int32) (v1 : Int32) (v2 : Int32) (v3 : Int32) (A : Nat → Prop) : Array Value → State → Outcome → State → Prop := va_Ql (S := Unit) (fun (r : Int64) (u : Unit) => r = (-1)) (fun u => gB D ca A [(a0, .inr (14, rg 107 g0)), (a5, .inl (ca 5, 2, .inr (.inr (.inr (.inr g5))))), (a8, .inr (13, rg 81 g8)), (a9, .inr (13, rg 81 g9))]) A
set_option maxHeartbeats 8000000 in
set_option maxRecDepth 100000 in
theorem c_M_note_0 (l : Launch) (D : va_G) (ca : Nat → ClassId) (ad av : Nat → Nat) (sz : Nat) (a0 : Nat) (a5 : Nat) (a8 : Nat) (a9 : Nat) (g0 : Nat → Value) (g5 : Nat → Option Nat) (g8 : Nat → Value) (g9 : Nat → Value) (v0 : Int32) (v1 : Int32) (v2 : Int32) (v3 : Int32) (hp0 : gF g0 [(5, .ref a5)]) (hp5 : gF g5 [(1, some a8), (0, some a9)]) (hp8 : gF g8 [(0, .int 0)]) (hp9 : gF g9 [(0, .int 0)]) : Met l ({ cls := "StaveHouseModel", name := "note", desc := "(IIII)J" } : Jvm.MethodName) (Cond.code ({ cls := "StaveHouseModel", name := "note", desc := "(IIII)J" } : Jvm.MethodName) prog_15_method_208_code 7 (Option.some Jvm.ClassFile.FieldType.long) :: wAll) ({ frames := 1, cells := 0, slots := 0, locals := 21 } : Room) (va_Pc [.ref a0, .int v0, .int v1, .int v2, .int v3] (gPre D ca ad av [(a0, .inr (14, rg 107 g0)), (a5, .inl (ca 5, 2, .inr (.inr (.inr (.inr g5))))), (a8, .inr (13, rg 81 g8)), (a9, .inr (13, rg 81 g9))] sz)) (Q_M_note_0 D ca a0 a5 a8 a9 g0 g5 g8 g9 v0 v1 v2 v3 (va_A [(a0, .inr (14, rg 107 g0)), (a5, .inl (ca 5, 2, .inr (.inr (.inr (.inr g5))))), (a8, .inr (13, rg 81 g8)), (a9, .inr (13, rg 81 g9))] sz)) 0 0 (va_A [(a0, .inr (14, rg 107 g0)), (a5, .inl (ca 5, 2, .inr (.inr (.inr (.inr g5))))), (a8, .inr (13, rg 81 g8)), (a9, .inr (13, rg 81 g9))] sz) := by
  refine gMet (Qc := Q_M_note_0 D ca a0 a5 a8 a9 g0 g5 g8 g9 v0 v1 v2 v3) (lv := [(0, .ref a0), (1, .int v0), (2, .int v1), (3, .int v2), (4, .int v3)]) (by decide) (Nat.le_of_ble_eq_true rfl) rfl (fun A p e s m below meth c ls hx hb hr hml hown hts hlk hnm hl hP hK hD hS hA hX => ?_)
  have hown : s.vm.findClass "StaveHouseModel" = some m.cls := hown
  have hnm : meth.name = "note" := hnm
  refine lv_aload_n hx hb d_15_208_0 rfl (lv_at hl 0 rfl) ?_
  refine lv_iload_n hx hb d_15_208_1 rfl (lv_at hl 1 rfl) ?_
  have hFc1 := va_free (wc := [(a0, .inr (14, rg 107 g0)), (a5, .inl (ca 5, 2, .inr (.inr (.inr (.inr g5))))), (a8, .inr (13, rg 81 g8)), (a9, .inr (13, rg 81 g9))]) hD hS hA [0, 1, 2, 3] rfl
  refine va_callq (va_runV (As := [.int v0]) (rest := []) ⟨hx, hb, hml, hown, hts⟩ (c_M_piece_0 l D ca ad av s.heap.size a0 a5 a8 a9 g0 g5 g8 g9 v0 (hp0.sub [0] rfl) (hp5.sub [0, 1] rfl) (hp8.sub [0] rfl) (hp9.sub [0] rfl)) (cwV 1 hts (gdV k_12_92 k_12_94 ks_131 k_1_9 k_12_95) rfl rfl rfl (by decide +kernel) ⟨Nat.le_of_ble_eq_true rfl, Nat.le_of_ble_eq_true rfl⟩) (gPV hP hD hK hS hA hX [0, 1, 2, 3] (by decide) rfl a0 [.int v0] 0 (ci := 14) (r := (RX14, TX14, 107)) rfl rfl) rfl rfl hl.1 rfl (lv_room (Nat.le_of_ble_eq_true rfl)) d_15_208_2 ⟨Nat.le_of_ble_eq_true rfl, Nat.le_of_ble_eq_true rfl⟩) hS (fun q _ h => hFc1 q h) hFc1 (fun r1 u1 t1 H1 locs1 ht1 hvm1 hw1 hB1 hz1 hk1 hS1 => ?_)
  have hr1 := hw1
  obtain ⟨hP1, hD1⟩ := gJoin (wr := []) (w1 := [(a0, .inr (14, rg 107 g0)), (a5, .inl (ca 5, 2, .inr (.inr (.inr (.inr g5))))), (a8, .inr (13, rg 81 g8)), (a9, .inr (13, rg 81 g9))]) hP hD [0, 1, 2, 3] [] rfl rfl (by decide) (by decide) hk1 hFc1 ht1 hB1
  have hP1 : va_P D cls [(a0, .inr (14, rg 107 g0)), (a5, .inl (ca 5, 2, .inr (.inr (.inr (.inr g5))))), (a8, .inr (13, rg 81 g8)), (a9, .inr (13, rg 81 g9))] H1 := hP1
  have hD1 : va_D A [(a0, .inr (14, rg 107 g0)), (a5, .inl (ca 5, 2, .inr (.inr (.inr (.inr g5))))), (a8, .inr (13, rg 81 g8)), (a9, .inr (13, rg 81 g9))] := hD1
  refine W.widen (k := 0) (n := 0) (Nat.le_of_ble_eq_true rfl) (Nat.le_of_ble_eq_true rfl) ?_
  subst hr1
  refine W.eq (g2 := F0 m 5 ls [.null]) rfl ?_
  refine lv_astoreN (lv' := [(5, .null), (0, .ref a0), (1, .int v0), (2, .int v1), (3, .int v2), (4, .int v3)]) hx hb d_15_208_5 hl (by decide) rfl (fun ls hl => ?_)
  refine lv_aloadN hx hb d_15_208_7 (lv_at hl 0 rfl) ?_
  refine lv_iload_n hx hb d_15_208_9 rfl (lv_at hl 3 rfl) ?_
  have hFc2 := va_free (wc := []) hD1 hS1 hA [] rfl
  refine va_calli (va_runS (As := [.null, .int v1]) (rest := []) ⟨hx, hb, hml, hown, hts⟩ (c_M_isVoice_0 l D ca ad av H1.size v1 ) (va_cwS 2 hts (gdS k_12_118 k_12_119 k_1_9 k_12_120) rfl rfl rfl (by decide +kernel) ⟨Nat.le_of_ble_eq_true rfl, Nat.le_of_ble_eq_true rfl⟩) (gPS hP1 hD1 hK hS1 hA hX [] (by decide) rfl [.null, .int v1]) rfl rfl hl.1 rfl (lv_room (Nat.le_of_ble_eq_true rfl)) d_15_208_10 ⟨Nat.le_of_ble_eq_true rfl, Nat.le_of_ble_eq_true rfl⟩) hS1 (fun q _ h => hFc2 q h) hFc2 (fun r2 u2 t2 H2 locs2 ht2 hvm2 hw2 hB2 hz2 hk2 hS2 => ?_)
  have hr2 := hw2
  obtain ⟨hP2, hD2⟩ := gJoin (wr := [(a0, .inr (14, rg 107 g0)), (a5, .inl (ca 5, 2, .inr (.inr (.inr (.inr g5))))), (a8, .inr (13, rg 81 g8)), (a9, .inr (13, rg 81 g9))]) (w1 := []) hP1 hD1 [] [0, 1, 2, 3] rfl rfl (by decide) (by decide) hk2 hFc2 ht2 hB2
  have hP2 : va_P D cls [(a0, .inr (14, rg 107 g0)), (a5, .inl (ca 5, 2, .inr (.inr (.inr (.inr g5))))), (a8, .inr (13, rg 81 g8)), (a9, .inr (13, rg 81 g9))] H2 := hP2
  have hD2 : va_D A [(a0, .inr (14, rg 107 g0)), (a5, .inl (ca 5, 2, .inr (.inr (.inr (.inr g5))))), (a8, .inr (13, rg 81 g8)), (a9, .inr (13, rg 81 g9))] := hD2
  refine W.widen (k := 0) (n := 0) (Nat.le_of_ble_eq_true rfl) (Nat.le_of_ble_eq_true rfl) ?_
  subst hr2
  refine lv_if_eq (tgt := 31) hx hb d_15_208_13 (by decide) (fun _ => ?_) (fun c => absurd (by decide) c)
  refine lv_ldc2 hx hb hown (hts _ k_12_105) d_15_208_31 ?_
  have hP9 := hP2.sub (ws' := [(a0, .inr (14, rg 107 g0)), (a5, .inl (ca 5, 2, .inr (.inr (.inr (.inr g5))))), (a8, .inr (13, rg 81 g8)), (a9, .inr (13, rg 81 g9))]) [0, 1, 2, 3] rfl
  have hD9 := hD2.sub (ws' := [(a0, .inr (14, rg 107 g0)), (a5, .inl (ca 5, 2, .inr (.inr (.inr (.inr g5))))), (a8, .inr (13, rg 81 g8)), (a9, .inr (13, rg 81 g9))]) [0, 1, 2, 3] (by decide) rfl
  refine W.widen (k := 0) (n := 0) (Nat.le_of_ble_eq_true rfl) (Nat.le_of_ble_eq_true rfl) ?_
  exact W.lret (v := (-1)) hx hb hr (fun t ht hW => ⟨⟨(-1), (), rfl, rfl, by rw [ht]; exact hP9, va_K.moved hW.alike hK, hD9⟩, hS2.F ht⟩) hS2.2.2 d_15_208_34
abbrev Q_M_lines_0 (D : va_G) (ca : Nat → ClassId) (a0 : Nat) (a5 : Nat) (a8 : Nat) (a9 : Nat) (g0 : Nat → Value) (g5 : Nat → Option Nat) (g8 : Nat → Value) (g9 : Nat → Value) (v0 : Int32) (v1 : Int32) (A : Nat → Prop) : Array Value → State → Outcome → State → Prop := va_Qi (S := Unit) (fun (r : Int32) (u : Unit) => r = (-1)) (fun u => gB D ca A [(a0, .inr (14, rg 107 g0)), (a5, .inl (ca 5, 2, .inr (.inr (.inr (.inr g5))))), (a8, .inr (13, rg 81 g8)), (a9, .inr (13, rg 81 g9))]) A
set_option maxHeartbeats 8000000 in
set_option maxRecDepth 100000 in
theorem c_M_lines_0 (l : Launch) (D : va_G) (ca : Nat → ClassId) (ad av : Nat → Nat) (sz : Nat) (a0 : Nat) (a5 : Nat) (a8 : Nat) (a9 : Nat) (g0 : Nat → Value) (g5 : Nat → Option Nat) (g8 : Nat → Value) (g9 : Nat → Value) (v0 : Int32) (v1 : Int32) (hp0 : gF g0 [(5, .ref a5)]) (hp5 : gF g5 [(1, some a8), (0, some a9)]) (hp8 : gF g8 [(0, .int 0)]) (hp9 : gF g9 [(0, .int 0)]) : Met l ({ cls := "StaveHouseModel", name := "lines", desc := "(II)I" } : Jvm.MethodName) (Cond.code ({ cls := "StaveHouseModel", name := "lines", desc := "(II)I" } : Jvm.MethodName) prog_15_method_108_code 10 (Option.some Jvm.ClassFile.FieldType.int) :: wAll) ({ frames := 1, cells := 0, slots := 0, locals := 21 } : Room) (va_Pc [.ref a0, .int v0, .int v1] (gPre D ca ad av [(a0, .inr (14, rg 107 g0)), (a5, .inl (ca 5, 2, .inr (.inr (.inr (.inr g5))))), (a8, .inr (13, rg 81 g8)), (a9, .inr (13, rg 81 g9))] sz)) (Q_M_lines_0 D ca a0 a5 a8 a9 g0 g5 g8 g9 v0 v1 (va_A [(a0, .inr (14, rg 107 g0)), (a5, .inl (ca 5, 2, .inr (.inr (.inr (.inr g5))))), (a8, .inr (13, rg 81 g8)), (a9, .inr (13, rg 81 g9))] sz)) 0 0 (va_A [(a0, .inr (14, rg 107 g0)), (a5, .inl (ca 5, 2, .inr (.inr (.inr (.inr g5))))), (a8, .inr (13, rg 81 g8)), (a9, .inr (13, rg 81 g9))] sz) := by
  refine gMet (Qc := Q_M_lines_0 D ca a0 a5 a8 a9 g0 g5 g8 g9 v0 v1) (lv := [(0, .ref a0), (1, .int v0), (2, .int v1)]) (by decide) (Nat.le_of_ble_eq_true rfl) rfl (fun A p e s m below meth c ls hx hb hr hml hown hts hlk hnm hl hP hK hD hS hA hX => ?_)
  have hown : s.vm.findClass "StaveHouseModel" = some m.cls := hown
  have hnm : meth.name = "lines" := hnm
  refine lv_aload_n hx hb d_15_108_0 rfl (lv_at hl 0 rfl) ?_
  refine lv_iload_n hx hb d_15_108_1 rfl (lv_at hl 1 rfl) ?_
  have hFc1 := va_free (wc := [(a0, .inr (14, rg 107 g0)), (a5, .inl (ca 5, 2, .inr (.inr (.inr (.inr g5))))), (a8, .inr (13, rg 81 g8)), (a9, .inr (13, rg 81 g9))]) hD hS hA [0, 1, 2, 3] rfl
  refine va_callq (va_runV (As := [.int v0]) (rest := []) ⟨hx, hb, hml, hown, hts⟩ (c_M_piece_0 l D ca ad av s.heap.size a0 a5 a8 a9 g0 g5 g8 g9 v0 (hp0.sub [0] rfl) (hp5.sub [0, 1] rfl) (hp8.sub [0] rfl) (hp9.sub [0] rfl)) (cwV 1 hts (gdV k_12_92 k_12_94 ks_131 k_1_9 k_12_95) rfl rfl rfl (by decide +kernel) ⟨Nat.le_of_ble_eq_true rfl, Nat.le_of_ble_eq_true rfl⟩) (gPV hP hD hK hS hA hX [0, 1, 2, 3] (by decide) rfl a0 [.int v0] 0 (ci := 14) (r := (RX14, TX14, 107)) rfl rfl) rfl rfl hl.1 rfl (lv_room (Nat.le_of_ble_eq_true rfl)) d_15_108_2 ⟨Nat.le_of_ble_eq_true rfl, Nat.le_of_ble_eq_true rfl⟩) hS (fun q _ h => hFc1 q h) hFc1 (fun r1 u1 t1 H1 locs1 ht1 hvm1 hw1 hB1 hz1 hk1 hS1 => ?_)
  have hr1 := hw1
  obtain ⟨hP1, hD1⟩ := gJoin (wr := []) (w1 := [(a0, .inr (14, rg 107 g0)), (a5, .inl (ca 5, 2, .inr (.inr (.inr (.inr g5))))), (a8, .inr (13, rg 81 g8)), (a9, .inr (13, rg 81 g9))]) hP hD [0, 1, 2, 3] [] rfl rfl (by decide) (by decide) hk1 hFc1 ht1 hB1
  have hP1 : va_P D cls [(a0, .inr (14, rg 107 g0)), (a5, .inl (ca 5, 2, .inr (.inr (.inr (.inr g5))))), (a8, .inr (13, rg 81 g8)), (a9, .inr (13, rg 81 g9))] H1 := hP1
  have hD1 : va_D A [(a0, .inr (14, rg 107 g0)), (a5, .inl (ca 5, 2, .inr (.inr (.inr (.inr g5))))), (a8, .inr (13, rg 81 g8)), (a9, .inr (13, rg 81 g9))] := hD1
  refine W.widen (k := 0) (n := 0) (Nat.le_of_ble_eq_true rfl) (Nat.le_of_ble_eq_true rfl) ?_
  subst hr1
  refine W.eq (g2 := F0 m 5 ls [.null]) rfl ?_
  refine lv_astore_nN (lv' := [(3, .null), (0, .ref a0), (1, .int v0), (2, .int v1)]) hx hb d_15_108_5 rfl hl (by decide) rfl (fun ls hl => ?_)
  refine lv_aload_nN hx hb d_15_108_6 rfl (lv_at hl 0 rfl) ?_
  refine lv_ifnullN (tgt := 24) hx hb d_15_108_7 (by decide) ?_
  refine lv_iconst (v := (-1)) hx hb d_15_108_24 (by decide) ?_
  have hP9 := hP1.sub (ws' := [(a0, .inr (14, rg 107 g0)), (a5, .inl (ca 5, 2, .inr (.inr (.inr (.inr g5))))), (a8, .inr (13, rg 81 g8)), (a9, .inr (13, rg 81 g9))]) [0, 1, 2, 3] rfl
  have hD9 := hD1.sub (ws' := [(a0, .inr (14, rg 107 g0)), (a5, .inl (ca 5, 2, .inr (.inr (.inr (.inr g5))))), (a8, .inr (13, rg 81 g8)), (a9, .inr (13, rg 81 g9))]) [0, 1, 2, 3] (by decide) rfl
  refine W.widen (k := 0) (n := 0) (Nat.le_of_ble_eq_true rfl) (Nat.le_of_ble_eq_true rfl) ?_
  exact W.iret (v := (-1)) hx hb hr (fun t ht hW => ⟨⟨(-1), (), rfl, rfl, by rw [ht]; exact hP9, va_K.moved hW.alike hK, hD9⟩, hS1.F ht⟩) hS1.2.2 d_15_108_25
abbrev Q_M_line_0 (D : va_G) (ca : Nat → ClassId) (a0 : Nat) (a5 : Nat) (a8 : Nat) (a9 : Nat) (g0 : Nat → Value) (g5 : Nat → Option Nat) (g8 : Nat → Value) (g9 : Nat → Value) (v0 : Int32) (v1 : Int32) (v2 : Int32) (A : Nat → Prop) : Array Value → State → Outcome → State → Prop := va_Ql (S := Unit) (fun (r : Int64) (u : Unit) => r = (-1)) (fun u => gB D ca A [(a0, .inr (14, rg 107 g0)), (a5, .inl (ca 5, 2, .inr (.inr (.inr (.inr g5))))), (a8, .inr (13, rg 81 g8)), (a9, .inr (13, rg 81 g9))]) A
set_option maxHeartbeats 8000000 in
set_option maxRecDepth 100000 in
theorem c_M_line_0 (l : Launch) (D : va_G) (ca : Nat → ClassId) (ad av : Nat → Nat) (sz : Nat) (a0 : Nat) (a5 : Nat) (a8 : Nat) (a9 : Nat) (g0 : Nat → Value) (g5 : Nat → Option Nat) (g8 : Nat → Value) (g9 : Nat → Value) (v0 : Int32) (v1 : Int32) (v2 : Int32) (hp0 : gF g0 [(5, .ref a5)]) (hp5 : gF g5 [(1, some a8), (0, some a9)]) (hp8 : gF g8 [(0, .int 0)]) (hp9 : gF g9 [(0, .int 0)]) : Met l ({ cls := "StaveHouseModel", name := "line", desc := "(III)J" } : Jvm.MethodName) (Cond.code ({ cls := "StaveHouseModel", name := "line", desc := "(III)J" } : Jvm.MethodName) prog_15_method_110_code 5 (Option.some Jvm.ClassFile.FieldType.long) :: wAll) ({ frames := 1, cells := 0, slots := 0, locals := 21 } : Room) (va_Pc [.ref a0, .int v0, .int v1, .int v2] (gPre D ca ad av [(a0, .inr (14, rg 107 g0)), (a5, .inl (ca 5, 2, .inr (.inr (.inr (.inr g5))))), (a8, .inr (13, rg 81 g8)), (a9, .inr (13, rg 81 g9))] sz)) (Q_M_line_0 D ca a0 a5 a8 a9 g0 g5 g8 g9 v0 v1 v2 (va_A [(a0, .inr (14, rg 107 g0)), (a5, .inl (ca 5, 2, .inr (.inr (.inr (.inr g5))))), (a8, .inr (13, rg 81 g8)), (a9, .inr (13, rg 81 g9))] sz)) 0 0 (va_A [(a0, .inr (14, rg 107 g0)), (a5, .inl (ca 5, 2, .inr (.inr (.inr (.inr g5))))), (a8, .inr (13, rg 81 g8)), (a9, .inr (13, rg 81 g9))] sz) := by
  refine gMet (Qc := Q_M_line_0 D ca a0 a5 a8 a9 g0 g5 g8 g9 v0 v1 v2) (lv := [(0, .ref a0), (1, .int v0), (2, .int v1), (3, .int v2)]) (by decide) (Nat.le_of_ble_eq_true rfl) rfl (fun A p e s m below meth c ls hx hb hr hml hown hts hlk hnm hl hP hK hD hS hA hX => ?_)
  have hown : s.vm.findClass "StaveHouseModel" = some m.cls := hown
  have hnm : meth.name = "line" := hnm
  refine lv_aload_n hx hb d_15_110_0 rfl (lv_at hl 0 rfl) ?_
  refine lv_iload_n hx hb d_15_110_1 rfl (lv_at hl 1 rfl) ?_
  have hFc1 := va_free (wc := [(a0, .inr (14, rg 107 g0)), (a5, .inl (ca 5, 2, .inr (.inr (.inr (.inr g5))))), (a8, .inr (13, rg 81 g8)), (a9, .inr (13, rg 81 g9))]) hD hS hA [0, 1, 2, 3] rfl
  refine va_callq (va_runV (As := [.int v0]) (rest := []) ⟨hx, hb, hml, hown, hts⟩ (c_M_piece_0 l D ca ad av s.heap.size a0 a5 a8 a9 g0 g5 g8 g9 v0 (hp0.sub [0] rfl) (hp5.sub [0, 1] rfl) (hp8.sub [0] rfl) (hp9.sub [0] rfl)) (cwV 1 hts (gdV k_12_92 k_12_94 ks_131 k_1_9 k_12_95) rfl rfl rfl (by decide +kernel) ⟨Nat.le_of_ble_eq_true rfl, Nat.le_of_ble_eq_true rfl⟩) (gPV hP hD hK hS hA hX [0, 1, 2, 3] (by decide) rfl a0 [.int v0] 0 (ci := 14) (r := (RX14, TX14, 107)) rfl rfl) rfl rfl hl.1 rfl (lv_room (Nat.le_of_ble_eq_true rfl)) d_15_110_2 ⟨Nat.le_of_ble_eq_true rfl, Nat.le_of_ble_eq_true rfl⟩) hS (fun q _ h => hFc1 q h) hFc1 (fun r1 u1 t1 H1 locs1 ht1 hvm1 hw1 hB1 hz1 hk1 hS1 => ?_)
  have hr1 := hw1
  obtain ⟨hP1, hD1⟩ := gJoin (wr := []) (w1 := [(a0, .inr (14, rg 107 g0)), (a5, .inl (ca 5, 2, .inr (.inr (.inr (.inr g5))))), (a8, .inr (13, rg 81 g8)), (a9, .inr (13, rg 81 g9))]) hP hD [0, 1, 2, 3] [] rfl rfl (by decide) (by decide) hk1 hFc1 ht1 hB1
  have hP1 : va_P D cls [(a0, .inr (14, rg 107 g0)), (a5, .inl (ca 5, 2, .inr (.inr (.inr (.inr g5))))), (a8, .inr (13, rg 81 g8)), (a9, .inr (13, rg 81 g9))] H1 := hP1
  have hD1 : va_D A [(a0, .inr (14, rg 107 g0)), (a5, .inl (ca 5, 2, .inr (.inr (.inr (.inr g5))))), (a8, .inr (13, rg 81 g8)), (a9, .inr (13, rg 81 g9))] := hD1
  refine W.widen (k := 0) (n := 0) (Nat.le_of_ble_eq_true rfl) (Nat.le_of_ble_eq_true rfl) ?_
  subst hr1
  refine W.eq (g2 := F0 m 5 ls [.null]) rfl ?_
  refine lv_astoreN (lv' := [(4, .null), (0, .ref a0), (1, .int v0), (2, .int v1), (3, .int v2)]) hx hb d_15_110_5 hl (by decide) rfl (fun ls hl => ?_)
  refine lv_aloadN hx hb d_15_110_7 (lv_at hl 0 rfl) ?_
  refine lv_ifnullN (tgt := 25) hx hb d_15_110_9 (by decide) ?_
  refine lv_ldc2 hx hb hown (hts _ k_12_105) d_15_110_25 ?_
  have hP9 := hP1.sub (ws' := [(a0, .inr (14, rg 107 g0)), (a5, .inl (ca 5, 2, .inr (.inr (.inr (.inr g5))))), (a8, .inr (13, rg 81 g8)), (a9, .inr (13, rg 81 g9))]) [0, 1, 2, 3] rfl
  have hD9 := hD1.sub (ws' := [(a0, .inr (14, rg 107 g0)), (a5, .inl (ca 5, 2, .inr (.inr (.inr (.inr g5))))), (a8, .inr (13, rg 81 g8)), (a9, .inr (13, rg 81 g9))]) [0, 1, 2, 3] (by decide) rfl
  refine W.widen (k := 0) (n := 0) (Nat.le_of_ble_eq_true rfl) (Nat.le_of_ble_eq_true rfl) ?_
  exact W.lret (v := (-1)) hx hb hr (fun t ht hW => ⟨⟨(-1), (), rfl, rfl, by rw [ht]; exact hP9, va_K.moved hW.alike hK, hD9⟩, hS1.F ht⟩) hS1.2.2 d_15_110_28
abbrev Q_M_x_0 (D : va_G) (ca : Nat → ClassId) (a0 : Nat) (a5 : Nat) (a8 : Nat) (a9 : Nat) (g0 : Nat → Value) (g5 : Nat → Option Nat) (g8 : Nat → Value) (g9 : Nat → Value) (v0 : Int32) (v1 : Int32) (v2 : Int32) (A : Nat → Prop) : Array Value → State → Outcome → State → Prop := va_Qi (S := Unit) (fun (r : Int32) (u : Unit) => r = (-1)) (fun u => gB D ca A [(a0, .inr (14, rg 107 g0)), (a5, .inl (ca 5, 2, .inr (.inr (.inr (.inr g5))))), (a8, .inr (13, rg 81 g8)), (a9, .inr (13, rg 81 g9))]) A
set_option maxHeartbeats 8000000 in
set_option maxRecDepth 100000 in
theorem c_M_x_0 (l : Launch) (D : va_G) (ca : Nat → ClassId) (ad av : Nat → Nat) (sz : Nat) (a0 : Nat) (a5 : Nat) (a8 : Nat) (a9 : Nat) (g0 : Nat → Value) (g5 : Nat → Option Nat) (g8 : Nat → Value) (g9 : Nat → Value) (v0 : Int32) (v1 : Int32) (v2 : Int32) (hp0 : gF g0 [(5, .ref a5)]) (hp5 : gF g5 [(1, some a8), (0, some a9)]) (hp8 : gF g8 [(0, .int 0)]) (hp9 : gF g9 [(0, .int 0)]) : Met l ({ cls := "StaveHouseModel", name := "x", desc := "(III)I" } : Jvm.MethodName) (Cond.code ({ cls := "StaveHouseModel", name := "x", desc := "(III)I" } : Jvm.MethodName) prog_15_method_111_code 12 (Option.some Jvm.ClassFile.FieldType.int) :: wAll) ({ frames := 1, cells := 0, slots := 0, locals := 21 } : Room) (va_Pc [.ref a0, .int v0, .int v1, .int v2] (gPre D ca ad av [(a0, .inr (14, rg 107 g0)), (a5, .inl (ca 5, 2, .inr (.inr (.inr (.inr g5))))), (a8, .inr (13, rg 81 g8)), (a9, .inr (13, rg 81 g9))] sz)) (Q_M_x_0 D ca a0 a5 a8 a9 g0 g5 g8 g9 v0 v1 v2 (va_A [(a0, .inr (14, rg 107 g0)), (a5, .inl (ca 5, 2, .inr (.inr (.inr (.inr g5))))), (a8, .inr (13, rg 81 g8)), (a9, .inr (13, rg 81 g9))] sz)) 0 0 (va_A [(a0, .inr (14, rg 107 g0)), (a5, .inl (ca 5, 2, .inr (.inr (.inr (.inr g5))))), (a8, .inr (13, rg 81 g8)), (a9, .inr (13, rg 81 g9))] sz) := by
  refine gMet (Qc := Q_M_x_0 D ca a0 a5 a8 a9 g0 g5 g8 g9 v0 v1 v2) (lv := [(0, .ref a0), (1, .int v0), (2, .int v1), (3, .int v2)]) (by decide) (Nat.le_of_ble_eq_true rfl) rfl (fun A p e s m below meth c ls hx hb hr hml hown hts hlk hnm hl hP hK hD hS hA hX => ?_)
  have hown : s.vm.findClass "StaveHouseModel" = some m.cls := hown
  have hnm : meth.name = "x" := hnm
  refine lv_aload_n hx hb d_15_111_0 rfl (lv_at hl 0 rfl) ?_
  refine lv_iload_n hx hb d_15_111_1 rfl (lv_at hl 1 rfl) ?_
  have hFc1 := va_free (wc := [(a0, .inr (14, rg 107 g0)), (a5, .inl (ca 5, 2, .inr (.inr (.inr (.inr g5))))), (a8, .inr (13, rg 81 g8)), (a9, .inr (13, rg 81 g9))]) hD hS hA [0, 1, 2, 3] rfl
  refine va_callq (va_runV (As := [.int v0]) (rest := []) ⟨hx, hb, hml, hown, hts⟩ (c_M_piece_0 l D ca ad av s.heap.size a0 a5 a8 a9 g0 g5 g8 g9 v0 (hp0.sub [0] rfl) (hp5.sub [0, 1] rfl) (hp8.sub [0] rfl) (hp9.sub [0] rfl)) (cwV 1 hts (gdV k_12_92 k_12_94 ks_131 k_1_9 k_12_95) rfl rfl rfl (by decide +kernel) ⟨Nat.le_of_ble_eq_true rfl, Nat.le_of_ble_eq_true rfl⟩) (gPV hP hD hK hS hA hX [0, 1, 2, 3] (by decide) rfl a0 [.int v0] 0 (ci := 14) (r := (RX14, TX14, 107)) rfl rfl) rfl rfl hl.1 rfl (lv_room (Nat.le_of_ble_eq_true rfl)) d_15_111_2 ⟨Nat.le_of_ble_eq_true rfl, Nat.le_of_ble_eq_true rfl⟩) hS (fun q _ h => hFc1 q h) hFc1 (fun r1 u1 t1 H1 locs1 ht1 hvm1 hw1 hB1 hz1 hk1 hS1 => ?_)
  have hr1 := hw1
  obtain ⟨hP1, hD1⟩ := gJoin (wr := []) (w1 := [(a0, .inr (14, rg 107 g0)), (a5, .inl (ca 5, 2, .inr (.inr (.inr (.inr g5))))), (a8, .inr (13, rg 81 g8)), (a9, .inr (13, rg 81 g9))]) hP hD [0, 1, 2, 3] [] rfl rfl (by decide) (by decide) hk1 hFc1 ht1 hB1
  have hP1 : va_P D cls [(a0, .inr (14, rg 107 g0)), (a5, .inl (ca 5, 2, .inr (.inr (.inr (.inr g5))))), (a8, .inr (13, rg 81 g8)), (a9, .inr (13, rg 81 g9))] H1 := hP1
  have hD1 : va_D A [(a0, .inr (14, rg 107 g0)), (a5, .inl (ca 5, 2, .inr (.inr (.inr (.inr g5))))), (a8, .inr (13, rg 81 g8)), (a9, .inr (13, rg 81 g9))] := hD1
  refine W.widen (k := 0) (n := 0) (Nat.le_of_ble_eq_true rfl) (Nat.le_of_ble_eq_true rfl) ?_
  subst hr1
  refine W.eq (g2 := F0 m 5 ls [.null]) rfl ?_
  refine lv_astoreN (lv' := [(4, .null), (0, .ref a0), (1, .int v0), (2, .int v1), (3, .int v2)]) hx hb d_15_111_5 hl (by decide) rfl (fun ls hl => ?_)
  refine lv_aloadN hx hb d_15_111_7 (lv_at hl 0 rfl) ?_
  refine lv_iload_n hx hb d_15_111_9 rfl (lv_at hl 3 rfl) ?_
  have hFc2 := va_free (wc := []) hD1 hS1 hA [] rfl
  refine va_calli (va_runS (As := [.null, .int v1]) (rest := []) ⟨hx, hb, hml, hown, hts⟩ (c_M_isVoice_0 l D ca ad av H1.size v1 ) (va_cwS 2 hts (gdS k_12_118 k_12_119 k_1_9 k_12_120) rfl rfl rfl (by decide +kernel) ⟨Nat.le_of_ble_eq_true rfl, Nat.le_of_ble_eq_true rfl⟩) (gPS hP1 hD1 hK hS1 hA hX [] (by decide) rfl [.null, .int v1]) rfl rfl hl.1 rfl (lv_room (Nat.le_of_ble_eq_true rfl)) d_15_111_10 ⟨Nat.le_of_ble_eq_true rfl, Nat.le_of_ble_eq_true rfl⟩) hS1 (fun q _ h => hFc2 q h) hFc2 (fun r2 u2 t2 H2 locs2 ht2 hvm2 hw2 hB2 hz2 hk2 hS2 => ?_)
  have hr2 := hw2
  obtain ⟨hP2, hD2⟩ := gJoin (wr := [(a0, .inr (14, rg 107 g0)), (a5, .inl (ca 5, 2, .inr (.inr (.inr (.inr g5))))), (a8, .inr (13, rg 81 g8)), (a9, .inr (13, rg 81 g9))]) (w1 := []) hP1 hD1 [] [0, 1, 2, 3] rfl rfl (by decide) (by decide) hk2 hFc2 ht2 hB2
  have hP2 : va_P D cls [(a0, .inr (14, rg 107 g0)), (a5, .inl (ca 5, 2, .inr (.inr (.inr (.inr g5))))), (a8, .inr (13, rg 81 g8)), (a9, .inr (13, rg 81 g9))] H2 := hP2
  have hD2 : va_D A [(a0, .inr (14, rg 107 g0)), (a5, .inl (ca 5, 2, .inr (.inr (.inr (.inr g5))))), (a8, .inr (13, rg 81 g8)), (a9, .inr (13, rg 81 g9))] := hD2
  refine W.widen (k := 0) (n := 0) (Nat.le_of_ble_eq_true rfl) (Nat.le_of_ble_eq_true rfl) ?_
  subst hr2
  refine lv_if_eq (tgt := 39) hx hb d_15_111_13 (by decide) (fun _ => ?_) (fun c => absurd (by decide) c)
  refine lv_iconst (v := (-1)) hx hb d_15_111_39 (by decide) ?_
  have hP9 := hP2.sub (ws' := [(a0, .inr (14, rg 107 g0)), (a5, .inl (ca 5, 2, .inr (.inr (.inr (.inr g5))))), (a8, .inr (13, rg 81 g8)), (a9, .inr (13, rg 81 g9))]) [0, 1, 2, 3] rfl
  have hD9 := hD2.sub (ws' := [(a0, .inr (14, rg 107 g0)), (a5, .inl (ca 5, 2, .inr (.inr (.inr (.inr g5))))), (a8, .inr (13, rg 81 g8)), (a9, .inr (13, rg 81 g9))]) [0, 1, 2, 3] (by decide) rfl
  refine W.widen (k := 0) (n := 0) (Nat.le_of_ble_eq_true rfl) (Nat.le_of_ble_eq_true rfl) ?_
  exact W.iret (v := (-1)) hx hb hr (fun t ht hW => ⟨⟨(-1), (), rfl, rfl, by rw [ht]; exact hP9, va_K.moved hW.alike hK, hD9⟩, hS2.F ht⟩) hS2.2.2 d_15_111_40
abbrev Q_M_perform_0 (D : va_G) (ca : Nat → ClassId) (a0 : Nat) (a5 : Nat) (a8 : Nat) (a9 : Nat) (g0 : Nat → Value) (g5 : Nat → Option Nat) (g8 : Nat → Value) (g9 : Nat → Value) (v0 : Int32) (A : Nat → Prop) : Array Value → State → Outcome → State → Prop := va_Qi (S := Unit) (fun (r : Int32) (u : Unit) => r = (-1)) (fun u => gB D ca A [(a0, .inr (14, rg 107 g0)), (a5, .inl (ca 5, 2, .inr (.inr (.inr (.inr g5))))), (a8, .inr (13, rg 81 g8)), (a9, .inr (13, rg 81 g9))]) A
set_option maxHeartbeats 8000000 in
set_option maxRecDepth 100000 in
theorem c_M_perform_0 (l : Launch) (D : va_G) (ca : Nat → ClassId) (ad av : Nat → Nat) (sz : Nat) (a0 : Nat) (a5 : Nat) (a8 : Nat) (a9 : Nat) (g0 : Nat → Value) (g5 : Nat → Option Nat) (g8 : Nat → Value) (g9 : Nat → Value) (v0 : Int32) (hp0 : gF g0 [(5, .ref a5)]) (hp5 : gF g5 [(1, some a8), (0, some a9)]) (hp8 : gF g8 [(0, .int 0)]) (hp9 : gF g9 [(0, .int 0)]) : Met l ({ cls := "StaveHouseModel", name := "perform", desc := "(I)I" } : Jvm.MethodName) (Cond.code ({ cls := "StaveHouseModel", name := "perform", desc := "(I)I" } : Jvm.MethodName) prog_15_method_121_code 6 (Option.some Jvm.ClassFile.FieldType.int) :: wAll) ({ frames := 1, cells := 0, slots := 0, locals := 21 } : Room) (va_Pc [.ref a0, .int v0] (gPre D ca ad av [(a0, .inr (14, rg 107 g0)), (a5, .inl (ca 5, 2, .inr (.inr (.inr (.inr g5))))), (a8, .inr (13, rg 81 g8)), (a9, .inr (13, rg 81 g9))] sz)) (Q_M_perform_0 D ca a0 a5 a8 a9 g0 g5 g8 g9 v0 (va_A [(a0, .inr (14, rg 107 g0)), (a5, .inl (ca 5, 2, .inr (.inr (.inr (.inr g5))))), (a8, .inr (13, rg 81 g8)), (a9, .inr (13, rg 81 g9))] sz)) 0 0 (va_A [(a0, .inr (14, rg 107 g0)), (a5, .inl (ca 5, 2, .inr (.inr (.inr (.inr g5))))), (a8, .inr (13, rg 81 g8)), (a9, .inr (13, rg 81 g9))] sz) := by
  refine gMet (Qc := Q_M_perform_0 D ca a0 a5 a8 a9 g0 g5 g8 g9 v0) (lv := [(0, .ref a0), (1, .int v0)]) (by decide) (Nat.le_of_ble_eq_true rfl) rfl (fun A p e s m below meth c ls hx hb hr hml hown hts hlk hnm hl hP hK hD hS hA hX => ?_)
  have hown : s.vm.findClass "StaveHouseModel" = some m.cls := hown
  have hnm : meth.name = "perform" := hnm
  refine lv_aload_n hx hb d_15_121_0 rfl (lv_at hl 0 rfl) ?_
  refine lv_iload_n hx hb d_15_121_1 rfl (lv_at hl 1 rfl) ?_
  have hFc1 := va_free (wc := [(a0, .inr (14, rg 107 g0)), (a5, .inl (ca 5, 2, .inr (.inr (.inr (.inr g5))))), (a8, .inr (13, rg 81 g8)), (a9, .inr (13, rg 81 g9))]) hD hS hA [0, 1, 2, 3] rfl
  refine va_callq (va_runV (As := [.int v0]) (rest := []) ⟨hx, hb, hml, hown, hts⟩ (c_M_piece_0 l D ca ad av s.heap.size a0 a5 a8 a9 g0 g5 g8 g9 v0 (hp0.sub [0] rfl) (hp5.sub [0, 1] rfl) (hp8.sub [0] rfl) (hp9.sub [0] rfl)) (cwV 1 hts (gdV k_12_92 k_12_94 ks_131 k_1_9 k_12_95) rfl rfl rfl (by decide +kernel) ⟨Nat.le_of_ble_eq_true rfl, Nat.le_of_ble_eq_true rfl⟩) (gPV hP hD hK hS hA hX [0, 1, 2, 3] (by decide) rfl a0 [.int v0] 0 (ci := 14) (r := (RX14, TX14, 107)) rfl rfl) rfl rfl hl.1 rfl (lv_room (Nat.le_of_ble_eq_true rfl)) d_15_121_2 ⟨Nat.le_of_ble_eq_true rfl, Nat.le_of_ble_eq_true rfl⟩) hS (fun q _ h => hFc1 q h) hFc1 (fun r1 u1 t1 H1 locs1 ht1 hvm1 hw1 hB1 hz1 hk1 hS1 => ?_)
  have hr1 := hw1
  obtain ⟨hP1, hD1⟩ := gJoin (wr := []) (w1 := [(a0, .inr (14, rg 107 g0)), (a5, .inl (ca 5, 2, .inr (.inr (.inr (.inr g5))))), (a8, .inr (13, rg 81 g8)), (a9, .inr (13, rg 81 g9))]) hP hD [0, 1, 2, 3] [] rfl rfl (by decide) (by decide) hk1 hFc1 ht1 hB1
  have hP1 : va_P D cls [(a0, .inr (14, rg 107 g0)), (a5, .inl (ca 5, 2, .inr (.inr (.inr (.inr g5))))), (a8, .inr (13, rg 81 g8)), (a9, .inr (13, rg 81 g9))] H1 := hP1
  have hD1 : va_D A [(a0, .inr (14, rg 107 g0)), (a5, .inl (ca 5, 2, .inr (.inr (.inr (.inr g5))))), (a8, .inr (13, rg 81 g8)), (a9, .inr (13, rg 81 g9))] := hD1
  refine W.widen (k := 0) (n := 0) (Nat.le_of_ble_eq_true rfl) (Nat.le_of_ble_eq_true rfl) ?_
  subst hr1
  refine W.eq (g2 := F0 m 5 ls [.null]) rfl ?_
  refine lv_astore_nN (lv' := [(2, .null), (0, .ref a0), (1, .int v0)]) hx hb d_15_121_5 rfl hl (by decide) rfl (fun ls hl => ?_)
  refine lv_aload_nN hx hb d_15_121_6 rfl (lv_at hl 0 rfl) ?_
  refine lv_ifnonnullN hx hb d_15_121_7 ?_
  refine lv_iconst (v := (-1)) hx hb d_15_121_10 (by decide) ?_
  have hP9 := hP1.sub (ws' := [(a0, .inr (14, rg 107 g0)), (a5, .inl (ca 5, 2, .inr (.inr (.inr (.inr g5))))), (a8, .inr (13, rg 81 g8)), (a9, .inr (13, rg 81 g9))]) [0, 1, 2, 3] rfl
  have hD9 := hD1.sub (ws' := [(a0, .inr (14, rg 107 g0)), (a5, .inl (ca 5, 2, .inr (.inr (.inr (.inr g5))))), (a8, .inr (13, rg 81 g8)), (a9, .inr (13, rg 81 g9))]) [0, 1, 2, 3] (by decide) rfl
  refine W.widen (k := 0) (n := 0) (Nat.le_of_ble_eq_true rfl) (Nat.le_of_ble_eq_true rfl) ?_
  exact W.iret (v := (-1)) hx hb hr (fun t ht hW => ⟨⟨(-1), (), rfl, rfl, by rw [ht]; exact hP9, va_K.moved hW.alike hK, hD9⟩, hS1.F ht⟩) hS1.2.2 d_15_121_11
abbrev Q_M_stroke_0 (D : va_G) (ca : Nat → ClassId) (a0 : Nat) (a5 : Nat) (a8 : Nat) (a9 : Nat) (g0 : Nat → Value) (g5 : Nat → Option Nat) (g8 : Nat → Value) (g9 : Nat → Value) (v0 : Int32) (v1 : Int32) (v2 : Int32) (A : Nat → Prop) : Array Value → State → Outcome → State → Prop := va_Qi (S := Unit) (fun (r : Int32) (u : Unit) => r = (-1)) (fun u => gB D ca A [(a0, .inr (14, rg 107 g0)), (a5, .inl (ca 5, 2, .inr (.inr (.inr (.inr g5))))), (a8, .inr (13, rg 81 g8)), (a9, .inr (13, rg 81 g9))]) A
set_option maxHeartbeats 8000000 in
set_option maxRecDepth 100000 in
theorem c_M_stroke_0 (l : Launch) (D : va_G) (ca : Nat → ClassId) (ad av : Nat → Nat) (sz : Nat) (a0 : Nat) (a5 : Nat) (a8 : Nat) (a9 : Nat) (g0 : Nat → Value) (g5 : Nat → Option Nat) (g8 : Nat → Value) (g9 : Nat → Value) (v0 : Int32) (v1 : Int32) (v2 : Int32) (hp0 : gF g0 [(5, .ref a5)]) (hp5 : gF g5 [(1, some a8), (0, some a9)]) (hp8 : gF g8 [(0, .int 0)]) (hp9 : gF g9 [(0, .int 0)]) : Met l ({ cls := "StaveHouseModel", name := "stroke", desc := "(III)I" } : Jvm.MethodName) (Cond.code ({ cls := "StaveHouseModel", name := "stroke", desc := "(III)I" } : Jvm.MethodName) prog_15_method_122_code 5 (Option.some Jvm.ClassFile.FieldType.int) :: wAll) ({ frames := 1, cells := 0, slots := 0, locals := 21 } : Room) (va_Pc [.ref a0, .int v0, .int v1, .int v2] (gPre D ca ad av [(a0, .inr (14, rg 107 g0)), (a5, .inl (ca 5, 2, .inr (.inr (.inr (.inr g5))))), (a8, .inr (13, rg 81 g8)), (a9, .inr (13, rg 81 g9))] sz)) (Q_M_stroke_0 D ca a0 a5 a8 a9 g0 g5 g8 g9 v0 v1 v2 (va_A [(a0, .inr (14, rg 107 g0)), (a5, .inl (ca 5, 2, .inr (.inr (.inr (.inr g5))))), (a8, .inr (13, rg 81 g8)), (a9, .inr (13, rg 81 g9))] sz)) 0 0 (va_A [(a0, .inr (14, rg 107 g0)), (a5, .inl (ca 5, 2, .inr (.inr (.inr (.inr g5))))), (a8, .inr (13, rg 81 g8)), (a9, .inr (13, rg 81 g9))] sz) := by
  refine gMet (Qc := Q_M_stroke_0 D ca a0 a5 a8 a9 g0 g5 g8 g9 v0 v1 v2) (lv := [(0, .ref a0), (1, .int v0), (2, .int v1), (3, .int v2)]) (by decide) (Nat.le_of_ble_eq_true rfl) rfl (fun A p e s m below meth c ls hx hb hr hml hown hts hlk hnm hl hP hK hD hS hA hX => ?_)
  have hown : s.vm.findClass "StaveHouseModel" = some m.cls := hown
  have hnm : meth.name = "stroke" := hnm
  refine lv_aload_n hx hb d_15_122_0 rfl (lv_at hl 0 rfl) ?_
  refine lv_iload_n hx hb d_15_122_1 rfl (lv_at hl 1 rfl) ?_
  have hFc1 := va_free (wc := [(a0, .inr (14, rg 107 g0)), (a5, .inl (ca 5, 2, .inr (.inr (.inr (.inr g5))))), (a8, .inr (13, rg 81 g8)), (a9, .inr (13, rg 81 g9))]) hD hS hA [0, 1, 2, 3] rfl
  refine va_callq (va_runV (As := [.int v0]) (rest := []) ⟨hx, hb, hml, hown, hts⟩ (c_M_piece_0 l D ca ad av s.heap.size a0 a5 a8 a9 g0 g5 g8 g9 v0 (hp0.sub [0] rfl) (hp5.sub [0, 1] rfl) (hp8.sub [0] rfl) (hp9.sub [0] rfl)) (cwV 1 hts (gdV k_12_92 k_12_94 ks_131 k_1_9 k_12_95) rfl rfl rfl (by decide +kernel) ⟨Nat.le_of_ble_eq_true rfl, Nat.le_of_ble_eq_true rfl⟩) (gPV hP hD hK hS hA hX [0, 1, 2, 3] (by decide) rfl a0 [.int v0] 0 (ci := 14) (r := (RX14, TX14, 107)) rfl rfl) rfl rfl hl.1 rfl (lv_room (Nat.le_of_ble_eq_true rfl)) d_15_122_2 ⟨Nat.le_of_ble_eq_true rfl, Nat.le_of_ble_eq_true rfl⟩) hS (fun q _ h => hFc1 q h) hFc1 (fun r1 u1 t1 H1 locs1 ht1 hvm1 hw1 hB1 hz1 hk1 hS1 => ?_)
  have hr1 := hw1
  obtain ⟨hP1, hD1⟩ := gJoin (wr := []) (w1 := [(a0, .inr (14, rg 107 g0)), (a5, .inl (ca 5, 2, .inr (.inr (.inr (.inr g5))))), (a8, .inr (13, rg 81 g8)), (a9, .inr (13, rg 81 g9))]) hP hD [0, 1, 2, 3] [] rfl rfl (by decide) (by decide) hk1 hFc1 ht1 hB1
  have hP1 : va_P D cls [(a0, .inr (14, rg 107 g0)), (a5, .inl (ca 5, 2, .inr (.inr (.inr (.inr g5))))), (a8, .inr (13, rg 81 g8)), (a9, .inr (13, rg 81 g9))] H1 := hP1
  have hD1 : va_D A [(a0, .inr (14, rg 107 g0)), (a5, .inl (ca 5, 2, .inr (.inr (.inr (.inr g5))))), (a8, .inr (13, rg 81 g8)), (a9, .inr (13, rg 81 g9))] := hD1
  refine W.widen (k := 0) (n := 0) (Nat.le_of_ble_eq_true rfl) (Nat.le_of_ble_eq_true rfl) ?_
  subst hr1
  refine W.eq (g2 := F0 m 5 ls [.null]) rfl ?_
  refine lv_astoreN (lv' := [(4, .null), (0, .ref a0), (1, .int v0), (2, .int v1), (3, .int v2)]) hx hb d_15_122_5 hl (by decide) rfl (fun ls hl => ?_)
  refine lv_aloadN hx hb d_15_122_7 (lv_at hl 0 rfl) ?_
  refine lv_ifnullN (tgt := 33) hx hb d_15_122_9 (by decide) ?_
  refine lv_iconst (v := (-1)) hx hb d_15_122_33 (by decide) ?_
  have hP9 := hP1.sub (ws' := [(a0, .inr (14, rg 107 g0)), (a5, .inl (ca 5, 2, .inr (.inr (.inr (.inr g5))))), (a8, .inr (13, rg 81 g8)), (a9, .inr (13, rg 81 g9))]) [0, 1, 2, 3] rfl
  have hD9 := hD1.sub (ws' := [(a0, .inr (14, rg 107 g0)), (a5, .inl (ca 5, 2, .inr (.inr (.inr (.inr g5))))), (a8, .inr (13, rg 81 g8)), (a9, .inr (13, rg 81 g9))]) [0, 1, 2, 3] (by decide) rfl
  refine W.widen (k := 0) (n := 0) (Nat.le_of_ble_eq_true rfl) (Nat.le_of_ble_eq_true rfl) ?_
  exact W.iret (v := (-1)) hx hb hr (fun t ht hW => ⟨⟨(-1), (), rfl, rfl, by rw [ht]; exact hP9, va_K.moved hW.alike hK, hD9⟩, hS1.F ht⟩) hS1.2.2 d_15_122_34
abbrev Q_M_file_0 (D : va_G) (ca : Nat → ClassId) (a0 : Nat) (a5 : Nat) (a8 : Nat) (a9 : Nat) (g0 : Nat → Value) (g5 : Nat → Option Nat) (g8 : Nat → Value) (g9 : Nat → Value) (v0 : Int32) (A : Nat → Prop) : Array Value → State → Outcome → State → Prop := va_Qi (S := Unit) (fun (r : Int32) (u : Unit) => r = (-1)) (fun u => gB D ca A [(a0, .inr (14, rg 107 g0)), (a5, .inl (ca 5, 2, .inr (.inr (.inr (.inr g5))))), (a8, .inr (13, rg 81 g8)), (a9, .inr (13, rg 81 g9))]) A
set_option maxHeartbeats 8000000 in
set_option maxRecDepth 100000 in
theorem c_M_file_0 (l : Launch) (D : va_G) (ca : Nat → ClassId) (ad av : Nat → Nat) (sz : Nat) (a0 : Nat) (a5 : Nat) (a8 : Nat) (a9 : Nat) (g0 : Nat → Value) (g5 : Nat → Option Nat) (g8 : Nat → Value) (g9 : Nat → Value) (v0 : Int32) (hp0 : gF g0 [(5, .ref a5)]) (hp5 : gF g5 [(1, some a8), (0, some a9)]) (hp8 : gF g8 [(0, .int 0)]) (hp9 : gF g9 [(0, .int 0)]) : Met l ({ cls := "StaveHouseModel", name := "file", desc := "(I)I" } : Jvm.MethodName) (Cond.code ({ cls := "StaveHouseModel", name := "file", desc := "(I)I" } : Jvm.MethodName) prog_15_method_129_code 6 (Option.some Jvm.ClassFile.FieldType.int) :: wAll) ({ frames := 1, cells := 0, slots := 0, locals := 21 } : Room) (va_Pc [.ref a0, .int v0] (gPre D ca ad av [(a0, .inr (14, rg 107 g0)), (a5, .inl (ca 5, 2, .inr (.inr (.inr (.inr g5))))), (a8, .inr (13, rg 81 g8)), (a9, .inr (13, rg 81 g9))] sz)) (Q_M_file_0 D ca a0 a5 a8 a9 g0 g5 g8 g9 v0 (va_A [(a0, .inr (14, rg 107 g0)), (a5, .inl (ca 5, 2, .inr (.inr (.inr (.inr g5))))), (a8, .inr (13, rg 81 g8)), (a9, .inr (13, rg 81 g9))] sz)) 0 0 (va_A [(a0, .inr (14, rg 107 g0)), (a5, .inl (ca 5, 2, .inr (.inr (.inr (.inr g5))))), (a8, .inr (13, rg 81 g8)), (a9, .inr (13, rg 81 g9))] sz) := by
  refine gMet (Qc := Q_M_file_0 D ca a0 a5 a8 a9 g0 g5 g8 g9 v0) (lv := [(0, .ref a0), (1, .int v0)]) (by decide) (Nat.le_of_ble_eq_true rfl) rfl (fun A p e s m below meth c ls hx hb hr hml hown hts hlk hnm hl hP hK hD hS hA hX => ?_)
  have hown : s.vm.findClass "StaveHouseModel" = some m.cls := hown
  have hnm : meth.name = "file" := hnm
  refine lv_aload_n hx hb d_15_129_0 rfl (lv_at hl 0 rfl) ?_
  refine lv_iload_n hx hb d_15_129_1 rfl (lv_at hl 1 rfl) ?_
  have hFc1 := va_free (wc := [(a0, .inr (14, rg 107 g0)), (a5, .inl (ca 5, 2, .inr (.inr (.inr (.inr g5))))), (a8, .inr (13, rg 81 g8)), (a9, .inr (13, rg 81 g9))]) hD hS hA [0, 1, 2, 3] rfl
  refine va_callq (va_runV (As := [.int v0]) (rest := []) ⟨hx, hb, hml, hown, hts⟩ (c_M_piece_0 l D ca ad av s.heap.size a0 a5 a8 a9 g0 g5 g8 g9 v0 (hp0.sub [0] rfl) (hp5.sub [0, 1] rfl) (hp8.sub [0] rfl) (hp9.sub [0] rfl)) (cwV 1 hts (gdV k_12_92 k_12_94 ks_131 k_1_9 k_12_95) rfl rfl rfl (by decide +kernel) ⟨Nat.le_of_ble_eq_true rfl, Nat.le_of_ble_eq_true rfl⟩) (gPV hP hD hK hS hA hX [0, 1, 2, 3] (by decide) rfl a0 [.int v0] 0 (ci := 14) (r := (RX14, TX14, 107)) rfl rfl) rfl rfl hl.1 rfl (lv_room (Nat.le_of_ble_eq_true rfl)) d_15_129_2 ⟨Nat.le_of_ble_eq_true rfl, Nat.le_of_ble_eq_true rfl⟩) hS (fun q _ h => hFc1 q h) hFc1 (fun r1 u1 t1 H1 locs1 ht1 hvm1 hw1 hB1 hz1 hk1 hS1 => ?_)
  have hr1 := hw1
  obtain ⟨hP1, hD1⟩ := gJoin (wr := []) (w1 := [(a0, .inr (14, rg 107 g0)), (a5, .inl (ca 5, 2, .inr (.inr (.inr (.inr g5))))), (a8, .inr (13, rg 81 g8)), (a9, .inr (13, rg 81 g9))]) hP hD [0, 1, 2, 3] [] rfl rfl (by decide) (by decide) hk1 hFc1 ht1 hB1
  have hP1 : va_P D cls [(a0, .inr (14, rg 107 g0)), (a5, .inl (ca 5, 2, .inr (.inr (.inr (.inr g5))))), (a8, .inr (13, rg 81 g8)), (a9, .inr (13, rg 81 g9))] H1 := hP1
  have hD1 : va_D A [(a0, .inr (14, rg 107 g0)), (a5, .inl (ca 5, 2, .inr (.inr (.inr (.inr g5))))), (a8, .inr (13, rg 81 g8)), (a9, .inr (13, rg 81 g9))] := hD1
  refine W.widen (k := 0) (n := 0) (Nat.le_of_ble_eq_true rfl) (Nat.le_of_ble_eq_true rfl) ?_
  subst hr1
  refine W.eq (g2 := F0 m 5 ls [.null]) rfl ?_
  refine lv_astore_nN (lv' := [(2, .null), (0, .ref a0), (1, .int v0)]) hx hb d_15_129_5 rfl hl (by decide) rfl (fun ls hl => ?_)
  refine lv_aload_nN hx hb d_15_129_6 rfl (lv_at hl 0 rfl) ?_
  refine lv_ifnullN (tgt := 17) hx hb d_15_129_7 (by decide) ?_
  refine lv_iconst (v := (-1)) hx hb d_15_129_17 (by decide) ?_
  have hP9 := hP1.sub (ws' := [(a0, .inr (14, rg 107 g0)), (a5, .inl (ca 5, 2, .inr (.inr (.inr (.inr g5))))), (a8, .inr (13, rg 81 g8)), (a9, .inr (13, rg 81 g9))]) [0, 1, 2, 3] rfl
  have hD9 := hD1.sub (ws' := [(a0, .inr (14, rg 107 g0)), (a5, .inl (ca 5, 2, .inr (.inr (.inr (.inr g5))))), (a8, .inr (13, rg 81 g8)), (a9, .inr (13, rg 81 g9))]) [0, 1, 2, 3] (by decide) rfl
  refine W.widen (k := 0) (n := 0) (Nat.le_of_ble_eq_true rfl) (Nat.le_of_ble_eq_true rfl) ?_
  exact W.iret (v := (-1)) hx hb hr (fun t ht hW => ⟨⟨(-1), (), rfl, rfl, by rw [ht]; exact hP9, va_K.moved hW.alike hK, hD9⟩, hS1.F ht⟩) hS1.2.2 d_15_129_18
abbrev Q_M_out_0 (D : va_G) (ca : Nat → ClassId) (a0 : Nat) (g0 : Nat → Value) (v0 : Int32) (A : Nat → Prop) : Array Value → State → Outcome → State → Prop := va_Qi (S := Unit) (fun (r : Int32) (u : Unit) => r = (-1)) (fun u => gB D ca A [(a0, .inr (14, rg 107 g0))]) A
set_option maxHeartbeats 8000000 in
set_option maxRecDepth 100000 in
theorem c_M_out_0 (l : Launch) (D : va_G) (ca : Nat → ClassId) (ad av : Nat → Nat) (sz : Nat) (a0 : Nat) (g0 : Nat → Value) (v0 : Int32) (hp0 : gF g0 [(71, .int 0)]) : Met l ({ cls := "StaveHouseModel", name := "out", desc := "(I)I" } : Jvm.MethodName) (Cond.code ({ cls := "StaveHouseModel", name := "out", desc := "(I)I" } : Jvm.MethodName) prog_15_method_133_code 2 (Option.some Jvm.ClassFile.FieldType.int) :: wAll) ({ frames := 0, cells := 0, slots := 0, locals := 0 } : Room) (va_Pc [.ref a0, .int v0] (gPre D ca ad av [(a0, .inr (14, rg 107 g0))] sz)) (Q_M_out_0 D ca a0 g0 v0 (va_A [(a0, .inr (14, rg 107 g0))] sz)) 0 0 (va_A [(a0, .inr (14, rg 107 g0))] sz) := by
  refine gMet (Qc := Q_M_out_0 D ca a0 g0 v0) (lv := [(0, .ref a0), (1, .int v0)]) (by decide) (Nat.le_of_ble_eq_true rfl) rfl (fun A p e s m below meth c ls hx hb hr hml hown hts hlk hnm hl hP hK hD hS hA hX => ?_)
  have hown : s.vm.findClass "StaveHouseModel" = some m.cls := hown
  have hnm : meth.name = "out" := hnm
  refine lv_iload_n hx hb d_15_133_0 rfl (lv_at hl 1 rfl) ?_
  refine lv_if_lt (tgt := 25) hx hb d_15_133_1 (by decide) (fun c1 => ?_) (fun c1 => ?_)
  · refine lv_iconst (v := (-1)) hx hb d_15_133_25 (by decide) ?_
    have hP9 := hP.sub (ws' := [(a0, .inr (14, rg 107 g0))]) [0] rfl
    have hD9 := hD.sub (ws' := [(a0, .inr (14, rg 107 g0))]) [0] (by decide) rfl
    refine W.widen (k := 0) (n := 0) (Nat.le_of_ble_eq_true rfl) (Nat.le_of_ble_eq_true rfl) ?_
    exact W.iret (v := (-1)) hx hb hr (fun t ht hW => ⟨⟨(-1), (), rfl, rfl, by rw [ht]; exact hP9, va_K.moved hW.alike hK, hD9⟩, hS.F ht⟩) hS.2.2 d_15_133_26
  · refine lv_iload_n hx hb d_15_133_4 rfl (lv_at hl 1 rfl) ?_
    refine lv_aload_n hx hb d_15_133_5 rfl (lv_at hl 0 rfl) ?_
    refine gget hx hb hts inW_14 hown hK hP 0 rfl rfl hp0 0 rfl (by decide) k_11_69 d_15_133_6 ?_
    refine lv_icmp_ge (tgt := 25) hx hb d_15_133_9 (by decide) (fun _ => ?_) (fun c => absurd (Int32.not_lt.mp c1) c)
    refine lv_iconst (v := (-1)) hx hb d_15_133_25 (by decide) ?_
    have hP9 := hP.sub (ws' := [(a0, .inr (14, rg 107 g0))]) [0] rfl
    have hD9 := hD.sub (ws' := [(a0, .inr (14, rg 107 g0))]) [0] (by decide) rfl
    refine W.widen (k := 0) (n := 0) (Nat.le_of_ble_eq_true rfl) (Nat.le_of_ble_eq_true rfl) ?_
    exact W.iret (v := (-1)) hx hb hr (fun t ht hW => ⟨⟨(-1), (), rfl, rfl, by rw [ht]; exact hP9, va_K.moved hW.alike hK, hD9⟩, hS.F ht⟩) hS.2.2 d_15_133_26
abbrev Q_M_again_0 (D : va_G) (ca : Nat → ClassId) (a0 : Nat) (g0 : Nat → Value) (A : Nat → Prop) : Array Value → State → Outcome → State → Prop := va_Qi (S := Unit) (fun (r : Int32) (u : Unit) => r = (-1)) (fun u => gB D ca A [(a0, .inr (14, rg 107 g0))]) A
set_option maxHeartbeats 8000000 in
set_option maxRecDepth 100000 in
theorem c_M_again_0 (l : Launch) (D : va_G) (ca : Nat → ClassId) (ad av : Nat → Nat) (sz : Nat) (a0 : Nat) (g0 : Nat → Value) (hp0 : gF g0 [(71, .int 0)]) : Met l ({ cls := "StaveHouseModel", name := "again", desc := "()I" } : Jvm.MethodName) (Cond.code ({ cls := "StaveHouseModel", name := "again", desc := "()I" } : Jvm.MethodName) prog_15_method_134_code 2 (Option.some Jvm.ClassFile.FieldType.int) :: wAll) ({ frames := 0, cells := 0, slots := 0, locals := 0 } : Room) (va_Pc [.ref a0] (gPre D ca ad av [(a0, .inr (14, rg 107 g0))] sz)) (Q_M_again_0 D ca a0 g0 (va_A [(a0, .inr (14, rg 107 g0))] sz)) 0 0 (va_A [(a0, .inr (14, rg 107 g0))] sz) := by
  refine gMet (Qc := Q_M_again_0 D ca a0 g0) (lv := [(0, .ref a0)]) (by decide) (Nat.le_of_ble_eq_true rfl) rfl (fun A p e s m below meth c ls hx hb hr hml hown hts hlk hnm hl hP hK hD hS hA hX => ?_)
  have hown : s.vm.findClass "StaveHouseModel" = some m.cls := hown
  have hnm : meth.name = "again" := hnm
  refine lv_aload_n hx hb d_15_134_0 rfl (lv_at hl 0 rfl) ?_
  refine gget hx hb hts inW_14 hown hK hP 0 rfl rfl hp0 0 rfl (by decide) k_11_69 d_15_134_1 ?_
  refine lv_if_eq (tgt := 17) hx hb d_15_134_4 (by decide) (fun _ => ?_) (fun c => absurd (by decide) c)
  refine lv_iconst (v := (-1)) hx hb d_15_134_17 (by decide) ?_
  have hP9 := hP.sub (ws' := [(a0, .inr (14, rg 107 g0))]) [0] rfl
  have hD9 := hD.sub (ws' := [(a0, .inr (14, rg 107 g0))]) [0] (by decide) rfl
  refine W.widen (k := 0) (n := 0) (Nat.le_of_ble_eq_true rfl) (Nat.le_of_ble_eq_true rfl) ?_
  exact W.iret (v := (-1)) hx hb hr (fun t ht hW => ⟨⟨(-1), (), rfl, rfl, by rw [ht]; exact hP9, va_K.moved hW.alike hK, hD9⟩, hS.F ht⟩) hS.2.2 d_15_134_18
abbrev Q_M_track_0 (D : va_G) (ca : Nat → ClassId) (a0 : Nat) (g0 : Nat → Value) (v0 : Int32) (A : Nat → Prop) : Array Value → State → Outcome → State → Prop := va_Qi (S := Unit) (fun (r : Int32) (u : Unit) => r = (-2147483648)) (fun u => gB D ca A [(a0, .inr (14, rg 107 g0))]) A
set_option maxHeartbeats 8000000 in
set_option maxRecDepth 100000 in
theorem c_M_track_0 (l : Launch) (D : va_G) (ca : Nat → ClassId) (ad av : Nat → Nat) (sz : Nat) (a0 : Nat) (g0 : Nat → Value) (v0 : Int32) (hp0 : gF g0 [(72, .int 0)]) : Met l ({ cls := "StaveHouseModel", name := "track", desc := "(I)I" } : Jvm.MethodName) (Cond.code ({ cls := "StaveHouseModel", name := "track", desc := "(I)I" } : Jvm.MethodName) prog_15_method_149_code 2 (Option.some Jvm.ClassFile.FieldType.int) :: wAll) ({ frames := 0, cells := 0, slots := 0, locals := 0 } : Room) (va_Pc [.ref a0, .int v0] (gPre D ca ad av [(a0, .inr (14, rg 107 g0))] sz)) (Q_M_track_0 D ca a0 g0 v0 (va_A [(a0, .inr (14, rg 107 g0))] sz)) 0 0 (va_A [(a0, .inr (14, rg 107 g0))] sz) := by
  refine gMet (Qc := Q_M_track_0 D ca a0 g0 v0) (lv := [(0, .ref a0), (1, .int v0)]) (by decide) (Nat.le_of_ble_eq_true rfl) rfl (fun A p e s m below meth c ls hx hb hr hml hown hts hlk hnm hl hP hK hD hS hA hX => ?_)
  have hown : s.vm.findClass "StaveHouseModel" = some m.cls := hown
  have hnm : meth.name = "track" := hnm
  refine lv_aload_n hx hb d_15_149_0 rfl (lv_at hl 0 rfl) ?_
  refine gget hx hb hts inW_14 hown hK hP 0 rfl rfl hp0 0 rfl (by decide) k_11_70 d_15_149_1 ?_
  refine lv_if_eq (tgt := 26) hx hb d_15_149_4 (by decide) (fun _ => ?_) (fun c => absurd (by decide) c)
  refine lv_ldcw hx hb hown (hts _ k_13_68) d_15_149_26 ?_
  have hP9 := hP.sub (ws' := [(a0, .inr (14, rg 107 g0))]) [0] rfl
  have hD9 := hD.sub (ws' := [(a0, .inr (14, rg 107 g0))]) [0] (by decide) rfl
  refine W.widen (k := 0) (n := 0) (Nat.le_of_ble_eq_true rfl) (Nat.le_of_ble_eq_true rfl) ?_
  exact W.iret (v := (-2147483648)) hx hb hr (fun t ht hW => ⟨⟨(-2147483648), (), rfl, rfl, by rw [ht]; exact hP9, va_K.moved hW.alike hK, hD9⟩, hS.F ht⟩) hS.2.2 d_15_149_29
abbrev Q_M_sound_0 (D : va_G) (ca : Nat → ClassId) (a0 : Nat) (g0 : Nat → Value) (v0 : Int32) (v1 : Int32) (A : Nat → Prop) : Array Value → State → Outcome → State → Prop := va_Ql (S := Unit) (fun (r : Int64) (u : Unit) => r = (-1)) (fun u => gB D ca A [(a0, .inr (14, rg 107 g0))]) A
set_option maxHeartbeats 8000000 in
set_option maxRecDepth 100000 in
theorem c_M_sound_0 (l : Launch) (D : va_G) (ca : Nat → ClassId) (ad av : Nat → Nat) (sz : Nat) (a0 : Nat) (g0 : Nat → Value) (v0 : Int32) (v1 : Int32) (hp0 : gF g0 [(72, .int 0)]) : Met l ({ cls := "StaveHouseModel", name := "sound", desc := "(II)J" } : Jvm.MethodName) (Cond.code ({ cls := "StaveHouseModel", name := "sound", desc := "(II)J" } : Jvm.MethodName) prog_15_method_150_code 3 (Option.some Jvm.ClassFile.FieldType.long) :: wAll) ({ frames := 0, cells := 0, slots := 0, locals := 0 } : Room) (va_Pc [.ref a0, .int v0, .int v1] (gPre D ca ad av [(a0, .inr (14, rg 107 g0))] sz)) (Q_M_sound_0 D ca a0 g0 v0 v1 (va_A [(a0, .inr (14, rg 107 g0))] sz)) 0 0 (va_A [(a0, .inr (14, rg 107 g0))] sz) := by
  refine gMet (Qc := Q_M_sound_0 D ca a0 g0 v0 v1) (lv := [(0, .ref a0), (1, .int v0), (2, .int v1)]) (by decide) (Nat.le_of_ble_eq_true rfl) rfl (fun A p e s m below meth c ls hx hb hr hml hown hts hlk hnm hl hP hK hD hS hA hX => ?_)
  have hown : s.vm.findClass "StaveHouseModel" = some m.cls := hown
  have hnm : meth.name = "sound" := hnm
  refine lv_aload_n hx hb d_15_150_0 rfl (lv_at hl 0 rfl) ?_
  refine gget hx hb hts inW_14 hown hK hP 0 rfl rfl hp0 0 rfl (by decide) k_11_70 d_15_150_1 ?_
  refine lv_if_eq (tgt := 22) hx hb d_15_150_4 (by decide) (fun _ => ?_) (fun c => absurd (by decide) c)
  refine lv_ldc2 hx hb hown (hts _ k_12_105) d_15_150_22 ?_
  have hP9 := hP.sub (ws' := [(a0, .inr (14, rg 107 g0))]) [0] rfl
  have hD9 := hD.sub (ws' := [(a0, .inr (14, rg 107 g0))]) [0] (by decide) rfl
  refine W.widen (k := 0) (n := 0) (Nat.le_of_ble_eq_true rfl) (Nat.le_of_ble_eq_true rfl) ?_
  exact W.lret (v := (-1)) hx hb hr (fun t ht hW => ⟨⟨(-1), (), rfl, rfl, by rw [ht]; exact hP9, va_K.moved hW.alike hK, hD9⟩, hS.F ht⟩) hS.2.2 d_15_150_25
abbrev Q_M_down_0 (D : va_G) (ca : Nat → ClassId) (a0 : Nat) (g0 : Nat → Value) (v0 : Int32) (A : Nat → Prop) : Array Value → State → Outcome → State → Prop := va_Qi (S := Unit) (fun (r : Int32) (u : Unit) => r = (-1)) (fun u => gB D ca A [(a0, .inr (14, rg 107 g0))]) A
set_option maxHeartbeats 8000000 in
set_option maxRecDepth 100000 in
theorem c_M_down_0 (l : Launch) (D : va_G) (ca : Nat → ClassId) (ad av : Nat → Nat) (sz : Nat) (a0 : Nat) (g0 : Nat → Value) (v0 : Int32) (hp0 : gF g0 [(72, .int 0)]) : Met l ({ cls := "StaveHouseModel", name := "down", desc := "(I)I" } : Jvm.MethodName) (Cond.code ({ cls := "StaveHouseModel", name := "down", desc := "(I)I" } : Jvm.MethodName) prog_15_method_153_code 7 (Option.some Jvm.ClassFile.FieldType.int) :: wAll) ({ frames := 0, cells := 0, slots := 0, locals := 0 } : Room) (va_Pc [.ref a0, .int v0] (gPre D ca ad av [(a0, .inr (14, rg 107 g0))] sz)) (Q_M_down_0 D ca a0 g0 v0 (va_A [(a0, .inr (14, rg 107 g0))] sz)) 0 0 (va_A [(a0, .inr (14, rg 107 g0))] sz) := by
  refine gMet (Qc := Q_M_down_0 D ca a0 g0 v0) (lv := [(0, .ref a0), (1, .int v0)]) (by decide) (Nat.le_of_ble_eq_true rfl) rfl (fun A p e s m below meth c ls hx hb hr hml hown hts hlk hnm hl hP hK hD hS hA hX => ?_)
  have hown : s.vm.findClass "StaveHouseModel" = some m.cls := hown
  have hnm : meth.name = "down" := hnm
  refine lv_aload_n hx hb d_15_153_0 rfl (lv_at hl 0 rfl) ?_
  refine gget hx hb hts inW_14 hown hK hP 0 rfl rfl hp0 0 rfl (by decide) k_11_70 d_15_153_1 ?_
  refine lv_if_eq (tgt := 40) hx hb d_15_153_4 (by decide) (fun _ => ?_) (fun c => absurd (by decide) c)
  refine lv_iconst (v := (-1)) hx hb d_15_153_40 (by decide) ?_
  have hP9 := hP.sub (ws' := [(a0, .inr (14, rg 107 g0))]) [0] rfl
  have hD9 := hD.sub (ws' := [(a0, .inr (14, rg 107 g0))]) [0] (by decide) rfl
  refine W.widen (k := 0) (n := 0) (Nat.le_of_ble_eq_true rfl) (Nat.le_of_ble_eq_true rfl) ?_
  exact W.iret (v := (-1)) hx hb hr (fun t ht hW => ⟨⟨(-1), (), rfl, rfl, by rw [ht]; exact hP9, va_K.moved hW.alike hK, hD9⟩, hS.F ht⟩) hS.2.2 d_15_153_41
abbrev Q_M_play_0 (D : va_G) (ca : Nat → ClassId) (a0 : Nat) (a5 : Nat) (a8 : Nat) (a9 : Nat) (g0 : Nat → Value) (g5 : Nat → Option Nat) (g8 : Nat → Value) (g9 : Nat → Value) (v0 : Int32) (v1 : Int32) (A : Nat → Prop) : Array Value → State → Outcome → State → Prop := va_Qi (S := Unit) (fun (r : Int32) (u : Unit) => r = (-1)) (fun u => gB D ca A [(a0, .inr (14, rg 107 g0)), (a5, .inl (ca 5, 2, .inr (.inr (.inr (.inr g5))))), (a8, .inr (13, rg 81 g8)), (a9, .inr (13, rg 81 g9))]) A
set_option maxHeartbeats 8000000 in
set_option maxRecDepth 100000 in
theorem c_M_play_0 (l : Launch) (D : va_G) (ca : Nat → ClassId) (ad av : Nat → Nat) (sz : Nat) (a0 : Nat) (a5 : Nat) (a8 : Nat) (a9 : Nat) (g0 : Nat → Value) (g5 : Nat → Option Nat) (g8 : Nat → Value) (g9 : Nat → Value) (v0 : Int32) (v1 : Int32) (hp0 : gF g0 [(5, .ref a5)]) (hp5 : gF g5 [(1, some a8), (0, some a9)]) (hp8 : gF g8 [(0, .int 0)]) (hp9 : gF g9 [(0, .int 0)]) : Met l ({ cls := "StaveHouseModel", name := "play", desc := "(II)I" } : Jvm.MethodName) (Cond.code ({ cls := "StaveHouseModel", name := "play", desc := "(II)I" } : Jvm.MethodName) prog_15_method_168_code 5 (Option.some Jvm.ClassFile.FieldType.int) :: wAll) ({ frames := 1, cells := 0, slots := 0, locals := 21 } : Room) (va_Pc [.ref a0, .int v0, .int v1] (gPre D ca ad av [(a0, .inr (14, rg 107 g0)), (a5, .inl (ca 5, 2, .inr (.inr (.inr (.inr g5))))), (a8, .inr (13, rg 81 g8)), (a9, .inr (13, rg 81 g9))] sz)) (Q_M_play_0 D ca a0 a5 a8 a9 g0 g5 g8 g9 v0 v1 (va_A [(a0, .inr (14, rg 107 g0)), (a5, .inl (ca 5, 2, .inr (.inr (.inr (.inr g5))))), (a8, .inr (13, rg 81 g8)), (a9, .inr (13, rg 81 g9))] sz)) 0 0 (va_A [(a0, .inr (14, rg 107 g0)), (a5, .inl (ca 5, 2, .inr (.inr (.inr (.inr g5))))), (a8, .inr (13, rg 81 g8)), (a9, .inr (13, rg 81 g9))] sz) := by
  refine gMet (Qc := Q_M_play_0 D ca a0 a5 a8 a9 g0 g5 g8 g9 v0 v1) (lv := [(0, .ref a0), (1, .int v0), (2, .int v1)]) (by decide) (Nat.le_of_ble_eq_true rfl) rfl (fun A p e s m below meth c ls hx hb hr hml hown hts hlk hnm hl hP hK hD hS hA hX => ?_)
  have hown : s.vm.findClass "StaveHouseModel" = some m.cls := hown
  have hnm : meth.name = "play" := hnm
  refine lv_aload_n hx hb d_15_168_0 rfl (lv_at hl 0 rfl) ?_
  refine lv_iload_n hx hb d_15_168_1 rfl (lv_at hl 1 rfl) ?_
  have hFc1 := va_free (wc := [(a0, .inr (14, rg 107 g0)), (a5, .inl (ca 5, 2, .inr (.inr (.inr (.inr g5))))), (a8, .inr (13, rg 81 g8)), (a9, .inr (13, rg 81 g9))]) hD hS hA [0, 1, 2, 3] rfl
  refine va_callq (va_runV (As := [.int v0]) (rest := []) ⟨hx, hb, hml, hown, hts⟩ (c_M_piece_0 l D ca ad av s.heap.size a0 a5 a8 a9 g0 g5 g8 g9 v0 (hp0.sub [0] rfl) (hp5.sub [0, 1] rfl) (hp8.sub [0] rfl) (hp9.sub [0] rfl)) (cwV 1 hts (gdV k_12_92 k_12_94 ks_131 k_1_9 k_12_95) rfl rfl rfl (by decide +kernel) ⟨Nat.le_of_ble_eq_true rfl, Nat.le_of_ble_eq_true rfl⟩) (gPV hP hD hK hS hA hX [0, 1, 2, 3] (by decide) rfl a0 [.int v0] 0 (ci := 14) (r := (RX14, TX14, 107)) rfl rfl) rfl rfl hl.1 rfl (lv_room (Nat.le_of_ble_eq_true rfl)) d_15_168_2 ⟨Nat.le_of_ble_eq_true rfl, Nat.le_of_ble_eq_true rfl⟩) hS (fun q _ h => hFc1 q h) hFc1 (fun r1 u1 t1 H1 locs1 ht1 hvm1 hw1 hB1 hz1 hk1 hS1 => ?_)
  have hr1 := hw1
  obtain ⟨hP1, hD1⟩ := gJoin (wr := []) (w1 := [(a0, .inr (14, rg 107 g0)), (a5, .inl (ca 5, 2, .inr (.inr (.inr (.inr g5))))), (a8, .inr (13, rg 81 g8)), (a9, .inr (13, rg 81 g9))]) hP hD [0, 1, 2, 3] [] rfl rfl (by decide) (by decide) hk1 hFc1 ht1 hB1
  have hP1 : va_P D cls [(a0, .inr (14, rg 107 g0)), (a5, .inl (ca 5, 2, .inr (.inr (.inr (.inr g5))))), (a8, .inr (13, rg 81 g8)), (a9, .inr (13, rg 81 g9))] H1 := hP1
  have hD1 : va_D A [(a0, .inr (14, rg 107 g0)), (a5, .inl (ca 5, 2, .inr (.inr (.inr (.inr g5))))), (a8, .inr (13, rg 81 g8)), (a9, .inr (13, rg 81 g9))] := hD1
  refine W.widen (k := 0) (n := 0) (Nat.le_of_ble_eq_true rfl) (Nat.le_of_ble_eq_true rfl) ?_
  subst hr1
  refine W.eq (g2 := F0 m 5 ls [.null]) rfl ?_
  refine lv_astore_nN (lv' := [(3, .null), (0, .ref a0), (1, .int v0), (2, .int v1)]) hx hb d_15_168_5 rfl hl (by decide) rfl (fun ls hl => ?_)
  refine lv_aload_nN hx hb d_15_168_6 rfl (lv_at hl 0 rfl) ?_
  refine lv_ifnullN (tgt := 28) hx hb d_15_168_7 (by decide) ?_
  refine lv_iconst (v := (-1)) hx hb d_15_168_28 (by decide) ?_
  have hP9 := hP1.sub (ws' := [(a0, .inr (14, rg 107 g0)), (a5, .inl (ca 5, 2, .inr (.inr (.inr (.inr g5))))), (a8, .inr (13, rg 81 g8)), (a9, .inr (13, rg 81 g9))]) [0, 1, 2, 3] rfl
  have hD9 := hD1.sub (ws' := [(a0, .inr (14, rg 107 g0)), (a5, .inl (ca 5, 2, .inr (.inr (.inr (.inr g5))))), (a8, .inr (13, rg 81 g8)), (a9, .inr (13, rg 81 g9))]) [0, 1, 2, 3] (by decide) rfl
  refine W.widen (k := 0) (n := 0) (Nat.le_of_ble_eq_true rfl) (Nat.le_of_ble_eq_true rfl) ?_
  exact W.iret (v := (-1)) hx hb hr (fun t ht hW => ⟨⟨(-1), (), rfl, rfl, by rw [ht]; exact hP9, va_K.moved hW.alike hK, hD9⟩, hS1.F ht⟩) hS1.2.2 d_15_168_29
abbrev Q_M_sample_0 (D : va_G) (ca : Nat → ClassId) (a0 : Nat) (a5 : Nat) (a8 : Nat) (a9 : Nat) (g0 : Nat → Value) (g5 : Nat → Option Nat) (g8 : Nat → Value) (g9 : Nat → Value) (v0 : Int32) (v1 : Int32) (v2 : Int32) (A : Nat → Prop) : Array Value → State → Outcome → State → Prop := va_Qi (S := Unit) (fun (r : Int32) (u : Unit) => r = (-2147483648)) (fun u => gB D ca A [(a0, .inr (14, rg 107 g0)), (a5, .inl (ca 5, 2, .inr (.inr (.inr (.inr g5))))), (a8, .inr (13, rg 81 g8)), (a9, .inr (13, rg 81 g9))]) A
set_option maxHeartbeats 8000000 in
set_option maxRecDepth 100000 in
theorem c_M_sample_0 (l : Launch) (D : va_G) (ca : Nat → ClassId) (ad av : Nat → Nat) (sz : Nat) (a0 : Nat) (a5 : Nat) (a8 : Nat) (a9 : Nat) (g0 : Nat → Value) (g5 : Nat → Option Nat) (g8 : Nat → Value) (g9 : Nat → Value) (v0 : Int32) (v1 : Int32) (v2 : Int32) (hp0 : gF g0 [(5, .ref a5)]) (hp5 : gF g5 [(1, some a8), (0, some a9)]) (hp8 : gF g8 [(0, .int 0)]) (hp9 : gF g9 [(0, .int 0)]) : Met l ({ cls := "StaveHouseModel", name := "sample", desc := "(III)I" } : Jvm.MethodName) (Cond.code ({ cls := "StaveHouseModel", name := "sample", desc := "(III)I" } : Jvm.MethodName) prog_15_method_170_code 5 (Option.some Jvm.ClassFile.FieldType.int) :: wAll) ({ frames := 1, cells := 0, slots := 0, locals := 21 } : Room) (va_Pc [.ref a0, .int v0, .int v1, .int v2] (gPre D ca ad av [(a0, .inr (14, rg 107 g0)), (a5, .inl (ca 5, 2, .inr (.inr (.inr (.inr g5))))), (a8, .inr (13, rg 81 g8)), (a9, .inr (13, rg 81 g9))] sz)) (Q_M_sample_0 D ca a0 a5 a8 a9 g0 g5 g8 g9 v0 v1 v2 (va_A [(a0, .inr (14, rg 107 g0)), (a5, .inl (ca 5, 2, .inr (.inr (.inr (.inr g5))))), (a8, .inr (13, rg 81 g8)), (a9, .inr (13, rg 81 g9))] sz)) 0 0 (va_A [(a0, .inr (14, rg 107 g0)), (a5, .inl (ca 5, 2, .inr (.inr (.inr (.inr g5))))), (a8, .inr (13, rg 81 g8)), (a9, .inr (13, rg 81 g9))] sz) := by
  refine gMet (Qc := Q_M_sample_0 D ca a0 a5 a8 a9 g0 g5 g8 g9 v0 v1 v2) (lv := [(0, .ref a0), (1, .int v0), (2, .int v1), (3, .int v2)]) (by decide) (Nat.le_of_ble_eq_true rfl) rfl (fun A p e s m below meth c ls hx hb hr hml hown hts hlk hnm hl hP hK hD hS hA hX => ?_)
  have hown : s.vm.findClass "StaveHouseModel" = some m.cls := hown
  have hnm : meth.name = "sample" := hnm
  refine lv_aload_n hx hb d_15_170_0 rfl (lv_at hl 0 rfl) ?_
  refine lv_iload_n hx hb d_15_170_1 rfl (lv_at hl 1 rfl) ?_
  have hFc1 := va_free (wc := [(a0, .inr (14, rg 107 g0)), (a5, .inl (ca 5, 2, .inr (.inr (.inr (.inr g5))))), (a8, .inr (13, rg 81 g8)), (a9, .inr (13, rg 81 g9))]) hD hS hA [0, 1, 2, 3] rfl
  refine va_callq (va_runV (As := [.int v0]) (rest := []) ⟨hx, hb, hml, hown, hts⟩ (c_M_piece_0 l D ca ad av s.heap.size a0 a5 a8 a9 g0 g5 g8 g9 v0 (hp0.sub [0] rfl) (hp5.sub [0, 1] rfl) (hp8.sub [0] rfl) (hp9.sub [0] rfl)) (cwV 1 hts (gdV k_12_92 k_12_94 ks_131 k_1_9 k_12_95) rfl rfl rfl (by decide +kernel) ⟨Nat.le_of_ble_eq_true rfl, Nat.le_of_ble_eq_true rfl⟩) (gPV hP hD hK hS hA hX [0, 1, 2, 3] (by decide) rfl a0 [.int v0] 0 (ci := 14) (r := (RX14, TX14, 107)) rfl rfl) rfl rfl hl.1 rfl (lv_room (Nat.le_of_ble_eq_true rfl)) d_15_170_2 ⟨Nat.le_of_ble_eq_true rfl, Nat.le_of_ble_eq_true rfl⟩) hS (fun q _ h => hFc1 q h) hFc1 (fun r1 u1 t1 H1 locs1 ht1 hvm1 hw1 hB1 hz1 hk1 hS1 => ?_)
  have hr1 := hw1
  obtain ⟨hP1, hD1⟩ := gJoin (wr := []) (w1 := [(a0, .inr (14, rg 107 g0)), (a5, .inl (ca 5, 2, .inr (.inr (.inr (.inr g5))))), (a8, .inr (13, rg 81 g8)), (a9, .inr (13, rg 81 g9))]) hP hD [0, 1, 2, 3] [] rfl rfl (by decide) (by decide) hk1 hFc1 ht1 hB1
  have hP1 : va_P D cls [(a0, .inr (14, rg 107 g0)), (a5, .inl (ca 5, 2, .inr (.inr (.inr (.inr g5))))), (a8, .inr (13, rg 81 g8)), (a9, .inr (13, rg 81 g9))] H1 := hP1
  have hD1 : va_D A [(a0, .inr (14, rg 107 g0)), (a5, .inl (ca 5, 2, .inr (.inr (.inr (.inr g5))))), (a8, .inr (13, rg 81 g8)), (a9, .inr (13, rg 81 g9))] := hD1
  refine W.widen (k := 0) (n := 0) (Nat.le_of_ble_eq_true rfl) (Nat.le_of_ble_eq_true rfl) ?_
  subst hr1
  refine W.eq (g2 := F0 m 5 ls [.null]) rfl ?_
  refine lv_astoreN (lv' := [(4, .null), (0, .ref a0), (1, .int v0), (2, .int v1), (3, .int v2)]) hx hb d_15_170_5 hl (by decide) rfl (fun ls hl => ?_)
  refine lv_aloadN hx hb d_15_170_7 (lv_at hl 0 rfl) ?_
  refine lv_ifnullN (tgt := 33) hx hb d_15_170_9 (by decide) ?_
  refine lv_ldcw hx hb hown (hts _ k_13_68) d_15_170_33 ?_
  have hP9 := hP1.sub (ws' := [(a0, .inr (14, rg 107 g0)), (a5, .inl (ca 5, 2, .inr (.inr (.inr (.inr g5))))), (a8, .inr (13, rg 81 g8)), (a9, .inr (13, rg 81 g9))]) [0, 1, 2, 3] rfl
  have hD9 := hD1.sub (ws' := [(a0, .inr (14, rg 107 g0)), (a5, .inl (ca 5, 2, .inr (.inr (.inr (.inr g5))))), (a8, .inr (13, rg 81 g8)), (a9, .inr (13, rg 81 g9))]) [0, 1, 2, 3] (by decide) rfl
  refine W.widen (k := 0) (n := 0) (Nat.le_of_ble_eq_true rfl) (Nat.le_of_ble_eq_true rfl) ?_
  exact W.iret (v := (-2147483648)) hx hb hr (fun t ht hW => ⟨⟨(-2147483648), (), rfl, rfl, by rw [ht]; exact hP9, va_K.moved hW.alike hK, hD9⟩, hS1.F ht⟩) hS1.2.2 d_15_170_36
abbrev Q_M_moment_0 (D : va_G) (ca : Nat → ClassId) (a0 : Nat) (a5 : Nat) (a8 : Nat) (a9 : Nat) (g0 : Nat → Value) (g5 : Nat → Option Nat) (g8 : Nat → Value) (g9 : Nat → Value) (v0 : Int32) (v1 : Int32) (v2 : Int32) (A : Nat → Prop) : Array Value → State → Outcome → State → Prop := va_Ql (S := Unit) (fun (r : Int64) (u : Unit) => r = (-2147483648)) (fun u => gB D ca A [(a0, .inr (14, rg 107 g0)), (a5, .inl (ca 5, 2, .inr (.inr (.inr (.inr g5))))), (a8, .inr (13, rg 81 g8)), (a9, .inr (13, rg 81 g9))]) A
set_option maxHeartbeats 8000000 in
set_option maxRecDepth 100000 in
theorem c_M_moment_0 (l : Launch) (D : va_G) (ca : Nat → ClassId) (ad av : Nat → Nat) (sz : Nat) (a0 : Nat) (a5 : Nat) (a8 : Nat) (a9 : Nat) (g0 : Nat → Value) (g5 : Nat → Option Nat) (g8 : Nat → Value) (g9 : Nat → Value) (v0 : Int32) (v1 : Int32) (v2 : Int32) (hp0 : gF g0 [(5, .ref a5)]) (hp5 : gF g5 [(1, some a8), (0, some a9)]) (hp8 : gF g8 [(0, .int 0)]) (hp9 : gF g9 [(0, .int 0)]) : Met l ({ cls := "StaveHouseModel", name := "moment", desc := "(III)J" } : Jvm.MethodName) (Cond.code ({ cls := "StaveHouseModel", name := "moment", desc := "(III)J" } : Jvm.MethodName) prog_15_method_181_code 5 (Option.some Jvm.ClassFile.FieldType.long) :: wAll) ({ frames := 1, cells := 0, slots := 0, locals := 21 } : Room) (va_Pc [.ref a0, .int v0, .int v1, .int v2] (gPre D ca ad av [(a0, .inr (14, rg 107 g0)), (a5, .inl (ca 5, 2, .inr (.inr (.inr (.inr g5))))), (a8, .inr (13, rg 81 g8)), (a9, .inr (13, rg 81 g9))] sz)) (Q_M_moment_0 D ca a0 a5 a8 a9 g0 g5 g8 g9 v0 v1 v2 (va_A [(a0, .inr (14, rg 107 g0)), (a5, .inl (ca 5, 2, .inr (.inr (.inr (.inr g5))))), (a8, .inr (13, rg 81 g8)), (a9, .inr (13, rg 81 g9))] sz)) 0 0 (va_A [(a0, .inr (14, rg 107 g0)), (a5, .inl (ca 5, 2, .inr (.inr (.inr (.inr g5))))), (a8, .inr (13, rg 81 g8)), (a9, .inr (13, rg 81 g9))] sz) := by
  refine gMet (Qc := Q_M_moment_0 D ca a0 a5 a8 a9 g0 g5 g8 g9 v0 v1 v2) (lv := [(0, .ref a0), (1, .int v0), (2, .int v1), (3, .int v2)]) (by decide) (Nat.le_of_ble_eq_true rfl) rfl (fun A p e s m below meth c ls hx hb hr hml hown hts hlk hnm hl hP hK hD hS hA hX => ?_)
  have hown : s.vm.findClass "StaveHouseModel" = some m.cls := hown
  have hnm : meth.name = "moment" := hnm
  refine lv_aload_n hx hb d_15_181_0 rfl (lv_at hl 0 rfl) ?_
  refine lv_iload_n hx hb d_15_181_1 rfl (lv_at hl 1 rfl) ?_
  have hFc1 := va_free (wc := [(a0, .inr (14, rg 107 g0)), (a5, .inl (ca 5, 2, .inr (.inr (.inr (.inr g5))))), (a8, .inr (13, rg 81 g8)), (a9, .inr (13, rg 81 g9))]) hD hS hA [0, 1, 2, 3] rfl
  refine va_callq (va_runV (As := [.int v0]) (rest := []) ⟨hx, hb, hml, hown, hts⟩ (c_M_piece_0 l D ca ad av s.heap.size a0 a5 a8 a9 g0 g5 g8 g9 v0 (hp0.sub [0] rfl) (hp5.sub [0, 1] rfl) (hp8.sub [0] rfl) (hp9.sub [0] rfl)) (cwV 1 hts (gdV k_12_92 k_12_94 ks_131 k_1_9 k_12_95) rfl rfl rfl (by decide +kernel) ⟨Nat.le_of_ble_eq_true rfl, Nat.le_of_ble_eq_true rfl⟩) (gPV hP hD hK hS hA hX [0, 1, 2, 3] (by decide) rfl a0 [.int v0] 0 (ci := 14) (r := (RX14, TX14, 107)) rfl rfl) rfl rfl hl.1 rfl (lv_room (Nat.le_of_ble_eq_true rfl)) d_15_181_2 ⟨Nat.le_of_ble_eq_true rfl, Nat.le_of_ble_eq_true rfl⟩) hS (fun q _ h => hFc1 q h) hFc1 (fun r1 u1 t1 H1 locs1 ht1 hvm1 hw1 hB1 hz1 hk1 hS1 => ?_)
  have hr1 := hw1
  obtain ⟨hP1, hD1⟩ := gJoin (wr := []) (w1 := [(a0, .inr (14, rg 107 g0)), (a5, .inl (ca 5, 2, .inr (.inr (.inr (.inr g5))))), (a8, .inr (13, rg 81 g8)), (a9, .inr (13, rg 81 g9))]) hP hD [0, 1, 2, 3] [] rfl rfl (by decide) (by decide) hk1 hFc1 ht1 hB1
  have hP1 : va_P D cls [(a0, .inr (14, rg 107 g0)), (a5, .inl (ca 5, 2, .inr (.inr (.inr (.inr g5))))), (a8, .inr (13, rg 81 g8)), (a9, .inr (13, rg 81 g9))] H1 := hP1
  have hD1 : va_D A [(a0, .inr (14, rg 107 g0)), (a5, .inl (ca 5, 2, .inr (.inr (.inr (.inr g5))))), (a8, .inr (13, rg 81 g8)), (a9, .inr (13, rg 81 g9))] := hD1
  refine W.widen (k := 0) (n := 0) (Nat.le_of_ble_eq_true rfl) (Nat.le_of_ble_eq_true rfl) ?_
  subst hr1
  refine W.eq (g2 := F0 m 5 ls [.null]) rfl ?_
  refine lv_astoreN (lv' := [(4, .null), (0, .ref a0), (1, .int v0), (2, .int v1), (3, .int v2)]) hx hb d_15_181_5 hl (by decide) rfl (fun ls hl => ?_)
  refine lv_aloadN hx hb d_15_181_7 (lv_at hl 0 rfl) ?_
  refine lv_ifnullN (tgt := 35) hx hb d_15_181_9 (by decide) ?_
  refine lv_ldc2 hx hb hown (hts _ k_14_16) d_15_181_35 ?_
  have hP9 := hP1.sub (ws' := [(a0, .inr (14, rg 107 g0)), (a5, .inl (ca 5, 2, .inr (.inr (.inr (.inr g5))))), (a8, .inr (13, rg 81 g8)), (a9, .inr (13, rg 81 g9))]) [0, 1, 2, 3] rfl
  have hD9 := hD1.sub (ws' := [(a0, .inr (14, rg 107 g0)), (a5, .inl (ca 5, 2, .inr (.inr (.inr (.inr g5))))), (a8, .inr (13, rg 81 g8)), (a9, .inr (13, rg 81 g9))]) [0, 1, 2, 3] (by decide) rfl
  refine W.widen (k := 0) (n := 0) (Nat.le_of_ble_eq_true rfl) (Nat.le_of_ble_eq_true rfl) ?_
  exact W.lret (v := (-2147483648)) hx hb hr (fun t ht hW => ⟨⟨(-2147483648), (), rfl, rfl, by rw [ht]; exact hP9, va_K.moved hW.alike hK, hD9⟩, hS1.F ht⟩) hS1.2.2 d_15_181_38
abbrev Q_M_fault_0 (D : va_G) (ca : Nat → ClassId) (a0 : Nat) (a5 : Nat) (a8 : Nat) (a9 : Nat) (g0 : Nat → Value) (g5 : Nat → Option Nat) (g8 : Nat → Value) (g9 : Nat → Value) (v0 : Int32) (v1 : Int32) (v2 : Int32) (A : Nat → Prop) : Array Value → State → Outcome → State → Prop := va_Qi (S := Unit) (fun (r : Int32) (u : Unit) => r = (-1)) (fun u => gB D ca A [(a0, .inr (14, rg 107 g0)), (a5, .inl (ca 5, 2, .inr (.inr (.inr (.inr g5))))), (a8, .inr (13, rg 81 g8)), (a9, .inr (13, rg 81 g9))]) A
set_option maxHeartbeats 8000000 in
set_option maxRecDepth 100000 in
theorem c_M_fault_0 (l : Launch) (D : va_G) (ca : Nat → ClassId) (ad av : Nat → Nat) (sz : Nat) (a0 : Nat) (a5 : Nat) (a8 : Nat) (a9 : Nat) (g0 : Nat → Value) (g5 : Nat → Option Nat) (g8 : Nat → Value) (g9 : Nat → Value) (v0 : Int32) (v1 : Int32) (v2 : Int32) (hp0 : gF g0 [(5, .ref a5)]) (hp5 : gF g5 [(1, some a8), (0, some a9)]) (hp8 : gF g8 [(0, .int 0)]) (hp9 : gF g9 [(0, .int 0)]) : Met l ({ cls := "StaveHouseModel", name := "fault", desc := "(III)I" } : Jvm.MethodName) (Cond.code ({ cls := "StaveHouseModel", name := "fault", desc := "(III)I" } : Jvm.MethodName) prog_15_method_194_code 5 (Option.some Jvm.ClassFile.FieldType.int) :: wAll) ({ frames := 1, cells := 0, slots := 0, locals := 21 } : Room) (va_Pc [.ref a0, .int v0, .int v1, .int v2] (gPre D ca ad av [(a0, .inr (14, rg 107 g0)), (a5, .inl (ca 5, 2, .inr (.inr (.inr (.inr g5))))), (a8, .inr (13, rg 81 g8)), (a9, .inr (13, rg 81 g9))] sz)) (Q_M_fault_0 D ca a0 a5 a8 a9 g0 g5 g8 g9 v0 v1 v2 (va_A [(a0, .inr (14, rg 107 g0)), (a5, .inl (ca 5, 2, .inr (.inr (.inr (.inr g5))))), (a8, .inr (13, rg 81 g8)), (a9, .inr (13, rg 81 g9))] sz)) 0 0 (va_A [(a0, .inr (14, rg 107 g0)), (a5, .inl (ca 5, 2, .inr (.inr (.inr (.inr g5))))), (a8, .inr (13, rg 81 g8)), (a9, .inr (13, rg 81 g9))] sz) := by
  refine gMet (Qc := Q_M_fault_0 D ca a0 a5 a8 a9 g0 g5 g8 g9 v0 v1 v2) (lv := [(0, .ref a0), (1, .int v0), (2, .int v1), (3, .int v2)]) (by decide) (Nat.le_of_ble_eq_true rfl) rfl (fun A p e s m below meth c ls hx hb hr hml hown hts hlk hnm hl hP hK hD hS hA hX => ?_)
  have hown : s.vm.findClass "StaveHouseModel" = some m.cls := hown
  have hnm : meth.name = "fault" := hnm
  refine lv_aload_n hx hb d_15_194_0 rfl (lv_at hl 0 rfl) ?_
  refine lv_iload_n hx hb d_15_194_1 rfl (lv_at hl 1 rfl) ?_
  have hFc1 := va_free (wc := [(a0, .inr (14, rg 107 g0)), (a5, .inl (ca 5, 2, .inr (.inr (.inr (.inr g5))))), (a8, .inr (13, rg 81 g8)), (a9, .inr (13, rg 81 g9))]) hD hS hA [0, 1, 2, 3] rfl
  refine va_callq (va_runV (As := [.int v0]) (rest := []) ⟨hx, hb, hml, hown, hts⟩ (c_M_piece_0 l D ca ad av s.heap.size a0 a5 a8 a9 g0 g5 g8 g9 v0 (hp0.sub [0] rfl) (hp5.sub [0, 1] rfl) (hp8.sub [0] rfl) (hp9.sub [0] rfl)) (cwV 1 hts (gdV k_12_92 k_12_94 ks_131 k_1_9 k_12_95) rfl rfl rfl (by decide +kernel) ⟨Nat.le_of_ble_eq_true rfl, Nat.le_of_ble_eq_true rfl⟩) (gPV hP hD hK hS hA hX [0, 1, 2, 3] (by decide) rfl a0 [.int v0] 0 (ci := 14) (r := (RX14, TX14, 107)) rfl rfl) rfl rfl hl.1 rfl (lv_room (Nat.le_of_ble_eq_true rfl)) d_15_194_2 ⟨Nat.le_of_ble_eq_true rfl, Nat.le_of_ble_eq_true rfl⟩) hS (fun q _ h => hFc1 q h) hFc1 (fun r1 u1 t1 H1 locs1 ht1 hvm1 hw1 hB1 hz1 hk1 hS1 => ?_)
  have hr1 := hw1
  obtain ⟨hP1, hD1⟩ := gJoin (wr := []) (w1 := [(a0, .inr (14, rg 107 g0)), (a5, .inl (ca 5, 2, .inr (.inr (.inr (.inr g5))))), (a8, .inr (13, rg 81 g8)), (a9, .inr (13, rg 81 g9))]) hP hD [0, 1, 2, 3] [] rfl rfl (by decide) (by decide) hk1 hFc1 ht1 hB1
  have hP1 : va_P D cls [(a0, .inr (14, rg 107 g0)), (a5, .inl (ca 5, 2, .inr (.inr (.inr (.inr g5))))), (a8, .inr (13, rg 81 g8)), (a9, .inr (13, rg 81 g9))] H1 := hP1
  have hD1 : va_D A [(a0, .inr (14, rg 107 g0)), (a5, .inl (ca 5, 2, .inr (.inr (.inr (.inr g5))))), (a8, .inr (13, rg 81 g8)), (a9, .inr (13, rg 81 g9))] := hD1
  refine W.widen (k := 0) (n := 0) (Nat.le_of_ble_eq_true rfl) (Nat.le_of_ble_eq_true rfl) ?_
  subst hr1
  refine W.eq (g2 := F0 m 5 ls [.null]) rfl ?_
  refine lv_astoreN (lv' := [(4, .null), (0, .ref a0), (1, .int v0), (2, .int v1), (3, .int v2)]) hx hb d_15_194_5 hl (by decide) rfl (fun ls hl => ?_)
  refine lv_aloadN hx hb d_15_194_7 (lv_at hl 0 rfl) ?_
  refine lv_ifnullN (tgt := 25) hx hb d_15_194_9 (by decide) ?_
  refine lv_iconst (v := (-1)) hx hb d_15_194_25 (by decide) ?_
  have hP9 := hP1.sub (ws' := [(a0, .inr (14, rg 107 g0)), (a5, .inl (ca 5, 2, .inr (.inr (.inr (.inr g5))))), (a8, .inr (13, rg 81 g8)), (a9, .inr (13, rg 81 g9))]) [0, 1, 2, 3] rfl
  have hD9 := hD1.sub (ws' := [(a0, .inr (14, rg 107 g0)), (a5, .inl (ca 5, 2, .inr (.inr (.inr (.inr g5))))), (a8, .inr (13, rg 81 g8)), (a9, .inr (13, rg 81 g9))]) [0, 1, 2, 3] (by decide) rfl
  refine W.widen (k := 0) (n := 0) (Nat.le_of_ble_eq_true rfl) (Nat.le_of_ble_eq_true rfl) ?_
  exact W.iret (v := (-1)) hx hb hr (fun t ht hW => ⟨⟨(-1), (), rfl, rfl, by rw [ht]; exact hP9, va_K.moved hW.alike hK, hD9⟩, hS1.F ht⟩) hS1.2.2 d_15_194_26
abbrev Q_M_follows_0 (D : va_G) (ca : Nat → ClassId) (a0 : Nat) (a5 : Nat) (a8 : Nat) (a9 : Nat) (g0 : Nat → Value) (g5 : Nat → Option Nat) (g8 : Nat → Value) (g9 : Nat → Value) (v0 : Int32) (v1 : Int32) (v2 : Int32) (v3 : Int32) (A : Nat → Prop) : Array Value → State → Outcome → State → Prop := va_Ql (S := Unit) (fun (r : Int64) (u : Unit) => r = (-1)) (fun u => gB D ca A [(a0, .inr (14, rg 107 g0)), (a5, .inl (ca 5, 2, .inr (.inr (.inr (.inr g5))))), (a8, .inr (13, rg 81 g8)), (a9, .inr (13, rg 81 g9))]) A
set_option maxHeartbeats 8000000 in
set_option maxRecDepth 100000 in
theorem c_M_follows_0 (l : Launch) (D : va_G) (ca : Nat → ClassId) (ad av : Nat → Nat) (sz : Nat) (a0 : Nat) (a5 : Nat) (a8 : Nat) (a9 : Nat) (g0 : Nat → Value) (g5 : Nat → Option Nat) (g8 : Nat → Value) (g9 : Nat → Value) (v0 : Int32) (v1 : Int32) (v2 : Int32) (v3 : Int32) (hp0 : gF g0 [(5, .ref a5)]) (hp5 : gF g5 [(1, some a8), (0, some a9)]) (hp8 : gF g8 [(0, .int 0)]) (hp9 : gF g9 [(0, .int 0)]) : Met l ({ cls := "StaveHouseModel", name := "follows", desc := "(IIII)J" } : Jvm.MethodName) (Cond.code ({ cls := "StaveHouseModel", name := "follows", desc := "(IIII)J" } : Jvm.MethodName) prog_15_method_198_code 13 (Option.some Jvm.ClassFile.FieldType.long) :: wAll) ({ frames := 1, cells := 0, slots := 0, locals := 21 } : Room) (va_Pc [.ref a0, .int v0, .int v1, .int v2, .int v3] (gPre D ca ad av [(a0, .inr (14, rg 107 g0)), (a5, .inl (ca 5, 2, .inr (.inr (.inr (.inr g5))))), (a8, .inr (13, rg 81 g8)), (a9, .inr (13, rg 81 g9))] sz)) (Q_M_follows_0 D ca a0 a5 a8 a9 g0 g5 g8 g9 v0 v1 v2 v3 (va_A [(a0, .inr (14, rg 107 g0)), (a5, .inl (ca 5, 2, .inr (.inr (.inr (.inr g5))))), (a8, .inr (13, rg 81 g8)), (a9, .inr (13, rg 81 g9))] sz)) 0 0 (va_A [(a0, .inr (14, rg 107 g0)), (a5, .inl (ca 5, 2, .inr (.inr (.inr (.inr g5))))), (a8, .inr (13, rg 81 g8)), (a9, .inr (13, rg 81 g9))] sz) := by
  refine gMet (Qc := Q_M_follows_0 D ca a0 a5 a8 a9 g0 g5 g8 g9 v0 v1 v2 v3) (lv := [(0, .ref a0), (1, .int v0), (2, .int v1), (3, .int v2), (4, .int v3)]) (by decide) (Nat.le_of_ble_eq_true rfl) rfl (fun A p e s m below meth c ls hx hb hr hml hown hts hlk hnm hl hP hK hD hS hA hX => ?_)
  have hown : s.vm.findClass "StaveHouseModel" = some m.cls := hown
  have hnm : meth.name = "follows" := hnm
  refine lv_aload_n hx hb d_15_198_0 rfl (lv_at hl 0 rfl) ?_
  refine lv_iload_n hx hb d_15_198_1 rfl (lv_at hl 1 rfl) ?_
  have hFc1 := va_free (wc := [(a0, .inr (14, rg 107 g0)), (a5, .inl (ca 5, 2, .inr (.inr (.inr (.inr g5))))), (a8, .inr (13, rg 81 g8)), (a9, .inr (13, rg 81 g9))]) hD hS hA [0, 1, 2, 3] rfl
  refine va_callq (va_runV (As := [.int v0]) (rest := []) ⟨hx, hb, hml, hown, hts⟩ (c_M_piece_0 l D ca ad av s.heap.size a0 a5 a8 a9 g0 g5 g8 g9 v0 (hp0.sub [0] rfl) (hp5.sub [0, 1] rfl) (hp8.sub [0] rfl) (hp9.sub [0] rfl)) (cwV 1 hts (gdV k_12_92 k_12_94 ks_131 k_1_9 k_12_95) rfl rfl rfl (by decide +kernel) ⟨Nat.le_of_ble_eq_true rfl, Nat.le_of_ble_eq_true rfl⟩) (gPV hP hD hK hS hA hX [0, 1, 2, 3] (by decide) rfl a0 [.int v0] 0 (ci := 14) (r := (RX14, TX14, 107)) rfl rfl) rfl rfl hl.1 rfl (lv_room (Nat.le_of_ble_eq_true rfl)) d_15_198_2 ⟨Nat.le_of_ble_eq_true rfl, Nat.le_of_ble_eq_true rfl⟩) hS (fun q _ h => hFc1 q h) hFc1 (fun r1 u1 t1 H1 locs1 ht1 hvm1 hw1 hB1 hz1 hk1 hS1 => ?_)
  have hr1 := hw1
  obtain ⟨hP1, hD1⟩ := gJoin (wr := []) (w1 := [(a0, .inr (14, rg 107 g0)), (a5, .inl (ca 5, 2, .inr (.inr (.inr (.inr g5))))), (a8, .inr (13, rg 81 g8)), (a9, .inr (13, rg 81 g9))]) hP hD [0, 1, 2, 3] [] rfl rfl (by decide) (by decide) hk1 hFc1 ht1 hB1
  have hP1 : va_P D cls [(a0, .inr (14, rg 107 g0)), (a5, .inl (ca 5, 2, .inr (.inr (.inr (.inr g5))))), (a8, .inr (13, rg 81 g8)), (a9, .inr (13, rg 81 g9))] H1 := hP1
  have hD1 : va_D A [(a0, .inr (14, rg 107 g0)), (a5, .inl (ca 5, 2, .inr (.inr (.inr (.inr g5))))), (a8, .inr (13, rg 81 g8)), (a9, .inr (13, rg 81 g9))] := hD1
  refine W.widen (k := 0) (n := 0) (Nat.le_of_ble_eq_true rfl) (Nat.le_of_ble_eq_true rfl) ?_
  subst hr1
  refine W.eq (g2 := F0 m 5 ls [.null]) rfl ?_
  refine lv_astoreN (lv' := [(5, .null), (0, .ref a0), (1, .int v0), (2, .int v1), (3, .int v2), (4, .int v3)]) hx hb d_15_198_5 hl (by decide) rfl (fun ls hl => ?_)
  refine lv_aloadN hx hb d_15_198_7 (lv_at hl 0 rfl) ?_
  refine lv_iload_n hx hb d_15_198_9 rfl (lv_at hl 3 rfl) ?_
  have hFc2 := va_free (wc := []) hD1 hS1 hA [] rfl
  refine va_calli (va_runS (As := [.null, .int v1]) (rest := []) ⟨hx, hb, hml, hown, hts⟩ (c_M_isVoice_0 l D ca ad av H1.size v1 ) (va_cwS 2 hts (gdS k_12_118 k_12_119 k_1_9 k_12_120) rfl rfl rfl (by decide +kernel) ⟨Nat.le_of_ble_eq_true rfl, Nat.le_of_ble_eq_true rfl⟩) (gPS hP1 hD1 hK hS1 hA hX [] (by decide) rfl [.null, .int v1]) rfl rfl hl.1 rfl (lv_room (Nat.le_of_ble_eq_true rfl)) d_15_198_10 ⟨Nat.le_of_ble_eq_true rfl, Nat.le_of_ble_eq_true rfl⟩) hS1 (fun q _ h => hFc2 q h) hFc2 (fun r2 u2 t2 H2 locs2 ht2 hvm2 hw2 hB2 hz2 hk2 hS2 => ?_)
  have hr2 := hw2
  obtain ⟨hP2, hD2⟩ := gJoin (wr := [(a0, .inr (14, rg 107 g0)), (a5, .inl (ca 5, 2, .inr (.inr (.inr (.inr g5))))), (a8, .inr (13, rg 81 g8)), (a9, .inr (13, rg 81 g9))]) (w1 := []) hP1 hD1 [] [0, 1, 2, 3] rfl rfl (by decide) (by decide) hk2 hFc2 ht2 hB2
  have hP2 : va_P D cls [(a0, .inr (14, rg 107 g0)), (a5, .inl (ca 5, 2, .inr (.inr (.inr (.inr g5))))), (a8, .inr (13, rg 81 g8)), (a9, .inr (13, rg 81 g9))] H2 := hP2
  have hD2 : va_D A [(a0, .inr (14, rg 107 g0)), (a5, .inl (ca 5, 2, .inr (.inr (.inr (.inr g5))))), (a8, .inr (13, rg 81 g8)), (a9, .inr (13, rg 81 g9))] := hD2
  refine W.widen (k := 0) (n := 0) (Nat.le_of_ble_eq_true rfl) (Nat.le_of_ble_eq_true rfl) ?_
  subst hr2
  refine lv_if_eq (tgt := 41) hx hb d_15_198_13 (by decide) (fun _ => ?_) (fun c => absurd (by decide) c)
  refine lv_ldc2 hx hb hown (hts _ k_12_105) d_15_198_41 ?_
  have hP9 := hP2.sub (ws' := [(a0, .inr (14, rg 107 g0)), (a5, .inl (ca 5, 2, .inr (.inr (.inr (.inr g5))))), (a8, .inr (13, rg 81 g8)), (a9, .inr (13, rg 81 g9))]) [0, 1, 2, 3] rfl
  have hD9 := hD2.sub (ws' := [(a0, .inr (14, rg 107 g0)), (a5, .inl (ca 5, 2, .inr (.inr (.inr (.inr g5))))), (a8, .inr (13, rg 81 g8)), (a9, .inr (13, rg 81 g9))]) [0, 1, 2, 3] (by decide) rfl
  refine W.widen (k := 0) (n := 0) (Nat.le_of_ble_eq_true rfl) (Nat.le_of_ble_eq_true rfl) ?_
  exact W.lret (v := (-1)) hx hb hr (fun t ht hW => ⟨⟨(-1), (), rfl, rfl, by rw [ht]; exact hP9, va_K.moved hW.alike hK, hD9⟩, hS2.F ht⟩) hS2.2.2 d_15_198_44
abbrev Q_M_shape_0 (D : va_G) (ca : Nat → ClassId) (a0 : Nat) (a5 : Nat) (a8 : Nat) (a9 : Nat) (g0 : Nat → Value) (g5 : Nat → Option Nat) (g8 : Nat → Value) (g9 : Nat → Value) (v0 : Int32) (v1 : Int32) (v2 : Int32) (v3 : Int32) (v4 : Int32) (v5 : Int32) (v6 : Int32) (v7 : Int32) (A : Nat → Prop) : Array Value → State → Outcome → State → Prop := va_Qi (S := Unit) (fun (r : Int32) (u : Unit) => r = (-1)) (fun u => gB D ca A [(a0, .inr (14, rg 107 g0)), (a5, .inl (ca 5, 2, .inr (.inr (.inr (.inr g5))))), (a8, .inr (13, rg 81 g8)), (a9, .inr (13, rg 81 g9))]) A
set_option maxHeartbeats 8000000 in
set_option maxRecDepth 100000 in
theorem c_M_shape_0 (l : Launch) (D : va_G) (ca : Nat → ClassId) (ad av : Nat → Nat) (sz : Nat) (a0 : Nat) (a5 : Nat) (a8 : Nat) (a9 : Nat) (g0 : Nat → Value) (g5 : Nat → Option Nat) (g8 : Nat → Value) (g9 : Nat → Value) (v0 : Int32) (v1 : Int32) (v2 : Int32) (v3 : Int32) (v4 : Int32) (v5 : Int32) (v6 : Int32) (v7 : Int32) (hp0 : gF g0 [(5, .ref a5)]) (hp5 : gF g5 [(1, some a8), (0, some a9)]) (hp8 : gF g8 [(0, .int 0)]) (hp9 : gF g9 [(0, .int 0)]) : Met l ({ cls := "StaveHouseModel", name := "shape", desc := "(IIIIIIII)I" } : Jvm.MethodName) (Cond.code ({ cls := "StaveHouseModel", name := "shape", desc := "(IIIIIIII)I" } : Jvm.MethodName) prog_15_method_199_code 13 (Option.some Jvm.ClassFile.FieldType.int) :: wAll) ({ frames := 1, cells := 0, slots := 0, locals := 21 } : Room) (va_Pc [.ref a0, .int v0, .int v1, .int v2, .int v3, .int v4, .int v5, .int v6, .int v7] (gPre D ca ad av [(a0, .inr (14, rg 107 g0)), (a5, .inl (ca 5, 2, .inr (.inr (.inr (.inr g5))))), (a8, .inr (13, rg 81 g8)), (a9, .inr (13, rg 81 g9))] sz)) (Q_M_shape_0 D ca a0 a5 a8 a9 g0 g5 g8 g9 v0 v1 v2 v3 v4 v5 v6 v7 (va_A [(a0, .inr (14, rg 107 g0)), (a5, .inl (ca 5, 2, .inr (.inr (.inr (.inr g5))))), (a8, .inr (13, rg 81 g8)), (a9, .inr (13, rg 81 g9))] sz)) 0 0 (va_A [(a0, .inr (14, rg 107 g0)), (a5, .inl (ca 5, 2, .inr (.inr (.inr (.inr g5))))), (a8, .inr (13, rg 81 g8)), (a9, .inr (13, rg 81 g9))] sz) := by
  refine gMet (Qc := Q_M_shape_0 D ca a0 a5 a8 a9 g0 g5 g8 g9 v0 v1 v2 v3 v4 v5 v6 v7) (lv := [(0, .ref a0), (1, .int v0), (2, .int v1), (3, .int v2), (4, .int v3), (5, .int v4), (6, .int v5), (7, .int v6), (8, .int v7)]) (by decide) (Nat.le_of_ble_eq_true rfl) rfl (fun A p e s m below meth c ls hx hb hr hml hown hts hlk hnm hl hP hK hD hS hA hX => ?_)
  have hown : s.vm.findClass "StaveHouseModel" = some m.cls := hown
  have hnm : meth.name = "shape" := hnm
  refine lv_aload_n hx hb d_15_199_0 rfl (lv_at hl 0 rfl) ?_
  refine lv_iload_n hx hb d_15_199_1 rfl (lv_at hl 1 rfl) ?_
  have hFc1 := va_free (wc := [(a0, .inr (14, rg 107 g0)), (a5, .inl (ca 5, 2, .inr (.inr (.inr (.inr g5))))), (a8, .inr (13, rg 81 g8)), (a9, .inr (13, rg 81 g9))]) hD hS hA [0, 1, 2, 3] rfl
  refine va_callq (va_runV (As := [.int v0]) (rest := []) ⟨hx, hb, hml, hown, hts⟩ (c_M_piece_0 l D ca ad av s.heap.size a0 a5 a8 a9 g0 g5 g8 g9 v0 (hp0.sub [0] rfl) (hp5.sub [0, 1] rfl) (hp8.sub [0] rfl) (hp9.sub [0] rfl)) (cwV 1 hts (gdV k_12_92 k_12_94 ks_131 k_1_9 k_12_95) rfl rfl rfl (by decide +kernel) ⟨Nat.le_of_ble_eq_true rfl, Nat.le_of_ble_eq_true rfl⟩) (gPV hP hD hK hS hA hX [0, 1, 2, 3] (by decide) rfl a0 [.int v0] 0 (ci := 14) (r := (RX14, TX14, 107)) rfl rfl) rfl rfl hl.1 rfl (lv_room (Nat.le_of_ble_eq_true rfl)) d_15_199_2 ⟨Nat.le_of_ble_eq_true rfl, Nat.le_of_ble_eq_true rfl⟩) hS (fun q _ h => hFc1 q h) hFc1 (fun r1 u1 t1 H1 locs1 ht1 hvm1 hw1 hB1 hz1 hk1 hS1 => ?_)
  have hr1 := hw1
  obtain ⟨hP1, hD1⟩ := gJoin (wr := []) (w1 := [(a0, .inr (14, rg 107 g0)), (a5, .inl (ca 5, 2, .inr (.inr (.inr (.inr g5))))), (a8, .inr (13, rg 81 g8)), (a9, .inr (13, rg 81 g9))]) hP hD [0, 1, 2, 3] [] rfl rfl (by decide) (by decide) hk1 hFc1 ht1 hB1
  have hP1 : va_P D cls [(a0, .inr (14, rg 107 g0)), (a5, .inl (ca 5, 2, .inr (.inr (.inr (.inr g5))))), (a8, .inr (13, rg 81 g8)), (a9, .inr (13, rg 81 g9))] H1 := hP1
  have hD1 : va_D A [(a0, .inr (14, rg 107 g0)), (a5, .inl (ca 5, 2, .inr (.inr (.inr (.inr g5))))), (a8, .inr (13, rg 81 g8)), (a9, .inr (13, rg 81 g9))] := hD1
  refine W.widen (k := 0) (n := 0) (Nat.le_of_ble_eq_true rfl) (Nat.le_of_ble_eq_true rfl) ?_
  subst hr1
  refine W.eq (g2 := F0 m 5 ls [.null]) rfl ?_
  refine lv_astoreN (lv' := [(9, .null), (0, .ref a0), (1, .int v0), (2, .int v1), (3, .int v2), (4, .int v3), (5, .int v4), (6, .int v5), (7, .int v6), (8, .int v7)]) hx hb d_15_199_5 hl (by decide) rfl (fun ls hl => ?_)
  refine lv_aload_n hx hb d_15_199_7 rfl (lv_at hl 1 rfl) ?_
  refine lv_iload hx hb d_15_199_8 (lv_at hl 6 rfl) ?_
  have hFc2 := va_free (wc := [(a0, .inr (14, rg 107 g0)), (a5, .inl (ca 5, 2, .inr (.inr (.inr (.inr g5))))), (a8, .inr (13, rg 81 g8)), (a9, .inr (13, rg 81 g9))]) hD1 hS1 hA [0, 1, 2, 3] rfl
  refine va_callq (va_runV (As := [.int v4]) (rest := []) ⟨hx, hb, hml, hown, hts⟩ (c_M_piece_0 l D ca ad av H1.size a0 a5 a8 a9 g0 g5 g8 g9 v4 (hp0.sub [0] rfl) (hp5.sub [0, 1] rfl) (hp8.sub [0] rfl) (hp9.sub [0] rfl)) (cwV 1 hts (gdV k_12_92 k_12_94 ks_131 k_1_9 k_12_95) rfl rfl rfl (by decide +kernel) ⟨Nat.le_of_ble_eq_true rfl, Nat.le_of_ble_eq_true rfl⟩) (gPV hP1 hD1 hK hS1 hA hX [0, 1, 2, 3] (by decide) rfl a0 [.int v4] 0 (ci := 14) (r := (RX14, TX14, 107)) rfl rfl) rfl rfl hl.1 rfl (lv_room (Nat.le_of_ble_eq_true rfl)) d_15_199_10 ⟨Nat.le_of_ble_eq_true rfl, Nat.le_of_ble_eq_true rfl⟩) hS1 (fun q _ h => hFc2 q h) hFc2 (fun r2 u2 t2 H2 locs2 ht2 hvm2 hw2 hB2 hz2 hk2 hS2 => ?_)
  have hr2 := hw2
  obtain ⟨hP2, hD2⟩ := gJoin (wr := []) (w1 := [(a0, .inr (14, rg 107 g0)), (a5, .inl (ca 5, 2, .inr (.inr (.inr (.inr g5))))), (a8, .inr (13, rg 81 g8)), (a9, .inr (13, rg 81 g9))]) hP1 hD1 [0, 1, 2, 3] [] rfl rfl (by decide) (by decide) hk2 hFc2 ht2 hB2
  have hP2 : va_P D cls [(a0, .inr (14, rg 107 g0)), (a5, .inl (ca 5, 2, .inr (.inr (.inr (.inr g5))))), (a8, .inr (13, rg 81 g8)), (a9, .inr (13, rg 81 g9))] H2 := hP2
  have hD2 : va_D A [(a0, .inr (14, rg 107 g0)), (a5, .inl (ca 5, 2, .inr (.inr (.inr (.inr g5))))), (a8, .inr (13, rg 81 g8)), (a9, .inr (13, rg 81 g9))] := hD2
  refine W.widen (k := 0) (n := 0) (Nat.le_of_ble_eq_true rfl) (Nat.le_of_ble_eq_true rfl) ?_
  subst hr2
  refine W.eq (g2 := F0 m 13 ls [.null]) rfl ?_
  refine lv_astoreN (lv' := [(10, .null), (9, .null), (0, .ref a0), (1, .int v0), (2, .int v1), (3, .int v2), (4, .int v3), (5, .int v4), (6, .int v5), (7, .int v6), (8, .int v7)]) hx hb d_15_199_13 hl (by decide) rfl (fun ls hl => ?_)
  refine lv_aloadN hx hb d_15_199_15 (lv_at hl 1 rfl) ?_
  refine lv_iload_n hx hb d_15_199_17 rfl (lv_at hl 4 rfl) ?_
  have hFc3 := va_free (wc := []) hD2 hS2 hA [] rfl
  refine va_calli (va_runS (As := [.null, .int v1]) (rest := []) ⟨hx, hb, hml, hown, hts⟩ (c_M_isVoice_0 l D ca ad av H2.size v1 ) (va_cwS 2 hts (gdS k_12_118 k_12_119 k_1_9 k_12_120) rfl rfl rfl (by decide +kernel) ⟨Nat.le_of_ble_eq_true rfl, Nat.le_of_ble_eq_true rfl⟩) (gPS hP2 hD2 hK hS2 hA hX [] (by decide) rfl [.null, .int v1]) rfl rfl hl.1 rfl (lv_room (Nat.le_of_ble_eq_true rfl)) d_15_199_18 ⟨Nat.le_of_ble_eq_true rfl, Nat.le_of_ble_eq_true rfl⟩) hS2 (fun q _ h => hFc3 q h) hFc3 (fun r3 u3 t3 H3 locs3 ht3 hvm3 hw3 hB3 hz3 hk3 hS3 => ?_)
  have hr3 := hw3
  obtain ⟨hP3, hD3⟩ := gJoin (wr := [(a0, .inr (14, rg 107 g0)), (a5, .inl (ca 5, 2, .inr (.inr (.inr (.inr g5))))), (a8, .inr (13, rg 81 g8)), (a9, .inr (13, rg 81 g9))]) (w1 := []) hP2 hD2 [] [0, 1, 2, 3] rfl rfl (by decide) (by decide) hk3 hFc3 ht3 hB3
  have hP3 : va_P D cls [(a0, .inr (14, rg 107 g0)), (a5, .inl (ca 5, 2, .inr (.inr (.inr (.inr g5))))), (a8, .inr (13, rg 81 g8)), (a9, .inr (13, rg 81 g9))] H3 := hP3
  have hD3 : va_D A [(a0, .inr (14, rg 107 g0)), (a5, .inl (ca 5, 2, .inr (.inr (.inr (.inr g5))))), (a8, .inr (13, rg 81 g8)), (a9, .inr (13, rg 81 g9))] := hD3
  refine W.widen (k := 0) (n := 0) (Nat.le_of_ble_eq_true rfl) (Nat.le_of_ble_eq_true rfl) ?_
  subst hr3
  refine lv_if_eq (tgt := 64) hx hb d_15_199_21 (by decide) (fun _ => ?_) (fun c => absurd (by decide) c)
  refine lv_iconst (v := (-1)) hx hb d_15_199_64 (by decide) ?_
  have hP9 := hP3.sub (ws' := [(a0, .inr (14, rg 107 g0)), (a5, .inl (ca 5, 2, .inr (.inr (.inr (.inr g5))))), (a8, .inr (13, rg 81 g8)), (a9, .inr (13, rg 81 g9))]) [0, 1, 2, 3] rfl
  have hD9 := hD3.sub (ws' := [(a0, .inr (14, rg 107 g0)), (a5, .inl (ca 5, 2, .inr (.inr (.inr (.inr g5))))), (a8, .inr (13, rg 81 g8)), (a9, .inr (13, rg 81 g9))]) [0, 1, 2, 3] (by decide) rfl
  refine W.widen (k := 0) (n := 0) (Nat.le_of_ble_eq_true rfl) (Nat.le_of_ble_eq_true rfl) ?_
  exact W.iret (v := (-1)) hx hb hr (fun t ht hW => ⟨⟨(-1), (), rfl, rfl, by rw [ht]; exact hP9, va_K.moved hW.alike hK, hD9⟩, hS3.F ht⟩) hS3.2.2 d_15_199_65
