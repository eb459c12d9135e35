theorem k_11_32 : (Jvm.Cond.fieldLink "StaveHouseModel" (171 : Nat) "StaveHouseModel" "marksOf" "[I") ∈ wAll := wA_11 (j := 32) rfl rfl
theorem k_11_17 : (Jvm.Cond.fieldLink "StaveHouseModel" (386 : Nat) "StaveHouseModel" "openMany" "I") ∈ wAll := wA_11 (j := 17) rfl rfl
theorem k_14_140 : (Jvm.Cond.methodLink "StaveHouseModel" (426 : Nat) ({ cls := "StaveHouseModel", name := "number", desc := "(IIZ)I" } : Jvm.MethodName)) ∈ wAll := wA_14 (j := 140) rfl rfl
theorem k_14_142 : (Jvm.Cond.instanceMethod ({ cls := "StaveHouseModel", name := "number", desc := "(IIZ)I" } : Jvm.MethodName)) ∈ wAll := wA_14 (j := 142) rfl rfl
theorem ks_207 : (Jvm.Cond.selects "StaveHouseModel" ({ cls := "StaveHouseModel", name := "number", desc := "(IIZ)I" } : Jvm.MethodName) ({ cls := "StaveHouseModel", name := "number", desc := "(IIZ)I" } : Jvm.MethodName)) ∈ wAll := wA_s (j := 207) rfl rfl
theorem k_14_143 : (Jvm.Cond.code ({ cls := "StaveHouseModel", name := "number", desc := "(IIZ)I" } : Jvm.MethodName) prog_15_method_37_code (5 : Nat) (Option.some Jvm.ClassFile.FieldType.int)) ∈ wAll := wA_14 (j := 143) rfl rfl
theorem k_11_18 : (Jvm.Cond.fieldLink "StaveHouseModel" (436 : Nat) "StaveHouseModel" "nearNumber" "I") ∈ wAll := wA_11 (j := 18) rfl rfl
theorem k_11_19 : (Jvm.Cond.fieldLink "StaveHouseModel" (439 : Nat) "StaveHouseModel" "nearPoints" "I") ∈ wAll := wA_11 (j := 19) rfl rfl
theorem k_14_179 : (Jvm.Cond.methodLink "StaveHouseModel" (479 : Nat) ({ cls := "StaveHouseModel", name := "markHere", desc := "()I" } : Jvm.MethodName)) ∈ wAll := wA_14 (j := 179) rfl rfl
theorem k_14_181 : (Jvm.Cond.instanceMethod ({ cls := "StaveHouseModel", name := "markHere", desc := "()I" } : Jvm.MethodName)) ∈ wAll := wA_14 (j := 181) rfl rfl
theorem ks_216 : (Jvm.Cond.selects "StaveHouseModel" ({ cls := "StaveHouseModel", name := "markHere", desc := "()I" } : Jvm.MethodName) ({ cls := "StaveHouseModel", name := "markHere", desc := "()I" } : Jvm.MethodName)) ∈ wAll := wA_s (j := 216) rfl rfl
theorem k_14_182 : (Jvm.Cond.code ({ cls := "StaveHouseModel", name := "markHere", desc := "()I" } : Jvm.MethodName) prog_15_method_51_code (1 : Nat) (Option.some Jvm.ClassFile.FieldType.int)) ∈ wAll := wA_14 (j := 182) rfl rfl
theorem k_14_144 : (Jvm.Cond.methodLink "StaveHouseModel" (389 : Nat) ({ cls := "StaveHouseModel", name := "need", desc := "(I)V" } : Jvm.MethodName)) ∈ wAll := wA_14 (j := 144) rfl rfl
theorem k_14_146 : (Jvm.Cond.instanceMethod ({ cls := "StaveHouseModel", name := "need", desc := "(I)V" } : Jvm.MethodName)) ∈ wAll := wA_14 (j := 146) rfl rfl
theorem ks_208 : (Jvm.Cond.selects "StaveHouseModel" ({ cls := "StaveHouseModel", name := "need", desc := "(I)V" } : Jvm.MethodName) ({ cls := "StaveHouseModel", name := "need", desc := "(I)V" } : Jvm.MethodName)) ∈ wAll := wA_s (j := 208) rfl rfl
theorem k_14_147 : (Jvm.Cond.code ({ cls := "StaveHouseModel", name := "need", desc := "(I)V" } : Jvm.MethodName) prog_15_method_36_code (2 : Nat) (Option.none : Option Jvm.ClassFile.FieldType)) ∈ wAll := wA_14 (j := 147) rfl rfl
theorem k_11_28 : (Jvm.Cond.fieldLink "StaveHouseModel" (159 : Nat) "StaveHouseModel" "closeOf" "[I") ∈ wAll := wA_11 (j := 28) rfl rfl
theorem k_11_56 : (Jvm.Cond.fieldLink "StaveHouseModel" (193 : Nat) "StaveHouseModel" "knows" "[I") ∈ wAll := wA_11 (j := 56) rfl rfl
theorem k_15_60 : (Jvm.Cond.methodLink "StaveHouseModel" (789 : Nat) ({ cls := "StaveHouseModel", name := "comesOn", desc := "(LStaveHouseModel$Piece;IIII)Z" } : Jvm.MethodName)) ∈ wAll := wA_15 (j := 60) rfl rfl
theorem k_15_62 : (Jvm.Cond.instanceMethod ({ cls := "StaveHouseModel", name := "comesOn", desc := "(LStaveHouseModel$Piece;IIII)Z" } : Jvm.MethodName)) ∈ wAll := wA_15 (j := 62) rfl rfl
theorem ks_243 : (Jvm.Cond.selects "StaveHouseModel" ({ cls := "StaveHouseModel", name := "comesOn", desc := "(LStaveHouseModel$Piece;IIII)Z" } : Jvm.MethodName) ({ cls := "StaveHouseModel", name := "comesOn", desc := "(LStaveHouseModel$Piece;IIII)Z" } : Jvm.MethodName)) ∈ wAll := wA_s (j := 243) rfl rfl
theorem k_15_63 : (Jvm.Cond.code ({ cls := "StaveHouseModel", name := "comesOn", desc := "(LStaveHouseModel$Piece;IIII)Z" } : Jvm.MethodName) prog_15_method_93_code (8 : Nat) (Option.some Jvm.ClassFile.FieldType.boolean)) ∈ wAll := wA_15 (j := 63) rfl rfl
theorem k_15_68 : (Jvm.Cond.methodLink "StaveHouseModel" (796 : Nat) ({ cls := "StaveHouseModel", name := "highest", desc := "(LStaveHouseModel$Piece;II)I" } : Jvm.MethodName)) ∈ wAll := wA_15 (j := 68) rfl rfl
theorem k_15_69 : (Jvm.Cond.static ({ cls := "StaveHouseModel", name := "highest", desc := "(LStaveHouseModel$Piece;II)I" } : Jvm.MethodName)) ∈ wAll := wA_15 (j := 69) rfl rfl
theorem k_15_70 : (Jvm.Cond.code ({ cls := "StaveHouseModel", name := "highest", desc := "(LStaveHouseModel$Piece;II)I" } : Jvm.MethodName) prog_15_method_97_code (3 : Nat) (Option.some Jvm.ClassFile.FieldType.int)) ∈ wAll := wA_15 (j := 70) rfl rfl
theorem k_15_74 : (Jvm.Cond.methodLink "StaveHouseModel" (799 : Nat) ({ cls := "StaveHouseModel", name := "lowest", desc := "(LStaveHouseModel$Piece;II)I" } : Jvm.MethodName)) ∈ wAll := wA_15 (j := 74) rfl rfl
theorem k_15_75 : (Jvm.Cond.static ({ cls := "StaveHouseModel", name := "lowest", desc := "(LStaveHouseModel$Piece;II)I" } : Jvm.MethodName)) ∈ wAll := wA_15 (j := 75) rfl rfl
theorem k_15_76 : (Jvm.Cond.code ({ cls := "StaveHouseModel", name := "lowest", desc := "(LStaveHouseModel$Piece;II)I" } : Jvm.MethodName) prog_15_method_96_code (3 : Nat) (Option.some Jvm.ClassFile.FieldType.int)) ∈ wAll := wA_15 (j := 76) rfl rfl
theorem k_15_139 : (Jvm.Cond.methodLink "StaveHouseModel" (1275 : Nat) ({ cls := "StaveHouseModel", name := "perfect", desc := "(LStaveHouseModel$Piece;II)I" } : Jvm.MethodName)) ∈ wAll := wA_15 (j := 139) rfl rfl
theorem k_15_140 : (Jvm.Cond.static ({ cls := "StaveHouseModel", name := "perfect", desc := "(LStaveHouseModel$Piece;II)I" } : Jvm.MethodName)) ∈ wAll := wA_15 (j := 140) rfl rfl
theorem k_15_141 : (Jvm.Cond.code ({ cls := "StaveHouseModel", name := "perfect", desc := "(LStaveHouseModel$Piece;II)I" } : Jvm.MethodName) prog_15_method_188_code (8 : Nat) (Option.some Jvm.ClassFile.FieldType.int)) ∈ wAll := wA_15 (j := 141) rfl rfl
theorem k_13_48 : (Jvm.Cond.methodLink "StaveHouseModel" (1051 : Nat) ({ cls := "StaveHouseModel", name := "meta", desc := "()Z" } : Jvm.MethodName)) ∈ wAll := wA_13 (j := 48) rfl rfl
theorem k_13_50 : (Jvm.Cond.instanceMethod ({ cls := "StaveHouseModel", name := "meta", desc := "()Z" } : Jvm.MethodName)) ∈ wAll := wA_13 (j := 50) rfl rfl
theorem ks_160 : (Jvm.Cond.selects "StaveHouseModel" ({ cls := "StaveHouseModel", name := "meta", desc := "()Z" } : Jvm.MethodName) ({ cls := "StaveHouseModel", name := "meta", desc := "()Z" } : Jvm.MethodName)) ∈ wAll := wA_s (j := 160) rfl rfl
theorem k_13_51 : (Jvm.Cond.code ({ cls := "StaveHouseModel", name := "meta", desc := "()Z" } : Jvm.MethodName) prog_15_method_148_code (8 : Nat) (Option.some Jvm.ClassFile.FieldType.boolean)) ∈ wAll := wA_13 (j := 51) rfl rfl
theorem k_13_56 : (Jvm.Cond.methodLink "StaveHouseModel" (1057 : Nat) ({ cls := "StaveHouseModel", name := "event", desc := "(IIIIIJI)V" } : Jvm.MethodName)) ∈ wAll := wA_13 (j := 56) rfl rfl
theorem k_13_58 : (Jvm.Cond.instanceMethod ({ cls := "StaveHouseModel", name := "event", desc := "(IIIIIJI)V" } : Jvm.MethodName)) ∈ wAll := wA_13 (j := 58) rfl rfl
theorem ks_162 : (Jvm.Cond.selects "StaveHouseModel" ({ cls := "StaveHouseModel", name := "event", desc := "(IIIIIJI)V" } : Jvm.MethodName) ({ cls := "StaveHouseModel", name := "event", desc := "(IIIIIJI)V" } : Jvm.MethodName)) ∈ wAll := wA_s (j := 162) rfl rfl
theorem k_13_59 : (Jvm.Cond.code ({ cls := "StaveHouseModel", name := "event", desc := "(IIIIIJI)V" } : Jvm.MethodName) prog_15_method_147_code (11 : Nat) (Option.none : Option Jvm.ClassFile.FieldType)) ∈ wAll := wA_13 (j := 59) rfl rfl
theorem d_15_36_0 : decode prog_15_method_36_code 0 = .ok (.aload_n 0, 1) := by decide +kernel
theorem d_15_36_1 : decode prog_15_method_36_code 1 = .ok (.invokevirtual 376, 3) := by decide +kernel
theorem d_15_36_4 : decode prog_15_method_36_code 4 = .ok (.ifCond .ne 4, 3) := by decide +kernel
theorem d_15_36_8 : decode prog_15_method_36_code 8 = .ok (.aload_n 0, 1) := by decide +kernel
theorem d_15_36_9 : decode prog_15_method_36_code 9 = .ok (.iload_n 1, 1) := by decide +kernel
theorem d_15_36_10 : decode prog_15_method_36_code 10 = .ok (.invokevirtual 380, 3) := by decide +kernel
theorem d_15_36_13 : decode prog_15_method_36_code 13 = .ok (.ifCond .eq 16, 3) := by decide +kernel
theorem d_15_36_29 : decode prog_15_method_36_code 29 = .ok (.aload_n 0, 1) := by decide +kernel
theorem d_15_36_30 : decode prog_15_method_36_code 30 = .ok (.invokevirtual 383, 3) := by decide +kernel
theorem d_15_36_16 : decode prog_15_method_36_code 16 = .ok (.aload_n 0, 1) := by decide +kernel
theorem d_15_36_17 : decode prog_15_method_36_code 17 = .ok (.dup, 1) := by decide +kernel
theorem d_15_36_18 : decode prog_15_method_36_code 18 = .ok (.getfield 362, 3) := by decide +kernel
theorem d_15_36_21 : decode prog_15_method_36_code 21 = .ok (.iconst 1, 1) := by decide +kernel
theorem d_15_36_22 : decode prog_15_method_36_code 22 = .ok (.iadd, 1) := by decide +kernel
theorem d_15_36_23 : decode prog_15_method_36_code 23 = .ok (.putfield 362, 3) := by decide +kernel
theorem d_15_36_26 : decode prog_15_method_36_code 26 = .ok (.goto 7, 3) := by decide +kernel
theorem d_15_36_7 : decode prog_15_method_36_code 7 = .ok (.return_, 1) := by decide +kernel
theorem d_15_36_33 : decode prog_15_method_36_code 33 = .ok (.return_, 1) := by decide +kernel
theorem d_15_38_0 : decode prog_15_method_38_code 0 = .ok (.aload_n 0, 1) := by decide +kernel
theorem d_15_38_1 : decode prog_15_method_38_code 1 = .ok (.invokevirtual 376, 3) := by decide +kernel
theorem d_15_38_4 : decode prog_15_method_38_code 4 = .ok (.ifCond .ne 4, 3) := by decide +kernel
theorem d_15_38_8 : decode prog_15_method_38_code 8 = .ok (.aload_n 0, 1) := by decide +kernel
theorem d_15_38_9 : decode prog_15_method_38_code 9 = .ok (.iload_n 1, 1) := by decide +kernel
theorem d_15_38_10 : decode prog_15_method_38_code 10 = .ok (.invokevirtual 380, 3) := by decide +kernel
theorem d_15_38_13 : decode prog_15_method_38_code 13 = .ok (.ifCond .ne 10, 3) := by decide +kernel
theorem d_15_38_23 : decode prog_15_method_38_code 23 = .ok (.aload_n 0, 1) := by decide +kernel
theorem d_15_38_24 : decode prog_15_method_38_code 24 = .ok (.getfield 386, 3) := by decide +kernel
theorem d_15_38_27 : decode prog_15_method_38_code 27 = .ok (.bipush 8, 2) := by decide +kernel
theorem d_15_38_29 : decode prog_15_method_38_code 29 = .ok (.if_icmp .ne 11, 3) := by decide +kernel
theorem d_15_38_40 : decode prog_15_method_38_code 40 = .ok (.aload_n 0, 1) := by decide +kernel
theorem d_15_38_41 : decode prog_15_method_38_code 41 = .ok (.dup, 1) := by decide +kernel
theorem d_15_38_42 : decode prog_15_method_38_code 42 = .ok (.getfield 386, 3) := by decide +kernel
theorem d_15_38_45 : decode prog_15_method_38_code 45 = .ok (.iconst 1, 1) := by decide +kernel
theorem d_15_38_46 : decode prog_15_method_38_code 46 = .ok (.iadd, 1) := by decide +kernel
theorem d_15_38_47 : decode prog_15_method_38_code 47 = .ok (.putfield 386, 3) := by decide +kernel
theorem d_15_38_50 : decode prog_15_method_38_code 50 = .ok (.aload_n 0, 1) := by decide +kernel
theorem d_15_38_51 : decode prog_15_method_38_code 51 = .ok (.dup, 1) := by decide +kernel
theorem d_15_38_52 : decode prog_15_method_38_code 52 = .ok (.getfield 362, 3) := by decide +kernel
theorem d_15_38_55 : decode prog_15_method_38_code 55 = .ok (.iconst 1, 1) := by decide +kernel
theorem d_15_38_56 : decode prog_15_method_38_code 56 = .ok (.iadd, 1) := by decide +kernel
theorem d_15_38_57 : decode prog_15_method_38_code 57 = .ok (.putfield 362, 3) := by decide +kernel
theorem d_15_38_32 : decode prog_15_method_38_code 32 = .ok (.aload_n 0, 1) := by decide +kernel
theorem d_15_38_33 : decode prog_15_method_38_code 33 = .ok (.iconst 3, 1) := by decide +kernel
theorem d_15_38_34 : decode prog_15_method_38_code 34 = .ok (.invokevirtual 368, 3) := by decide +kernel
theorem d_15_38_37 : decode prog_15_method_38_code 37 = .ok (.goto 23, 3) := by decide +kernel
theorem d_15_38_16 : decode prog_15_method_38_code 16 = .ok (.aload_n 0, 1) := by decide +kernel
theorem d_15_38_17 : decode prog_15_method_38_code 17 = .ok (.invokevirtual 383, 3) := by decide +kernel
theorem d_15_38_20 : decode prog_15_method_38_code 20 = .ok (.goto 40, 3) := by decide +kernel
theorem d_15_38_7 : decode prog_15_method_38_code 7 = .ok (.return_, 1) := by decide +kernel
theorem d_15_38_60 : decode prog_15_method_38_code 60 = .ok (.return_, 1) := by decide +kernel
theorem d_15_50_0 : decode prog_15_method_50_code 0 = .ok (.aload_n 0, 1) := by decide +kernel
theorem d_15_50_1 : decode prog_15_method_50_code 1 = .ok (.invokevirtual 376, 3) := by decide +kernel
theorem d_15_50_4 : decode prog_15_method_50_code 4 = .ok (.ifCond .eq 80, 3) := by decide +kernel
theorem d_15_50_7 : decode prog_15_method_50_code 7 = .ok (.aload_n 0, 1) := by decide +kernel
theorem d_15_50_8 : decode prog_15_method_50_code 8 = .ok (.bipush 58, 2) := by decide +kernel
theorem d_15_50_10 : decode prog_15_method_50_code 10 = .ok (.invokevirtual 380, 3) := by decide +kernel
theorem d_15_50_13 : decode prog_15_method_50_code 13 = .ok (.ifCond .eq 71, 3) := by decide +kernel
theorem d_15_50_16 : decode prog_15_method_50_code 16 = .ok (.aload_n 0, 1) := by decide +kernel
theorem d_15_50_17 : decode prog_15_method_50_code 17 = .ok (.dup, 1) := by decide +kernel
theorem d_15_50_18 : decode prog_15_method_50_code 18 = .ok (.getfield 362, 3) := by decide +kernel
theorem d_15_50_21 : decode prog_15_method_50_code 21 = .ok (.iconst 1, 1) := by decide +kernel
theorem d_15_50_22 : decode prog_15_method_50_code 22 = .ok (.iadd, 1) := by decide +kernel
theorem d_15_50_23 : decode prog_15_method_50_code 23 = .ok (.putfield 362, 3) := by decide +kernel
theorem d_15_50_26 : decode prog_15_method_50_code 26 = .ok (.aload_n 0, 1) := by decide +kernel
theorem d_15_50_27 : decode prog_15_method_50_code 27 = .ok (.iconst 1, 1) := by decide +kernel
theorem d_15_50_28 : decode prog_15_method_50_code 28 = .ok (.bipush 32, 2) := by decide +kernel
theorem d_15_50_30 : decode prog_15_method_50_code 30 = .ok (.iconst 1, 1) := by decide +kernel
theorem d_15_50_31 : decode prog_15_method_50_code 31 = .ok (.invokevirtual 426, 3) := by decide +kernel
theorem d_15_50_34 : decode prog_15_method_50_code 34 = .ok (.istore_n 2, 1) := by decide +kernel
theorem d_15_50_35 : decode prog_15_method_50_code 35 = .ok (.iconst 0, 1) := by decide +kernel
theorem d_15_50_36 : decode prog_15_method_50_code 36 = .ok (.istore_n 3, 1) := by decide +kernel
theorem d_15_50_37 : decode prog_15_method_50_code 37 = .ok (.aload_n 0, 1) := by decide +kernel
theorem d_15_50_38 : decode prog_15_method_50_code 38 = .ok (.invokevirtual 376, 3) := by decide +kernel
theorem d_15_50_41 : decode prog_15_method_50_code 41 = .ok (.ifCond .eq 33, 3) := by decide +kernel
theorem d_15_50_44 : decode prog_15_method_50_code 44 = .ok (.iload_n 3, 1) := by decide +kernel
theorem d_15_50_45 : decode prog_15_method_50_code 45 = .ok (.iconst 2, 1) := by decide +kernel
theorem d_15_50_46 : decode prog_15_method_50_code 46 = .ok (.if_icmp .ge 28, 3) := by decide +kernel
theorem d_15_50_49 : decode prog_15_method_50_code 49 = .ok (.aload_n 0, 1) := by decide +kernel
theorem d_15_50_50 : decode prog_15_method_50_code 50 = .ok (.bipush 46, 2) := by decide +kernel
theorem d_15_50_52 : decode prog_15_method_50_code 52 = .ok (.invokevirtual 380, 3) := by decide +kernel
theorem d_15_50_55 : decode prog_15_method_50_code 55 = .ok (.ifCond .eq 19, 3) := by decide +kernel
theorem d_15_50_58 : decode prog_15_method_50_code 58 = .ok (.iinc 3 1, 3) := by decide +kernel
theorem d_15_50_61 : decode prog_15_method_50_code 61 = .ok (.aload_n 0, 1) := by decide +kernel
theorem d_15_50_62 : decode prog_15_method_50_code 62 = .ok (.dup, 1) := by decide +kernel
theorem d_15_50_63 : decode prog_15_method_50_code 63 = .ok (.getfield 362, 3) := by decide +kernel
theorem d_15_50_66 : decode prog_15_method_50_code 66 = .ok (.iconst 1, 1) := by decide +kernel
theorem d_15_50_67 : decode prog_15_method_50_code 67 = .ok (.iadd, 1) := by decide +kernel
theorem d_15_50_68 : decode prog_15_method_50_code 68 = .ok (.putfield 362, 3) := by decide +kernel
theorem d_15_50_71 : decode prog_15_method_50_code 71 = .ok (.goto (-34), 3) := by decide +kernel
theorem d_15_50_74 : decode prog_15_method_50_code 74 = .ok (.aload_n 0, 1) := by decide +kernel
theorem d_15_50_75 : decode prog_15_method_50_code 75 = .ok (.iload_n 2, 1) := by decide +kernel
theorem d_15_50_76 : decode prog_15_method_50_code 76 = .ok (.putfield 436, 3) := by decide +kernel
theorem d_15_50_79 : decode prog_15_method_50_code 79 = .ok (.aload_n 0, 1) := by decide +kernel
theorem d_15_50_80 : decode prog_15_method_50_code 80 = .ok (.iload_n 3, 1) := by decide +kernel
theorem d_15_50_81 : decode prog_15_method_50_code 81 = .ok (.putfield 439, 3) := by decide +kernel
theorem d_15_50_84 : decode prog_15_method_50_code 84 = .ok (.aload_n 0, 1) := by decide +kernel
theorem d_15_50_85 : decode prog_15_method_50_code 85 = .ok (.getfield 165, 3) := by decide +kernel
theorem d_15_50_88 : decode prog_15_method_50_code 88 = .ok (.iload_n 1, 1) := by decide +kernel
theorem d_15_50_89 : decode prog_15_method_50_code 89 = .ok (.aload_n 0, 1) := by decide +kernel
theorem d_15_50_90 : decode prog_15_method_50_code 90 = .ok (.getfield 436, 3) := by decide +kernel
theorem d_15_50_93 : decode prog_15_method_50_code 93 = .ok (.iastore, 1) := by decide +kernel
theorem d_15_50_94 : decode prog_15_method_50_code 94 = .ok (.aload_n 0, 1) := by decide +kernel
theorem d_15_50_95 : decode prog_15_method_50_code 95 = .ok (.getfield 168, 3) := by decide +kernel
theorem d_15_50_98 : decode prog_15_method_50_code 98 = .ok (.iload_n 1, 1) := by decide +kernel
theorem d_15_50_99 : decode prog_15_method_50_code 99 = .ok (.aload_n 0, 1) := by decide +kernel
theorem d_15_50_100 : decode prog_15_method_50_code 100 = .ok (.getfield 439, 3) := by decide +kernel
theorem d_15_50_103 : decode prog_15_method_50_code 103 = .ok (.iastore, 1) := by decide +kernel
theorem d_15_50_104 : decode prog_15_method_50_code 104 = .ok (.return_, 1) := by decide +kernel
theorem d_15_52_0 : decode prog_15_method_52_code 0 = .ok (.aload_n 0, 1) := by decide +kernel
theorem d_15_52_1 : decode prog_15_method_52_code 1 = .ok (.getfield 171, 3) := by decide +kernel
theorem d_15_52_4 : decode prog_15_method_52_code 4 = .ok (.iload_n 1, 1) := by decide +kernel
theorem d_15_52_5 : decode prog_15_method_52_code 5 = .ok (.iconst 0, 1) := by decide +kernel
theorem d_15_52_6 : decode prog_15_method_52_code 6 = .ok (.iastore, 1) := by decide +kernel
theorem d_15_52_7 : decode prog_15_method_52_code 7 = .ok (.aload_n 0, 1) := by decide +kernel
theorem d_15_52_8 : decode prog_15_method_52_code 8 = .ok (.invokevirtual 376, 3) := by decide +kernel
theorem d_15_52_11 : decode prog_15_method_52_code 11 = .ok (.ifCond .eq 57, 3) := by decide +kernel
theorem d_15_52_14 : decode prog_15_method_52_code 14 = .ok (.aload_n 0, 1) := by decide +kernel
theorem d_15_52_15 : decode prog_15_method_52_code 15 = .ok (.invokevirtual 479, 3) := by decide +kernel
theorem d_15_52_18 : decode prog_15_method_52_code 18 = .ok (.ifCond .le 50, 3) := by decide +kernel
theorem d_15_52_21 : decode prog_15_method_52_code 21 = .ok (.aload_n 0, 1) := by decide +kernel
theorem d_15_52_22 : decode prog_15_method_52_code 22 = .ok (.getfield 171, 3) := by decide +kernel
theorem d_15_52_25 : decode prog_15_method_52_code 25 = .ok (.iload_n 1, 1) := by decide +kernel
theorem d_15_52_26 : decode prog_15_method_52_code 26 = .ok (.iaload, 1) := by decide +kernel
theorem d_15_52_27 : decode prog_15_method_52_code 27 = .ok (.aload_n 0, 1) := by decide +kernel
theorem d_15_52_28 : decode prog_15_method_52_code 28 = .ok (.invokevirtual 479, 3) := by decide +kernel
theorem d_15_52_31 : decode prog_15_method_52_code 31 = .ok (.iand, 1) := by decide +kernel
theorem d_15_52_32 : decode prog_15_method_52_code 32 = .ok (.ifCond .le 10, 3) := by decide +kernel
theorem d_15_52_42 : decode prog_15_method_52_code 42 = .ok (.aload_n 0, 1) := by decide +kernel
theorem d_15_52_43 : decode prog_15_method_52_code 43 = .ok (.getfield 171, 3) := by decide +kernel
theorem d_15_52_46 : decode prog_15_method_52_code 46 = .ok (.iload_n 1, 1) := by decide +kernel
theorem d_15_52_47 : decode prog_15_method_52_code 47 = .ok (.dup2, 1) := by decide +kernel
theorem d_15_52_48 : decode prog_15_method_52_code 48 = .ok (.iaload, 1) := by decide +kernel
theorem d_15_52_49 : decode prog_15_method_52_code 49 = .ok (.aload_n 0, 1) := by decide +kernel
theorem d_15_52_50 : decode prog_15_method_52_code 50 = .ok (.invokevirtual 479, 3) := by decide +kernel
theorem d_15_52_53 : decode prog_15_method_52_code 53 = .ok (.ior, 1) := by decide +kernel
theorem d_15_52_54 : decode prog_15_method_52_code 54 = .ok (.iastore, 1) := by decide +kernel
theorem d_15_52_55 : decode prog_15_method_52_code 55 = .ok (.aload_n 0, 1) := by decide +kernel
theorem d_15_52_56 : decode prog_15_method_52_code 56 = .ok (.dup, 1) := by decide +kernel
theorem d_15_52_57 : decode prog_15_method_52_code 57 = .ok (.getfield 362, 3) := by decide +kernel
theorem d_15_52_60 : decode prog_15_method_52_code 60 = .ok (.iconst 1, 1) := by decide +kernel
theorem d_15_52_61 : decode prog_15_method_52_code 61 = .ok (.iadd, 1) := by decide +kernel
theorem d_15_52_62 : decode prog_15_method_52_code 62 = .ok (.putfield 362, 3) := by decide +kernel
theorem d_15_52_65 : decode prog_15_method_52_code 65 = .ok (.goto (-58), 3) := by decide +kernel
theorem d_15_52_35 : decode prog_15_method_52_code 35 = .ok (.aload_n 0, 1) := by decide +kernel
theorem d_15_52_36 : decode prog_15_method_52_code 36 = .ok (.invokevirtual 383, 3) := by decide +kernel
theorem d_15_52_39 : decode prog_15_method_52_code 39 = .ok (.goto (-32), 3) := by decide +kernel
theorem d_15_52_68 : decode prog_15_method_52_code 68 = .ok (.return_, 1) := by decide +kernel
theorem d_15_47_0 : decode prog_15_method_47_code 0 = .ok (.aload_n 0, 1) := by decide +kernel
theorem d_15_47_1 : decode prog_15_method_47_code 1 = .ok (.dup, 1) := by decide +kernel
theorem d_15_47_2 : decode prog_15_method_47_code 2 = .ok (.getfield 362, 3) := by decide +kernel
theorem d_15_47_5 : decode prog_15_method_47_code 5 = .ok (.iconst 1, 1) := by decide +kernel
theorem d_15_47_6 : decode prog_15_method_47_code 6 = .ok (.iadd, 1) := by decide +kernel
theorem d_15_47_7 : decode prog_15_method_47_code 7 = .ok (.putfield 362, 3) := by decide +kernel
theorem d_15_47_10 : decode prog_15_method_47_code 10 = .ok (.iconst 0, 1) := by decide +kernel
theorem d_15_47_11 : decode prog_15_method_47_code 11 = .ok (.istore_n 1, 1) := by decide +kernel
theorem d_15_47_12 : decode prog_15_method_47_code 12 = .ok (.aload_n 0, 1) := by decide +kernel
theorem d_15_47_13 : decode prog_15_method_47_code 13 = .ok (.invokevirtual 376, 3) := by decide +kernel
theorem d_15_47_16 : decode prog_15_method_47_code 16 = .ok (.ifCond .eq 45, 3) := by decide +kernel
theorem d_15_47_19 : decode prog_15_method_47_code 19 = .ok (.aload_n 0, 1) := by decide +kernel
theorem d_15_47_20 : decode prog_15_method_47_code 20 = .ok (.getfield 48, 3) := by decide +kernel
theorem d_15_47_23 : decode prog_15_method_47_code 23 = .ok (.aload_n 0, 1) := by decide +kernel
theorem d_15_47_24 : decode prog_15_method_47_code 24 = .ok (.getfield 362, 3) := by decide +kernel
theorem d_15_47_27 : decode prog_15_method_47_code 27 = .ok (.iaload, 1) := by decide +kernel
theorem d_15_47_28 : decode prog_15_method_47_code 28 = .ok (.iconst 2, 1) := by decide +kernel
theorem d_15_47_29 : decode prog_15_method_47_code 29 = .ok (.if_icmp .ne 32, 3) := by decide +kernel
theorem d_15_47_32 : decode prog_15_method_47_code 32 = .ok (.iload_n 1, 1) := by decide +kernel
theorem d_15_47_33 : decode prog_15_method_47_code 33 = .ok (.bipush 6, 2) := by decide +kernel
theorem d_15_47_35 : decode prog_15_method_47_code 35 = .ok (.if_icmp .ne 10, 3) := by decide +kernel
theorem d_15_47_45 : decode prog_15_method_47_code 45 = .ok (.iinc 1 1, 3) := by decide +kernel
theorem d_15_47_48 : decode prog_15_method_47_code 48 = .ok (.aload_n 0, 1) := by decide +kernel
theorem d_15_47_49 : decode prog_15_method_47_code 49 = .ok (.dup, 1) := by decide +kernel
theorem d_15_47_50 : decode prog_15_method_47_code 50 = .ok (.getfield 362, 3) := by decide +kernel
theorem d_15_47_53 : decode prog_15_method_47_code 53 = .ok (.iconst 1, 1) := by decide +kernel
theorem d_15_47_54 : decode prog_15_method_47_code 54 = .ok (.iadd, 1) := by decide +kernel
theorem d_15_47_55 : decode prog_15_method_47_code 55 = .ok (.putfield 362, 3) := by decide +kernel
theorem d_15_47_58 : decode prog_15_method_47_code 58 = .ok (.goto (-46), 3) := by decide +kernel
theorem d_15_47_38 : decode prog_15_method_47_code 38 = .ok (.aload_n 0, 1) := by decide +kernel
theorem d_15_47_39 : decode prog_15_method_47_code 39 = .ok (.invokevirtual 383, 3) := by decide +kernel
theorem d_15_47_42 : decode prog_15_method_47_code 42 = .ok (.goto (-30), 3) := by decide +kernel
theorem d_15_47_61 : decode prog_15_method_47_code 61 = .ok (.aload_n 0, 1) := by decide +kernel
theorem d_15_47_62 : decode prog_15_method_47_code 62 = .ok (.invokevirtual 376, 3) := by decide +kernel
theorem d_15_47_65 : decode prog_15_method_47_code 65 = .ok (.ifCond .eq 12, 3) := by decide +kernel
theorem d_15_47_68 : decode prog_15_method_47_code 68 = .ok (.iload_n 1, 1) := by decide +kernel
theorem d_15_47_69 : decode prog_15_method_47_code 69 = .ok (.iconst 2, 1) := by decide +kernel
theorem d_15_47_70 : decode prog_15_method_47_code 70 = .ok (.if_icmp .ge 7, 3) := by decide +kernel
theorem d_15_47_73 : decode prog_15_method_47_code 73 = .ok (.aload_n 0, 1) := by decide +kernel
theorem d_15_47_74 : decode prog_15_method_47_code 74 = .ok (.invokevirtual 383, 3) := by decide +kernel
theorem d_15_47_77 : decode prog_15_method_47_code 77 = .ok (.aload_n 0, 1) := by decide +kernel
theorem d_15_47_78 : decode prog_15_method_47_code 78 = .ok (.bipush 62, 2) := by decide +kernel
theorem d_15_47_80 : decode prog_15_method_47_code 80 = .ok (.invokevirtual 389, 3) := by decide +kernel
theorem d_15_47_83 : decode prog_15_method_47_code 83 = .ok (.return_, 1) := by decide +kernel
theorem d_15_39_0 : decode prog_15_method_39_code 0 = .ok (.aload_n 0, 1) := by decide +kernel
theorem d_15_39_1 : decode prog_15_method_39_code 1 = .ok (.invokevirtual 376, 3) := by decide +kernel
theorem d_15_39_4 : decode prog_15_method_39_code 4 = .ok (.ifCond .ne 4, 3) := by decide +kernel
theorem d_15_39_8 : decode prog_15_method_39_code 8 = .ok (.aload_n 0, 1) := by decide +kernel
theorem d_15_39_9 : decode prog_15_method_39_code 9 = .ok (.getfield 159, 3) := by decide +kernel
theorem d_15_39_12 : decode prog_15_method_39_code 12 = .ok (.iload_n 1, 1) := by decide +kernel
theorem d_15_39_13 : decode prog_15_method_39_code 13 = .ok (.aload_n 0, 1) := by decide +kernel
theorem d_15_39_14 : decode prog_15_method_39_code 14 = .ok (.getfield 362, 3) := by decide +kernel
theorem d_15_39_17 : decode prog_15_method_39_code 17 = .ok (.iastore, 1) := by decide +kernel
theorem d_15_39_18 : decode prog_15_method_39_code 18 = .ok (.aload_n 0, 1) := by decide +kernel
theorem d_15_39_19 : decode prog_15_method_39_code 19 = .ok (.iload_n 2, 1) := by decide +kernel
theorem d_15_39_20 : decode prog_15_method_39_code 20 = .ok (.invokevirtual 389, 3) := by decide +kernel
theorem d_15_39_23 : decode prog_15_method_39_code 23 = .ok (.aload_n 0, 1) := by decide +kernel
theorem d_15_39_24 : decode prog_15_method_39_code 24 = .ok (.dup, 1) := by decide +kernel
theorem d_15_39_25 : decode prog_15_method_39_code 25 = .ok (.getfield 386, 3) := by decide +kernel
theorem d_15_39_28 : decode prog_15_method_39_code 28 = .ok (.iconst 1, 1) := by decide +kernel
theorem d_15_39_29 : decode prog_15_method_39_code 29 = .ok (.isub, 1) := by decide +kernel
theorem d_15_39_30 : decode prog_15_method_39_code 30 = .ok (.putfield 386, 3) := by decide +kernel
theorem d_15_39_33 : decode prog_15_method_39_code 33 = .ok (.return_, 1) := by decide +kernel
theorem d_15_39_7 : decode prog_15_method_39_code 7 = .ok (.return_, 1) := by decide +kernel
theorem d_15_94_0 : decode prog_15_method_94_code 0 = .ok (.iconst (-1), 1) := by decide +kernel
theorem d_15_94_1 : decode prog_15_method_94_code 1 = .ok (.istore_n 3, 1) := by decide +kernel
theorem d_15_94_2 : decode prog_15_method_94_code 2 = .ok (.iconst 0, 1) := by decide +kernel
theorem d_15_94_3 : decode prog_15_method_94_code 3 = .ok (.istore 4, 2) := by decide +kernel
theorem d_15_94_5 : decode prog_15_method_94_code 5 = .ok (.iload 4, 2) := by decide +kernel
theorem d_15_94_7 : decode prog_15_method_94_code 7 = .ok (.aload_n 1, 1) := by decide +kernel
theorem d_15_94_8 : decode prog_15_method_94_code 8 = .ok (.getfield 723, 3) := by decide +kernel
theorem d_15_94_11 : decode prog_15_method_94_code 11 = .ok (.iload_n 2, 1) := by decide +kernel
theorem d_15_94_12 : decode prog_15_method_94_code 12 = .ok (.iaload, 1) := by decide +kernel
theorem d_15_94_13 : decode prog_15_method_94_code 13 = .ok (.if_icmp .ge 199, 3) := by decide +kernel
theorem d_15_94_212 : decode prog_15_method_94_code 212 = .ok (.return_, 1) := by decide +kernel
theorem d_15_94_16 : decode prog_15_method_94_code 16 = .ok (.sipush 800, 3) := by decide +kernel
theorem d_15_94_19 : decode prog_15_method_94_code 19 = .ok (.iload_n 2, 1) := by decide +kernel
theorem d_15_94_20 : decode prog_15_method_94_code 20 = .ok (.imul, 1) := by decide +kernel
theorem d_15_94_21 : decode prog_15_method_94_code 21 = .ok (.iload 4, 2) := by decide +kernel
theorem d_15_94_23 : decode prog_15_method_94_code 23 = .ok (.iadd, 1) := by decide +kernel
theorem d_15_94_24 : decode prog_15_method_94_code 24 = .ok (.istore 5, 2) := by decide +kernel
theorem d_15_94_26 : decode prog_15_method_94_code 26 = .ok (.aload_n 1, 1) := by decide +kernel
theorem d_15_94_27 : decode prog_15_method_94_code 27 = .ok (.getfield 749, 3) := by decide +kernel
theorem d_15_94_30 : decode prog_15_method_94_code 30 = .ok (.iload 5, 2) := by decide +kernel
theorem d_15_94_32 : decode prog_15_method_94_code 32 = .ok (.iaload, 1) := by decide +kernel
theorem d_15_94_33 : decode prog_15_method_94_code 33 = .ok (.iload_n 3, 1) := by decide +kernel
theorem d_15_94_34 : decode prog_15_method_94_code 34 = .ok (.if_icmp .eq 46, 3) := by decide +kernel
theorem d_15_94_37 : decode prog_15_method_94_code 37 = .ok (.iconst 0, 1) := by decide +kernel
theorem d_15_94_38 : decode prog_15_method_94_code 38 = .ok (.istore 6, 2) := by decide +kernel
theorem d_15_94_40 : decode prog_15_method_94_code 40 = .ok (.iload 6, 2) := by decide +kernel
theorem d_15_94_42 : decode prog_15_method_94_code 42 = .ok (.bipush 63, 2) := by decide +kernel
theorem d_15_94_44 : decode prog_15_method_94_code 44 = .ok (.if_icmp .ge 28, 3) := by decide +kernel
theorem d_15_94_72 : decode prog_15_method_94_code 72 = .ok (.aload_n 1, 1) := by decide +kernel
theorem d_15_94_73 : decode prog_15_method_94_code 73 = .ok (.getfield 749, 3) := by decide +kernel
theorem d_15_94_76 : decode prog_15_method_94_code 76 = .ok (.iload 5, 2) := by decide +kernel
theorem d_15_94_78 : decode prog_15_method_94_code 78 = .ok (.iaload, 1) := by decide +kernel
theorem d_15_94_79 : decode prog_15_method_94_code 79 = .ok (.istore_n 3, 1) := by decide +kernel
theorem d_15_94_47 : decode prog_15_method_94_code 47 = .ok (.aload_n 0, 1) := by decide +kernel
theorem d_15_94_48 : decode prog_15_method_94_code 48 = .ok (.getfield 193, 3) := by decide +kernel
theorem d_15_94_51 : decode prog_15_method_94_code 51 = .ok (.iload 6, 2) := by decide +kernel
theorem d_15_94_53 : decode prog_15_method_94_code 53 = .ok (.aload_n 1, 1) := by decide +kernel
theorem d_15_94_54 : decode prog_15_method_94_code 54 = .ok (.getfield 310, 3) := by decide +kernel
theorem d_15_94_57 : decode prog_15_method_94_code 57 = .ok (.iload 6, 2) := by decide +kernel
theorem d_15_94_59 : decode prog_15_method_94_code 59 = .ok (.bipush 7, 2) := by decide +kernel
theorem d_15_94_61 : decode prog_15_method_94_code 61 = .ok (.irem, 1) := by decide +kernel
theorem d_15_94_62 : decode prog_15_method_94_code 62 = .ok (.invokestatic 784, 3) := by decide +kernel
theorem d_15_94_65 : decode prog_15_method_94_code 65 = .ok (.iastore, 1) := by decide +kernel
theorem d_15_94_66 : decode prog_15_method_94_code 66 = .ok (.iinc 6 1, 3) := by decide +kernel
theorem d_15_94_69 : decode prog_15_method_94_code 69 = .ok (.goto (-29), 3) := by decide +kernel
theorem d_15_94_80 : decode prog_15_method_94_code 80 = .ok (.aload_n 1, 1) := by decide +kernel
theorem d_15_94_81 : decode prog_15_method_94_code 81 = .ok (.getfield 787, 3) := by decide +kernel
theorem d_15_94_84 : decode prog_15_method_94_code 84 = .ok (.iload 5, 2) := by decide +kernel
theorem d_15_94_86 : decode prog_15_method_94_code 86 = .ok (.iconst 0, 1) := by decide +kernel
theorem d_15_94_87 : decode prog_15_method_94_code 87 = .ok (.iastore, 1) := by decide +kernel
theorem d_15_94_88 : decode prog_15_method_94_code 88 = .ok (.aload_n 1, 1) := by decide +kernel
theorem d_15_94_89 : decode prog_15_method_94_code 89 = .ok (.iload_n 2, 1) := by decide +kernel
theorem d_15_94_90 : decode prog_15_method_94_code 90 = .ok (.iload 4, 2) := by decide +kernel
theorem d_15_94_92 : decode prog_15_method_94_code 92 = .ok (.invokestatic 778, 3) := by decide +kernel
theorem d_15_94_95 : decode prog_15_method_94_code 95 = .ok (.istore 6, 2) := by decide +kernel
theorem d_15_94_97 : decode prog_15_method_94_code 97 = .ok (.iconst 0, 1) := by decide +kernel
theorem d_15_94_98 : decode prog_15_method_94_code 98 = .ok (.istore 7, 2) := by decide +kernel
theorem d_15_94_100 : decode prog_15_method_94_code 100 = .ok (.iload 6, 2) := by decide +kernel
theorem d_15_94_102 : decode prog_15_method_94_code 102 = .ok (.ifCond .lt 104, 3) := by decide +kernel
theorem d_15_94_105 : decode prog_15_method_94_code 105 = .ok (.iload 7, 2) := by decide +kernel
theorem d_15_94_107 : decode prog_15_method_94_code 107 = .ok (.aload_n 1, 1) := by decide +kernel
theorem d_15_94_108 : decode prog_15_method_94_code 108 = .ok (.getfield 598, 3) := by decide +kernel
theorem d_15_94_111 : decode prog_15_method_94_code 111 = .ok (.iload 6, 2) := by decide +kernel
theorem d_15_94_113 : decode prog_15_method_94_code 113 = .ok (.iaload, 1) := by decide +kernel
theorem d_15_94_114 : decode prog_15_method_94_code 114 = .ok (.if_icmp .ge 92, 3) := by decide +kernel
theorem d_15_94_117 : decode prog_15_method_94_code 117 = .ok (.aload_n 1, 1) := by decide +kernel
theorem d_15_94_118 : decode prog_15_method_94_code 118 = .ok (.getfield 615, 3) := by decide +kernel
theorem d_15_94_121 : decode prog_15_method_94_code 121 = .ok (.bipush 6, 2) := by decide +kernel
theorem d_15_94_123 : decode prog_15_method_94_code 123 = .ok (.iload 6, 2) := by decide +kernel
theorem d_15_94_125 : decode prog_15_method_94_code 125 = .ok (.imul, 1) := by decide +kernel
theorem d_15_94_126 : decode prog_15_method_94_code 126 = .ok (.iload 7, 2) := by decide +kernel
theorem d_15_94_128 : decode prog_15_method_94_code 128 = .ok (.iadd, 1) := by decide +kernel
theorem d_15_94_129 : decode prog_15_method_94_code 129 = .ok (.iaload, 1) := by decide +kernel
theorem d_15_94_130 : decode prog_15_method_94_code 130 = .ok (.istore 8, 2) := by decide +kernel
theorem d_15_94_132 : decode prog_15_method_94_code 132 = .ok (.aload_n 1, 1) := by decide +kernel
theorem d_15_94_133 : decode prog_15_method_94_code 133 = .ok (.getfield 618, 3) := by decide +kernel
theorem d_15_94_136 : decode prog_15_method_94_code 136 = .ok (.bipush 6, 2) := by decide +kernel
theorem d_15_94_138 : decode prog_15_method_94_code 138 = .ok (.iload 6, 2) := by decide +kernel
theorem d_15_94_140 : decode prog_15_method_94_code 140 = .ok (.imul, 1) := by decide +kernel
theorem d_15_94_141 : decode prog_15_method_94_code 141 = .ok (.iload 7, 2) := by decide +kernel
theorem d_15_94_143 : decode prog_15_method_94_code 143 = .ok (.iadd, 1) := by decide +kernel
theorem d_15_94_144 : decode prog_15_method_94_code 144 = .ok (.iaload, 1) := by decide +kernel
theorem d_15_94_145 : decode prog_15_method_94_code 145 = .ok (.istore 9, 2) := by decide +kernel
theorem d_15_94_147 : decode prog_15_method_94_code 147 = .ok (.aload_n 0, 1) := by decide +kernel
theorem d_15_94_148 : decode prog_15_method_94_code 148 = .ok (.aload_n 1, 1) := by decide +kernel
theorem d_15_94_149 : decode prog_15_method_94_code 149 = .ok (.iload_n 2, 1) := by decide +kernel
theorem d_15_94_150 : decode prog_15_method_94_code 150 = .ok (.iload 4, 2) := by decide +kernel
theorem d_15_94_152 : decode prog_15_method_94_code 152 = .ok (.iload 8, 2) := by decide +kernel
theorem d_15_94_154 : decode prog_15_method_94_code 154 = .ok (.iload 9, 2) := by decide +kernel
theorem d_15_94_156 : decode prog_15_method_94_code 156 = .ok (.invokevirtual 789, 3) := by decide +kernel
theorem d_15_94_159 : decode prog_15_method_94_code 159 = .ok (.ifCond .ne 41, 3) := by decide +kernel
theorem d_15_94_162 : decode prog_15_method_94_code 162 = .ok (.aload_n 0, 1) := by decide +kernel
theorem d_15_94_163 : decode prog_15_method_94_code 163 = .ok (.getfield 193, 3) := by decide +kernel
theorem d_15_94_166 : decode prog_15_method_94_code 166 = .ok (.iload 8, 2) := by decide +kernel
theorem d_15_94_168 : decode prog_15_method_94_code 168 = .ok (.iaload, 1) := by decide +kernel
theorem d_15_94_169 : decode prog_15_method_94_code 169 = .ok (.iload 9, 2) := by decide +kernel
theorem d_15_94_171 : decode prog_15_method_94_code 171 = .ok (.if_icmp .ne 6, 3) := by decide +kernel
theorem d_15_94_177 : decode prog_15_method_94_code 177 = .ok (.aload_n 1, 1) := by decide +kernel
theorem d_15_94_178 : decode prog_15_method_94_code 178 = .ok (.getfield 787, 3) := by decide +kernel
theorem d_15_94_181 : decode prog_15_method_94_code 181 = .ok (.iload 5, 2) := by decide +kernel
theorem d_15_94_183 : decode prog_15_method_94_code 183 = .ok (.dup2, 1) := by decide +kernel
theorem d_15_94_184 : decode prog_15_method_94_code 184 = .ok (.iaload, 1) := by decide +kernel
theorem d_15_94_185 : decode prog_15_method_94_code 185 = .ok (.iconst 1, 1) := by decide +kernel
theorem d_15_94_186 : decode prog_15_method_94_code 186 = .ok (.iload 7, 2) := by decide +kernel
theorem d_15_94_188 : decode prog_15_method_94_code 188 = .ok (.ishl, 1) := by decide +kernel
theorem d_15_94_189 : decode prog_15_method_94_code 189 = .ok (.ior, 1) := by decide +kernel
theorem d_15_94_190 : decode prog_15_method_94_code 190 = .ok (.iastore, 1) := by decide +kernel
theorem d_15_94_191 : decode prog_15_method_94_code 191 = .ok (.aload_n 0, 1) := by decide +kernel
theorem d_15_94_192 : decode prog_15_method_94_code 192 = .ok (.getfield 193, 3) := by decide +kernel
theorem d_15_94_195 : decode prog_15_method_94_code 195 = .ok (.iload 8, 2) := by decide +kernel
theorem d_15_94_197 : decode prog_15_method_94_code 197 = .ok (.iload 9, 2) := by decide +kernel
theorem d_15_94_199 : decode prog_15_method_94_code 199 = .ok (.iastore, 1) := by decide +kernel
theorem d_15_94_174 : decode prog_15_method_94_code 174 = .ok (.goto 26, 3) := by decide +kernel
theorem d_15_94_200 : decode prog_15_method_94_code 200 = .ok (.iinc 7 1, 3) := by decide +kernel
theorem d_15_94_203 : decode prog_15_method_94_code 203 = .ok (.goto (-103), 3) := by decide +kernel
theorem d_15_94_206 : decode prog_15_method_94_code 206 = .ok (.iinc 4 1, 3) := by decide +kernel
theorem d_15_94_209 : decode prog_15_method_94_code 209 = .ok (.goto (-204), 3) := by decide +kernel
theorem d_15_98_0 : decode prog_15_method_98_code 0 = .ok (.aload_n 1, 1) := by decide +kernel
theorem d_15_98_1 : decode prog_15_method_98_code 1 = .ok (.iload_n 2, 1) := by decide +kernel
theorem d_15_98_2 : decode prog_15_method_98_code 2 = .ok (.iload_n 3, 1) := by decide +kernel
theorem d_15_98_3 : decode prog_15_method_98_code 3 = .ok (.invokestatic 778, 3) := by decide +kernel
theorem d_15_98_6 : decode prog_15_method_98_code 6 = .ok (.istore 4, 2) := by decide +kernel
theorem d_15_98_8 : decode prog_15_method_98_code 8 = .ok (.iload 4, 2) := by decide +kernel
theorem d_15_98_10 : decode prog_15_method_98_code 10 = .ok (.ifCond .ge 5, 3) := by decide +kernel
theorem d_15_98_15 : decode prog_15_method_98_code 15 = .ok (.aload_n 1, 1) := by decide +kernel
theorem d_15_98_16 : decode prog_15_method_98_code 16 = .ok (.iload_n 2, 1) := by decide +kernel
theorem d_15_98_17 : decode prog_15_method_98_code 17 = .ok (.iload 4, 2) := by decide +kernel
theorem d_15_98_19 : decode prog_15_method_98_code 19 = .ok (.invokestatic 796, 3) := by decide +kernel
theorem d_15_98_22 : decode prog_15_method_98_code 22 = .ok (.istore 5, 2) := by decide +kernel
theorem d_15_98_24 : decode prog_15_method_98_code 24 = .ok (.aload_n 1, 1) := by decide +kernel
theorem d_15_98_25 : decode prog_15_method_98_code 25 = .ok (.iload_n 2, 1) := by decide +kernel
theorem d_15_98_26 : decode prog_15_method_98_code 26 = .ok (.iload 4, 2) := by decide +kernel
theorem d_15_98_28 : decode prog_15_method_98_code 28 = .ok (.invokestatic 799, 3) := by decide +kernel
theorem d_15_98_31 : decode prog_15_method_98_code 31 = .ok (.istore 6, 2) := by decide +kernel
theorem d_15_98_33 : decode prog_15_method_98_code 33 = .ok (.iload 5, 2) := by decide +kernel
theorem d_15_98_35 : decode prog_15_method_98_code 35 = .ok (.bipush 8, 2) := by decide +kernel
theorem d_15_98_37 : decode prog_15_method_98_code 37 = .ok (.if_icmp .le 13, 3) := by decide +kernel
theorem d_15_98_50 : decode prog_15_method_98_code 50 = .ok (.iconst 0, 1) := by decide +kernel
theorem d_15_98_40 : decode prog_15_method_98_code 40 = .ok (.iload 5, 2) := by decide +kernel
theorem d_15_98_42 : decode prog_15_method_98_code 42 = .ok (.bipush 8, 2) := by decide +kernel
theorem d_15_98_44 : decode prog_15_method_98_code 44 = .ok (.isub, 1) := by decide +kernel
theorem d_15_98_45 : decode prog_15_method_98_code 45 = .ok (.iconst 2, 1) := by decide +kernel
theorem d_15_98_46 : decode prog_15_method_98_code 46 = .ok (.idiv, 1) := by decide +kernel
theorem d_15_98_47 : decode prog_15_method_98_code 47 = .ok (.goto 4, 3) := by decide +kernel
theorem d_15_98_13 : decode prog_15_method_98_code 13 = .ok (.iconst 0, 1) := by decide +kernel
theorem d_15_98_14 : decode prog_15_method_98_code 14 = .ok (.ireturn, 1) := by decide +kernel
theorem d_15_98_51 : decode prog_15_method_98_code 51 = .ok (.iload 6, 2) := by decide +kernel
theorem d_15_98_53 : decode prog_15_method_98_code 53 = .ok (.ifCond .ge 11, 3) := by decide +kernel
theorem d_15_98_64 : decode prog_15_method_98_code 64 = .ok (.iconst 0, 1) := by decide +kernel
theorem d_15_98_56 : decode prog_15_method_98_code 56 = .ok (.iload 6, 2) := by decide +kernel
theorem d_15_98_58 : decode prog_15_method_98_code 58 = .ok (.ineg, 1) := by decide +kernel
theorem d_15_98_59 : decode prog_15_method_98_code 59 = .ok (.iconst 2, 1) := by decide +kernel
theorem d_15_98_60 : decode prog_15_method_98_code 60 = .ok (.idiv, 1) := by decide +kernel
theorem d_15_98_61 : decode prog_15_method_98_code 61 = .ok (.goto 4, 3) := by decide +kernel
theorem d_15_98_65 : decode prog_15_method_98_code 65 = .ok (.iadd, 1) := by decide +kernel
theorem d_15_98_66 : decode prog_15_method_98_code 66 = .ok (.ireturn, 1) := by decide +kernel
theorem d_15_189_0 : decode prog_15_method_189_code 0 = .ok (.aload_n 0, 1) := by decide +kernel
theorem d_15_189_1 : decode prog_15_method_189_code 1 = .ok (.iload_n 1, 1) := by decide +kernel
theorem d_15_189_2 : decode prog_15_method_189_code 2 = .ok (.iload_n 3, 1) := by decide +kernel
theorem d_15_189_3 : decode prog_15_method_189_code 3 = .ok (.invokestatic 1269, 3) := by decide +kernel
theorem d_15_189_6 : decode prog_15_method_189_code 6 = .ok (.istore 5, 2) := by decide +kernel
theorem d_15_189_8 : decode prog_15_method_189_code 8 = .ok (.aload_n 0, 1) := by decide +kernel
theorem d_15_189_9 : decode prog_15_method_189_code 9 = .ok (.iload_n 1, 1) := by decide +kernel
theorem d_15_189_10 : decode prog_15_method_189_code 10 = .ok (.iload 4, 2) := by decide +kernel
theorem d_15_189_12 : decode prog_15_method_189_code 12 = .ok (.invokestatic 1269, 3) := by decide +kernel
theorem d_15_189_15 : decode prog_15_method_189_code 15 = .ok (.istore 6, 2) := by decide +kernel
theorem d_15_189_17 : decode prog_15_method_189_code 17 = .ok (.aload_n 0, 1) := by decide +kernel
theorem d_15_189_18 : decode prog_15_method_189_code 18 = .ok (.iload_n 1, 1) := by decide +kernel
theorem d_15_189_19 : decode prog_15_method_189_code 19 = .ok (.iconst 1, 1) := by decide +kernel
theorem d_15_189_20 : decode prog_15_method_189_code 20 = .ok (.isub, 1) := by decide +kernel
theorem d_15_189_21 : decode prog_15_method_189_code 21 = .ok (.iload_n 3, 1) := by decide +kernel
theorem d_15_189_22 : decode prog_15_method_189_code 22 = .ok (.invokestatic 1269, 3) := by decide +kernel
theorem d_15_189_25 : decode prog_15_method_189_code 25 = .ok (.istore 7, 2) := by decide +kernel
theorem d_15_189_27 : decode prog_15_method_189_code 27 = .ok (.aload_n 0, 1) := by decide +kernel
theorem d_15_189_28 : decode prog_15_method_189_code 28 = .ok (.iload_n 1, 1) := by decide +kernel
theorem d_15_189_29 : decode prog_15_method_189_code 29 = .ok (.iconst 1, 1) := by decide +kernel
theorem d_15_189_30 : decode prog_15_method_189_code 30 = .ok (.isub, 1) := by decide +kernel
theorem d_15_189_31 : decode prog_15_method_189_code 31 = .ok (.iload 4, 2) := by decide +kernel
theorem d_15_189_33 : decode prog_15_method_189_code 33 = .ok (.invokestatic 1269, 3) := by decide +kernel
theorem d_15_189_36 : decode prog_15_method_189_code 36 = .ok (.istore 8, 2) := by decide +kernel
theorem d_15_189_38 : decode prog_15_method_189_code 38 = .ok (.iload 5, 2) := by decide +kernel
theorem d_15_189_40 : decode prog_15_method_189_code 40 = .ok (.ifCond .lt 37, 3) := by decide +kernel
theorem d_15_189_43 : decode prog_15_method_189_code 43 = .ok (.iload 6, 2) := by decide +kernel
theorem d_15_189_45 : decode prog_15_method_189_code 45 = .ok (.ifCond .lt 32, 3) := by decide +kernel
theorem d_15_189_48 : decode prog_15_method_189_code 48 = .ok (.iload 7, 2) := by decide +kernel
theorem d_15_189_50 : decode prog_15_method_189_code 50 = .ok (.ifCond .lt 27, 3) := by decide +kernel
theorem d_15_189_53 : decode prog_15_method_189_code 53 = .ok (.iload 8, 2) := by decide +kernel
theorem d_15_189_55 : decode prog_15_method_189_code 55 = .ok (.ifCond .lt 22, 3) := by decide +kernel
theorem d_15_189_58 : decode prog_15_method_189_code 58 = .ok (.aload_n 0, 1) := by decide +kernel
theorem d_15_189_59 : decode prog_15_method_189_code 59 = .ok (.iload_n 1, 1) := by decide +kernel
theorem d_15_189_60 : decode prog_15_method_189_code 60 = .ok (.iload_n 3, 1) := by decide +kernel
theorem d_15_189_61 : decode prog_15_method_189_code 61 = .ok (.invokestatic 1272, 3) := by decide +kernel
theorem d_15_189_64 : decode prog_15_method_189_code 64 = .ok (.ifCond .eq 13, 3) := by decide +kernel
theorem d_15_189_67 : decode prog_15_method_189_code 67 = .ok (.aload_n 0, 1) := by decide +kernel
theorem d_15_189_68 : decode prog_15_method_189_code 68 = .ok (.iload_n 1, 1) := by decide +kernel
theorem d_15_189_69 : decode prog_15_method_189_code 69 = .ok (.iload 4, 2) := by decide +kernel
theorem d_15_189_71 : decode prog_15_method_189_code 71 = .ok (.invokestatic 1272, 3) := by decide +kernel
theorem d_15_189_74 : decode prog_15_method_189_code 74 = .ok (.ifCond .ne 5, 3) := by decide +kernel
theorem d_15_189_79 : decode prog_15_method_189_code 79 = .ok (.aload_n 0, 1) := by decide +kernel
theorem d_15_189_80 : decode prog_15_method_189_code 80 = .ok (.iload 5, 2) := by decide +kernel
theorem d_15_189_82 : decode prog_15_method_189_code 82 = .ok (.invokestatic 1266, 3) := by decide +kernel
theorem d_15_189_85 : decode prog_15_method_189_code 85 = .ok (.aload_n 0, 1) := by decide +kernel
theorem d_15_189_86 : decode prog_15_method_189_code 86 = .ok (.iload 7, 2) := by decide +kernel
theorem d_15_189_88 : decode prog_15_method_189_code 88 = .ok (.invokestatic 1266, 3) := by decide +kernel
theorem d_15_189_91 : decode prog_15_method_189_code 91 = .ok (.isub, 1) := by decide +kernel
theorem d_15_189_92 : decode prog_15_method_189_code 92 = .ok (.istore 9, 2) := by decide +kernel
theorem d_15_189_94 : decode prog_15_method_189_code 94 = .ok (.aload_n 0, 1) := by decide +kernel
theorem d_15_189_95 : decode prog_15_method_189_code 95 = .ok (.iload 6, 2) := by decide +kernel
theorem d_15_189_97 : decode prog_15_method_189_code 97 = .ok (.invokestatic 1266, 3) := by decide +kernel
theorem d_15_189_100 : decode prog_15_method_189_code 100 = .ok (.aload_n 0, 1) := by decide +kernel
theorem d_15_189_101 : decode prog_15_method_189_code 101 = .ok (.iload 8, 2) := by decide +kernel
theorem d_15_189_103 : decode prog_15_method_189_code 103 = .ok (.invokestatic 1266, 3) := by decide +kernel
theorem d_15_189_106 : decode prog_15_method_189_code 106 = .ok (.isub, 1) := by decide +kernel
theorem d_15_189_107 : decode prog_15_method_189_code 107 = .ok (.istore 10, 2) := by decide +kernel
theorem d_15_189_109 : decode prog_15_method_189_code 109 = .ok (.iload 9, 2) := by decide +kernel
theorem d_15_189_111 : decode prog_15_method_189_code 111 = .ok (.ifCond .le 8, 3) := by decide +kernel
theorem d_15_189_114 : decode prog_15_method_189_code 114 = .ok (.iload 10, 2) := by decide +kernel
theorem d_15_189_116 : decode prog_15_method_189_code 116 = .ok (.ifCond .gt 13, 3) := by decide +kernel
theorem d_15_189_77 : decode prog_15_method_189_code 77 = .ok (.iconst 0, 1) := by decide +kernel
theorem d_15_189_78 : decode prog_15_method_189_code 78 = .ok (.ireturn, 1) := by decide +kernel
theorem d_15_189_119 : decode prog_15_method_189_code 119 = .ok (.iload 9, 2) := by decide +kernel
theorem d_15_189_121 : decode prog_15_method_189_code 121 = .ok (.ifCond .ge 12, 3) := by decide +kernel
theorem d_15_189_124 : decode prog_15_method_189_code 124 = .ok (.iload 10, 2) := by decide +kernel
theorem d_15_189_126 : decode prog_15_method_189_code 126 = .ok (.ifCond .ge 7, 3) := by decide +kernel
theorem d_15_189_129 : decode prog_15_method_189_code 129 = .ok (.iconst 1, 1) := by decide +kernel
theorem d_15_189_130 : decode prog_15_method_189_code 130 = .ok (.goto 4, 3) := by decide +kernel
theorem d_15_189_134 : decode prog_15_method_189_code 134 = .ok (.istore 11, 2) := by decide +kernel
theorem d_15_189_136 : decode prog_15_method_189_code 136 = .ok (.iload 11, 2) := by decide +kernel
theorem d_15_189_138 : decode prog_15_method_189_code 138 = .ok (.ifCond .ne 5, 3) := by decide +kernel
theorem d_15_189_143 : decode prog_15_method_189_code 143 = .ok (.aload_n 0, 1) := by decide +kernel
theorem d_15_189_144 : decode prog_15_method_189_code 144 = .ok (.iload 5, 2) := by decide +kernel
theorem d_15_189_146 : decode prog_15_method_189_code 146 = .ok (.iload 6, 2) := by decide +kernel
theorem d_15_189_148 : decode prog_15_method_189_code 148 = .ok (.invokestatic 1275, 3) := by decide +kernel
theorem d_15_189_151 : decode prog_15_method_189_code 151 = .ok (.istore 12, 2) := by decide +kernel
theorem d_15_189_153 : decode prog_15_method_189_code 153 = .ok (.aload_n 0, 1) := by decide +kernel
theorem d_15_189_154 : decode prog_15_method_189_code 154 = .ok (.iload 7, 2) := by decide +kernel
theorem d_15_189_156 : decode prog_15_method_189_code 156 = .ok (.iload 8, 2) := by decide +kernel
theorem d_15_189_158 : decode prog_15_method_189_code 158 = .ok (.invokestatic 1275, 3) := by decide +kernel
theorem d_15_189_161 : decode prog_15_method_189_code 161 = .ok (.istore 13, 2) := by decide +kernel
theorem d_15_189_163 : decode prog_15_method_189_code 163 = .ok (.iload_n 2, 1) := by decide +kernel
theorem d_15_189_164 : decode prog_15_method_189_code 164 = .ok (.iconst 3, 1) := by decide +kernel
theorem d_15_189_165 : decode prog_15_method_189_code 165 = .ok (.if_icmp .ge 21, 3) := by decide +kernel
theorem d_15_189_186 : decode prog_15_method_189_code 186 = .ok (.aload_n 0, 1) := by decide +kernel
theorem d_15_189_187 : decode prog_15_method_189_code 187 = .ok (.iload 5, 2) := by decide +kernel
theorem d_15_189_189 : decode prog_15_method_189_code 189 = .ok (.invokestatic 1266, 3) := by decide +kernel
theorem d_15_189_192 : decode prog_15_method_189_code 192 = .ok (.aload_n 0, 1) := by decide +kernel
theorem d_15_189_193 : decode prog_15_method_189_code 193 = .ok (.iload 6, 2) := by decide +kernel
theorem d_15_189_195 : decode prog_15_method_189_code 195 = .ok (.invokestatic 1266, 3) := by decide +kernel
theorem d_15_189_198 : decode prog_15_method_189_code 198 = .ok (.if_icmp .lt 21, 3) := by decide +kernel
theorem d_15_189_219 : decode prog_15_method_189_code 219 = .ok (.aload_n 0, 1) := by decide +kernel
theorem d_15_189_220 : decode prog_15_method_189_code 220 = .ok (.getfield 615, 3) := by decide +kernel
theorem d_15_189_223 : decode prog_15_method_189_code 223 = .ok (.iload 6, 2) := by decide +kernel
theorem d_15_189_225 : decode prog_15_method_189_code 225 = .ok (.iaload, 1) := by decide +kernel
theorem d_15_189_226 : decode prog_15_method_189_code 226 = .ok (.aload_n 0, 1) := by decide +kernel
theorem d_15_189_227 : decode prog_15_method_189_code 227 = .ok (.getfield 615, 3) := by decide +kernel
theorem d_15_189_230 : decode prog_15_method_189_code 230 = .ok (.iload 8, 2) := by decide +kernel
theorem d_15_189_232 : decode prog_15_method_189_code 232 = .ok (.iaload, 1) := by decide +kernel
theorem d_15_189_233 : decode prog_15_method_189_code 233 = .ok (.isub, 1) := by decide +kernel
theorem d_15_189_201 : decode prog_15_method_189_code 201 = .ok (.aload_n 0, 1) := by decide +kernel
theorem d_15_189_202 : decode prog_15_method_189_code 202 = .ok (.getfield 615, 3) := by decide +kernel
theorem d_15_189_205 : decode prog_15_method_189_code 205 = .ok (.iload 5, 2) := by decide +kernel
theorem d_15_189_207 : decode prog_15_method_189_code 207 = .ok (.iaload, 1) := by decide +kernel
theorem d_15_189_208 : decode prog_15_method_189_code 208 = .ok (.aload_n 0, 1) := by decide +kernel
theorem d_15_189_209 : decode prog_15_method_189_code 209 = .ok (.getfield 615, 3) := by decide +kernel
theorem d_15_189_212 : decode prog_15_method_189_code 212 = .ok (.iload 7, 2) := by decide +kernel
theorem d_15_189_214 : decode prog_15_method_189_code 214 = .ok (.iaload, 1) := by decide +kernel
theorem d_15_189_215 : decode prog_15_method_189_code 215 = .ok (.isub, 1) := by decide +kernel
theorem d_15_189_216 : decode prog_15_method_189_code 216 = .ok (.goto 18, 3) := by decide +kernel
theorem d_15_189_168 : decode prog_15_method_189_code 168 = .ok (.iload 12, 2) := by decide +kernel
theorem d_15_189_170 : decode prog_15_method_189_code 170 = .ok (.iload_n 2, 1) := by decide +kernel
theorem d_15_189_171 : decode prog_15_method_189_code 171 = .ok (.if_icmp .ne 13, 3) := by decide +kernel
theorem d_15_189_174 : decode prog_15_method_189_code 174 = .ok (.iload 13, 2) := by decide +kernel
theorem d_15_189_176 : decode prog_15_method_189_code 176 = .ok (.iload_n 2, 1) := by decide +kernel
theorem d_15_189_177 : decode prog_15_method_189_code 177 = .ok (.if_icmp .ne 7, 3) := by decide +kernel
theorem d_15_189_180 : decode prog_15_method_189_code 180 = .ok (.iconst 1, 1) := by decide +kernel
theorem d_15_189_181 : decode prog_15_method_189_code 181 = .ok (.goto 4, 3) := by decide +kernel
theorem d_15_189_141 : decode prog_15_method_189_code 141 = .ok (.iconst 0, 1) := by decide +kernel
theorem d_15_189_142 : decode prog_15_method_189_code 142 = .ok (.ireturn, 1) := by decide +kernel
theorem d_15_189_185 : decode prog_15_method_189_code 185 = .ok (.ireturn, 1) := by decide +kernel
theorem d_15_189_184 : decode prog_15_method_189_code 184 = .ok (.iconst 0, 1) := by decide +kernel
theorem d_15_189_234 : decode prog_15_method_189_code 234 = .ok (.istore 14, 2) := by decide +kernel
theorem d_15_189_236 : decode prog_15_method_189_code 236 = .ok (.iload 12, 2) := by decide +kernel
theorem d_15_189_238 : decode prog_15_method_189_code 238 = .ok (.ifCond .le 27, 3) := by decide +kernel
theorem d_15_189_241 : decode prog_15_method_189_code 241 = .ok (.iload 13, 2) := by decide +kernel
theorem d_15_189_243 : decode prog_15_method_189_code 243 = .ok (.iload 12, 2) := by decide +kernel
theorem d_15_189_245 : decode prog_15_method_189_code 245 = .ok (.if_icmp .eq 20, 3) := by decide +kernel
theorem d_15_189_248 : decode prog_15_method_189_code 248 = .ok (.iload 14, 2) := by decide +kernel
theorem d_15_189_250 : decode prog_15_method_189_code 250 = .ok (.iconst 2, 1) := by decide +kernel
theorem d_15_189_251 : decode prog_15_method_189_code 251 = .ok (.if_icmp .gt 10, 3) := by decide +kernel
theorem d_15_189_254 : decode prog_15_method_189_code 254 = .ok (.iload 14, 2) := by decide +kernel
theorem d_15_189_256 : decode prog_15_method_189_code 256 = .ok (.bipush (-2), 2) := by decide +kernel
theorem d_15_189_258 : decode prog_15_method_189_code 258 = .ok (.if_icmp .ge 7, 3) := by decide +kernel
theorem d_15_189_261 : decode prog_15_method_189_code 261 = .ok (.iconst 1, 1) := by decide +kernel
theorem d_15_189_262 : decode prog_15_method_189_code 262 = .ok (.goto 4, 3) := by decide +kernel
theorem d_15_189_266 : decode prog_15_method_189_code 266 = .ok (.ireturn, 1) := by decide +kernel
theorem d_15_189_265 : decode prog_15_method_189_code 265 = .ok (.iconst 0, 1) := by decide +kernel
theorem d_15_189_133 : decode prog_15_method_189_code 133 = .ok (.iconst 0, 1) := by decide +kernel
theorem d_15_119_0 : decode prog_15_method_119_code 0 = .ok (.sipush 1000, 3) := by decide +kernel
theorem d_15_119_3 : decode prog_15_method_119_code 3 = .ok (.iload_n 2, 1) := by decide +kernel
theorem d_15_119_4 : decode prog_15_method_119_code 4 = .ok (.imul, 1) := by decide +kernel
theorem d_15_119_5 : decode prog_15_method_119_code 5 = .ok (.iload_n 3, 1) := by decide +kernel
theorem d_15_119_6 : decode prog_15_method_119_code 6 = .ok (.iadd, 1) := by decide +kernel
theorem d_15_119_7 : decode prog_15_method_119_code 7 = .ok (.istore 6, 2) := by decide +kernel
theorem d_15_119_9 : decode prog_15_method_119_code 9 = .ok (.aload_n 1, 1) := by decide +kernel
theorem d_15_119_10 : decode prog_15_method_119_code 10 = .ok (.getfield 521, 3) := by decide +kernel
theorem d_15_119_13 : decode prog_15_method_119_code 13 = .ok (.iload 6, 2) := by decide +kernel
theorem d_15_119_15 : decode prog_15_method_119_code 15 = .ok (.laload, 1) := by decide +kernel
theorem d_15_119_16 : decode prog_15_method_119_code 16 = .ok (.aload_n 1, 1) := by decide +kernel
theorem d_15_119_17 : decode prog_15_method_119_code 17 = .ok (.getfield 524, 3) := by decide +kernel
theorem d_15_119_20 : decode prog_15_method_119_code 20 = .ok (.iload 6, 2) := by decide +kernel
theorem d_15_119_22 : decode prog_15_method_119_code 22 = .ok (.laload, 1) := by decide +kernel
theorem d_15_119_23 : decode prog_15_method_119_code 23 = .ok (.invokestatic 885, 3) := by decide +kernel
theorem d_15_119_26 : decode prog_15_method_119_code 26 = .ok (.istore 7, 2) := by decide +kernel
theorem d_15_119_28 : decode prog_15_method_119_code 28 = .ok (.aload_n 0, 1) := by decide +kernel
theorem d_15_119_29 : decode prog_15_method_119_code 29 = .ok (.aload_n 1, 1) := by decide +kernel
theorem d_15_119_30 : decode prog_15_method_119_code 30 = .ok (.iload 6, 2) := by decide +kernel
theorem d_15_119_32 : decode prog_15_method_119_code 32 = .ok (.invokevirtual 902, 3) := by decide +kernel
theorem d_15_119_35 : decode prog_15_method_119_code 35 = .ok (.istore 8, 2) := by decide +kernel
theorem d_15_119_37 : decode prog_15_method_119_code 37 = .ok (.iload 4, 2) := by decide +kernel
theorem d_15_119_39 : decode prog_15_method_119_code 39 = .ok (.iload 5, 2) := by decide +kernel
theorem d_15_119_41 : decode prog_15_method_119_code 41 = .ok (.invokestatic 575, 3) := by decide +kernel
theorem d_15_119_44 : decode prog_15_method_119_code 44 = .ok (.istore 9, 2) := by decide +kernel
theorem d_15_119_46 : decode prog_15_method_119_code 46 = .ok (.iload 4, 2) := by decide +kernel
theorem d_15_119_48 : decode prog_15_method_119_code 48 = .ok (.bipush 62, 2) := by decide +kernel
theorem d_15_119_50 : decode prog_15_method_119_code 50 = .ok (.if_icmp .ne 8, 3) := by decide +kernel
theorem d_15_119_58 : decode prog_15_method_119_code 58 = .ok (.iload 4, 2) := by decide +kernel
theorem d_15_119_60 : decode prog_15_method_119_code 60 = .ok (.iconst 1, 1) := by decide +kernel
theorem d_15_119_61 : decode prog_15_method_119_code 61 = .ok (.iadd, 1) := by decide +kernel
theorem d_15_119_62 : decode prog_15_method_119_code 62 = .ok (.aload_n 1, 1) := by decide +kernel
theorem d_15_119_63 : decode prog_15_method_119_code 63 = .ok (.getfield 310, 3) := by decide +kernel
theorem d_15_119_66 : decode prog_15_method_119_code 66 = .ok (.iload 4, 2) := by decide +kernel
theorem d_15_119_68 : decode prog_15_method_119_code 68 = .ok (.iconst 1, 1) := by decide +kernel
theorem d_15_119_69 : decode prog_15_method_119_code 69 = .ok (.iadd, 1) := by decide +kernel
theorem d_15_119_70 : decode prog_15_method_119_code 70 = .ok (.bipush 7, 2) := by decide +kernel
theorem d_15_119_72 : decode prog_15_method_119_code 72 = .ok (.irem, 1) := by decide +kernel
theorem d_15_119_73 : decode prog_15_method_119_code 73 = .ok (.invokestatic 784, 3) := by decide +kernel
theorem d_15_119_76 : decode prog_15_method_119_code 76 = .ok (.invokestatic 575, 3) := by decide +kernel
theorem d_15_119_53 : decode prog_15_method_119_code 53 = .ok (.iload 9, 2) := by decide +kernel
theorem d_15_119_55 : decode prog_15_method_119_code 55 = .ok (.goto 24, 3) := by decide +kernel
theorem d_15_119_79 : decode prog_15_method_119_code 79 = .ok (.istore 10, 2) := by decide +kernel
theorem d_15_119_81 : decode prog_15_method_119_code 81 = .ok (.iconst 0, 1) := by decide +kernel
theorem d_15_119_82 : decode prog_15_method_119_code 82 = .ok (.istore 11, 2) := by decide +kernel
theorem d_15_119_84 : decode prog_15_method_119_code 84 = .ok (.iload 7, 2) := by decide +kernel
theorem d_15_119_86 : decode prog_15_method_119_code 86 = .ok (.istore 12, 2) := by decide +kernel
theorem d_15_119_88 : decode prog_15_method_119_code 88 = .ok (.iload 12, 2) := by decide +kernel
theorem d_15_119_90 : decode prog_15_method_119_code 90 = .ok (.iload 8, 2) := by decide +kernel
theorem d_15_119_92 : decode prog_15_method_119_code 92 = .ok (.if_icmp .ge 68, 3) := by decide +kernel
theorem d_15_119_160 : decode prog_15_method_119_code 160 = .ok (.return_, 1) := by decide +kernel
theorem d_15_119_95 : decode prog_15_method_119_code 95 = .ok (.aload_n 0, 1) := by decide +kernel
theorem d_15_119_96 : decode prog_15_method_119_code 96 = .ok (.iload 12, 2) := by decide +kernel
theorem d_15_119_98 : decode prog_15_method_119_code 98 = .ok (.iload 12, 2) := by decide +kernel
theorem d_15_119_100 : decode prog_15_method_119_code 100 = .ok (.bipush 12, 2) := by decide +kernel
theorem d_15_119_102 : decode prog_15_method_119_code 102 = .ok (.iadd, 1) := by decide +kernel
theorem d_15_119_103 : decode prog_15_method_119_code 103 = .ok (.iload 8, 2) := by decide +kernel
theorem d_15_119_105 : decode prog_15_method_119_code 105 = .ok (.if_icmp .ge 11, 3) := by decide +kernel
theorem d_15_119_116 : decode prog_15_method_119_code 116 = .ok (.iload 8, 2) := by decide +kernel
theorem d_15_119_108 : decode prog_15_method_119_code 108 = .ok (.iload 12, 2) := by decide +kernel
theorem d_15_119_110 : decode prog_15_method_119_code 110 = .ok (.bipush 12, 2) := by decide +kernel
theorem d_15_119_112 : decode prog_15_method_119_code 112 = .ok (.iadd, 1) := by decide +kernel
theorem d_15_119_113 : decode prog_15_method_119_code 113 = .ok (.goto 5, 3) := by decide +kernel
theorem d_15_119_118 : decode prog_15_method_119_code 118 = .ok (.iload 11, 2) := by decide +kernel
theorem d_15_119_120 : decode prog_15_method_119_code 120 = .ok (.ifCond .eq 8, 3) := by decide +kernel
theorem d_15_119_128 : decode prog_15_method_119_code 128 = .ok (.iload 9, 2) := by decide +kernel
theorem d_15_119_123 : decode prog_15_method_119_code 123 = .ok (.iload 10, 2) := by decide +kernel
theorem d_15_119_125 : decode prog_15_method_119_code 125 = .ok (.goto 5, 3) := by decide +kernel
theorem d_15_119_130 : decode prog_15_method_119_code 130 = .ok (.aload_n 0, 1) := by decide +kernel
theorem d_15_119_131 : decode prog_15_method_119_code 131 = .ok (.aload_n 1, 1) := by decide +kernel
theorem d_15_119_132 : decode prog_15_method_119_code 132 = .ok (.iload 6, 2) := by decide +kernel
theorem d_15_119_134 : decode prog_15_method_119_code 134 = .ok (.invokevirtual 905, 3) := by decide +kernel
theorem d_15_119_137 : decode prog_15_method_119_code 137 = .ok (.iload_n 2, 1) := by decide +kernel
theorem d_15_119_138 : decode prog_15_method_119_code 138 = .ok (.iload_n 3, 1) := by decide +kernel
theorem d_15_119_139 : decode prog_15_method_119_code 139 = .ok (.invokevirtual 908, 3) := by decide +kernel
theorem d_15_119_142 : decode prog_15_method_119_code 142 = .ok (.iload 11, 2) := by decide +kernel
theorem d_15_119_144 : decode prog_15_method_119_code 144 = .ok (.ifCond .ne 7, 3) := by decide +kernel
theorem d_15_119_151 : decode prog_15_method_119_code 151 = .ok (.iconst 0, 1) := by decide +kernel
theorem d_15_119_147 : decode prog_15_method_119_code 147 = .ok (.iconst 1, 1) := by decide +kernel
theorem d_15_119_148 : decode prog_15_method_119_code 148 = .ok (.goto 4, 3) := by decide +kernel
theorem d_15_119_152 : decode prog_15_method_119_code 152 = .ok (.istore 11, 2) := by decide +kernel
theorem d_15_119_154 : decode prog_15_method_119_code 154 = .ok (.iinc 12 12, 3) := by decide +kernel
theorem d_15_119_157 : decode prog_15_method_119_code 157 = .ok (.goto (-69), 3) := by decide +kernel
theorem d_15_145_0 : decode prog_15_method_145_code 0 = .ok (.lconst 0, 1) := by decide +kernel
theorem d_15_145_1 : decode prog_15_method_145_code 1 = .ok (.lstore_n 2, 1) := by decide +kernel
theorem d_15_145_2 : decode prog_15_method_145_code 2 = .ok (.iconst 0, 1) := by decide +kernel
theorem d_15_145_3 : decode prog_15_method_145_code 3 = .ok (.istore 4, 2) := by decide +kernel
theorem d_15_145_5 : decode prog_15_method_145_code 5 = .ok (.iconst 0, 1) := by decide +kernel
theorem d_15_145_6 : decode prog_15_method_145_code 6 = .ok (.istore 5, 2) := by decide +kernel
theorem d_15_145_8 : decode prog_15_method_145_code 8 = .ok (.aload_n 0, 1) := by decide +kernel
theorem d_15_145_9 : decode prog_15_method_145_code 9 = .ok (.getfield 1011, 3) := by decide +kernel
theorem d_15_145_12 : decode prog_15_method_145_code 12 = .ok (.istore 6, 2) := by decide +kernel
theorem d_15_145_14 : decode prog_15_method_145_code 14 = .ok (.aload_n 0, 1) := by decide +kernel
theorem d_15_145_15 : decode prog_15_method_145_code 15 = .ok (.getfield 275, 3) := by decide +kernel
theorem d_15_145_18 : decode prog_15_method_145_code 18 = .ok (.iload_n 1, 1) := by decide +kernel
theorem d_15_145_19 : decode prog_15_method_145_code 19 = .ok (.iconst (-1), 1) := by decide +kernel
theorem d_15_145_20 : decode prog_15_method_145_code 20 = .ok (.iastore, 1) := by decide +kernel
theorem d_15_145_21 : decode prog_15_method_145_code 21 = .ok (.aload_n 0, 1) := by decide +kernel
theorem d_15_145_22 : decode prog_15_method_145_code 22 = .ok (.invokevirtual 376, 3) := by decide +kernel
theorem d_15_145_25 : decode prog_15_method_145_code 25 = .ok (.ifCond .eq 241, 3) := by decide +kernel
theorem d_15_145_28 : decode prog_15_method_145_code 28 = .ok (.iload 5, 2) := by decide +kernel
theorem d_15_145_30 : decode prog_15_method_145_code 30 = .ok (.ifCond .ne 236, 3) := by decide +kernel
theorem d_15_145_33 : decode prog_15_method_145_code 33 = .ok (.aload_n 0, 1) := by decide +kernel
theorem d_15_145_34 : decode prog_15_method_145_code 34 = .ok (.getfield 995, 3) := by decide +kernel
theorem d_15_145_37 : decode prog_15_method_145_code 37 = .ok (.i2l, 1) := by decide +kernel
theorem d_15_145_38 : decode prog_15_method_145_code 38 = .ok (.aload_n 0, 1) := by decide +kernel
theorem d_15_145_39 : decode prog_15_method_145_code 39 = .ok (.getfield 997, 3) := by decide +kernel
theorem d_15_145_42 : decode prog_15_method_145_code 42 = .ok (.lcmp, 1) := by decide +kernel
theorem d_15_145_43 : decode prog_15_method_145_code 43 = .ok (.ifCond .ge 223, 3) := by decide +kernel
theorem d_15_145_46 : decode prog_15_method_145_code 46 = .ok (.lload_n 2, 1) := by decide +kernel
theorem d_15_145_47 : decode prog_15_method_145_code 47 = .ok (.aload_n 0, 1) := by decide +kernel
theorem d_15_145_48 : decode prog_15_method_145_code 48 = .ok (.invokevirtual 1048, 3) := by decide +kernel
theorem d_15_145_51 : decode prog_15_method_145_code 51 = .ok (.i2l, 1) := by decide +kernel
theorem d_15_145_52 : decode prog_15_method_145_code 52 = .ok (.ladd, 1) := by decide +kernel
theorem d_15_145_53 : decode prog_15_method_145_code 53 = .ok (.lstore_n 2, 1) := by decide +kernel
theorem d_15_145_54 : decode prog_15_method_145_code 54 = .ok (.aload_n 0, 1) := by decide +kernel
theorem d_15_145_55 : decode prog_15_method_145_code 55 = .ok (.getfield 995, 3) := by decide +kernel
theorem d_15_145_58 : decode prog_15_method_145_code 58 = .ok (.istore 7, 2) := by decide +kernel
theorem d_15_145_60 : decode prog_15_method_145_code 60 = .ok (.aload_n 0, 1) := by decide +kernel
theorem d_15_145_61 : decode prog_15_method_145_code 61 = .ok (.invokevirtual 1003, 3) := by decide +kernel
theorem d_15_145_64 : decode prog_15_method_145_code 64 = .ok (.istore 8, 2) := by decide +kernel
theorem d_15_145_66 : decode prog_15_method_145_code 66 = .ok (.aload_n 0, 1) := by decide +kernel
theorem d_15_145_67 : decode prog_15_method_145_code 67 = .ok (.invokevirtual 376, 3) := by decide +kernel
theorem d_15_145_70 : decode prog_15_method_145_code 70 = .ok (.ifCond .ne 6, 3) := by decide +kernel
theorem d_15_145_76 : decode prog_15_method_145_code 76 = .ok (.iload 8, 2) := by decide +kernel
theorem d_15_145_78 : decode prog_15_method_145_code 78 = .ok (.sipush 255, 3) := by decide +kernel
theorem d_15_145_81 : decode prog_15_method_145_code 81 = .ok (.if_icmp .ne 15, 3) := by decide +kernel
theorem d_15_145_96 : decode prog_15_method_145_code 96 = .ok (.iload 8, 2) := by decide +kernel
theorem d_15_145_98 : decode prog_15_method_145_code 98 = .ok (.sipush 240, 3) := by decide +kernel
theorem d_15_145_101 : decode prog_15_method_145_code 101 = .ok (.if_icmp .eq 11, 3) := by decide +kernel
theorem d_15_145_104 : decode prog_15_method_145_code 104 = .ok (.iload 8, 2) := by decide +kernel
theorem d_15_145_106 : decode prog_15_method_145_code 106 = .ok (.sipush 247, 3) := by decide +kernel
theorem d_15_145_109 : decode prog_15_method_145_code 109 = .ok (.if_icmp .ne 43, 3) := by decide +kernel
theorem d_15_145_152 : decode prog_15_method_145_code 152 = .ok (.iload 8, 2) := by decide +kernel
theorem d_15_145_154 : decode prog_15_method_145_code 154 = .ok (.sipush 240, 3) := by decide +kernel
theorem d_15_145_157 : decode prog_15_method_145_code 157 = .ok (.if_icmp .ge 16, 3) := by decide +kernel
theorem d_15_145_160 : decode prog_15_method_145_code 160 = .ok (.iload 8, 2) := by decide +kernel
theorem d_15_145_162 : decode prog_15_method_145_code 162 = .ok (.sipush 128, 3) := by decide +kernel
theorem d_15_145_165 : decode prog_15_method_145_code 165 = .ok (.if_icmp .ge 18, 3) := by decide +kernel
theorem d_15_145_168 : decode prog_15_method_145_code 168 = .ok (.iload 4, 2) := by decide +kernel
theorem d_15_145_170 : decode prog_15_method_145_code 170 = .ok (.ifCond .ne 13, 3) := by decide +kernel
theorem d_15_145_84 : decode prog_15_method_145_code 84 = .ok (.aload_n 0, 1) := by decide +kernel
theorem d_15_145_85 : decode prog_15_method_145_code 85 = .ok (.invokevirtual 1051, 3) := by decide +kernel
theorem d_15_145_88 : decode prog_15_method_145_code 88 = .ok (.istore 5, 2) := by decide +kernel
theorem d_15_145_90 : decode prog_15_method_145_code 90 = .ok (.iconst 0, 1) := by decide +kernel
theorem d_15_145_91 : decode prog_15_method_145_code 91 = .ok (.istore 4, 2) := by decide +kernel
theorem d_15_145_93 : decode prog_15_method_145_code 93 = .ok (.goto 170, 3) := by decide +kernel
theorem d_15_145_73 : decode prog_15_method_145_code 73 = .ok (.goto 193, 3) := by decide +kernel
theorem d_15_145_266 : decode prog_15_method_145_code 266 = .ok (.iload 6, 2) := by decide +kernel
theorem d_15_145_268 : decode prog_15_method_145_code 268 = .ok (.istore 7, 2) := by decide +kernel
theorem d_15_145_270 : decode prog_15_method_145_code 270 = .ok (.iload 7, 2) := by decide +kernel
theorem d_15_145_272 : decode prog_15_method_145_code 272 = .ok (.aload_n 0, 1) := by decide +kernel
theorem d_15_145_273 : decode prog_15_method_145_code 273 = .ok (.getfield 1011, 3) := by decide +kernel
theorem d_15_145_276 : decode prog_15_method_145_code 276 = .ok (.if_icmp .ge 29, 3) := by decide +kernel
theorem d_15_145_305 : decode prog_15_method_145_code 305 = .ok (.aload_n 0, 1) := by decide +kernel
theorem d_15_145_306 : decode prog_15_method_145_code 306 = .ok (.getfield 275, 3) := by decide +kernel
theorem d_15_145_309 : decode prog_15_method_145_code 309 = .ok (.iload_n 1, 1) := by decide +kernel
theorem d_15_145_310 : decode prog_15_method_145_code 310 = .ok (.iaload, 1) := by decide +kernel
theorem d_15_145_311 : decode prog_15_method_145_code 311 = .ok (.ifCond .ge 10, 3) := by decide +kernel
theorem d_15_145_314 : decode prog_15_method_145_code 314 = .ok (.aload_n 0, 1) := by decide +kernel
theorem d_15_145_315 : decode prog_15_method_145_code 315 = .ok (.getfield 275, 3) := by decide +kernel
theorem d_15_145_318 : decode prog_15_method_145_code 318 = .ok (.iload_n 1, 1) := by decide +kernel
theorem d_15_145_319 : decode prog_15_method_145_code 319 = .ok (.iconst 0, 1) := by decide +kernel
theorem d_15_145_320 : decode prog_15_method_145_code 320 = .ok (.iastore, 1) := by decide +kernel
theorem d_15_145_279 : decode prog_15_method_145_code 279 = .ok (.aload_n 0, 1) := by decide +kernel
theorem d_15_145_280 : decode prog_15_method_145_code 280 = .ok (.getfield 272, 3) := by decide +kernel
theorem d_15_145_283 : decode prog_15_method_145_code 283 = .ok (.iload 7, 2) := by decide +kernel
theorem d_15_145_285 : decode prog_15_method_145_code 285 = .ok (.laload, 1) := by decide +kernel
theorem d_15_145_286 : decode prog_15_method_145_code 286 = .ok (.lconst 0, 1) := by decide +kernel
theorem d_15_145_287 : decode prog_15_method_145_code 287 = .ok (.lcmp, 1) := by decide +kernel
theorem d_15_145_288 : decode prog_15_method_145_code 288 = .ok (.ifCond .ge 11, 3) := by decide +kernel
theorem d_15_145_291 : decode prog_15_method_145_code 291 = .ok (.aload_n 0, 1) := by decide +kernel
theorem d_15_145_292 : decode prog_15_method_145_code 292 = .ok (.getfield 272, 3) := by decide +kernel
theorem d_15_145_295 : decode prog_15_method_145_code 295 = .ok (.iload 7, 2) := by decide +kernel
theorem d_15_145_297 : decode prog_15_method_145_code 297 = .ok (.lload_n 2, 1) := by decide +kernel
theorem d_15_145_298 : decode prog_15_method_145_code 298 = .ok (.lastore, 1) := by decide +kernel
theorem d_15_145_299 : decode prog_15_method_145_code 299 = .ok (.iinc 7 1, 3) := by decide +kernel
theorem d_15_145_302 : decode prog_15_method_145_code 302 = .ok (.goto (-32), 3) := by decide +kernel
theorem d_15_145_321 : decode prog_15_method_145_code 321 = .ok (.return_, 1) := by decide +kernel
theorem d_15_145_263 : decode prog_15_method_145_code 263 = .ok (.goto (-242), 3) := by decide +kernel
theorem d_15_145_112 : decode prog_15_method_145_code 112 = .ok (.aload_n 0, 1) := by decide +kernel
theorem d_15_145_113 : decode prog_15_method_145_code 113 = .ok (.invokevirtual 1048, 3) := by decide +kernel
theorem d_15_145_116 : decode prog_15_method_145_code 116 = .ok (.istore 9, 2) := by decide +kernel
theorem d_15_145_118 : decode prog_15_method_145_code 118 = .ok (.iconst 0, 1) := by decide +kernel
theorem d_15_145_119 : decode prog_15_method_145_code 119 = .ok (.istore 10, 2) := by decide +kernel
theorem d_15_145_121 : decode prog_15_method_145_code 121 = .ok (.iload 10, 2) := by decide +kernel
theorem d_15_145_123 : decode prog_15_method_145_code 123 = .ok (.iload 9, 2) := by decide +kernel
theorem d_15_145_125 : decode prog_15_method_145_code 125 = .ok (.if_icmp .ge 21, 3) := by decide +kernel
theorem d_15_145_128 : decode prog_15_method_145_code 128 = .ok (.aload_n 0, 1) := by decide +kernel
theorem d_15_145_129 : decode prog_15_method_145_code 129 = .ok (.invokevirtual 376, 3) := by decide +kernel
theorem d_15_145_132 : decode prog_15_method_145_code 132 = .ok (.ifCond .eq 14, 3) := by decide +kernel
theorem d_15_145_135 : decode prog_15_method_145_code 135 = .ok (.aload_n 0, 1) := by decide +kernel
theorem d_15_145_136 : decode prog_15_method_145_code 136 = .ok (.invokevirtual 1003, 3) := by decide +kernel
theorem d_15_145_139 : decode prog_15_method_145_code 139 = .ok (.pop, 1) := by decide +kernel
theorem d_15_145_140 : decode prog_15_method_145_code 140 = .ok (.iinc 10 1, 3) := by decide +kernel
theorem d_15_145_143 : decode prog_15_method_145_code 143 = .ok (.goto (-22), 3) := by decide +kernel
theorem d_15_145_146 : decode prog_15_method_145_code 146 = .ok (.iconst 0, 1) := by decide +kernel
theorem d_15_145_147 : decode prog_15_method_145_code 147 = .ok (.istore 4, 2) := by decide +kernel
theorem d_15_145_149 : decode prog_15_method_145_code 149 = .ok (.goto 114, 3) := by decide +kernel
theorem d_15_145_173 : decode prog_15_method_145_code 173 = .ok (.aload_n 0, 1) := by decide +kernel
theorem d_15_145_174 : decode prog_15_method_145_code 174 = .ok (.iconst 1, 1) := by decide +kernel
theorem d_15_145_175 : decode prog_15_method_145_code 175 = .ok (.iload 7, 2) := by decide +kernel
theorem d_15_145_177 : decode prog_15_method_145_code 177 = .ok (.invokevirtual 1000, 3) := by decide +kernel
theorem d_15_145_180 : decode prog_15_method_145_code 180 = .ok (.goto 83, 3) := by decide +kernel
theorem d_15_145_183 : decode prog_15_method_145_code 183 = .ok (.iload 8, 2) := by decide +kernel
theorem d_15_145_185 : decode prog_15_method_145_code 185 = .ok (.sipush 128, 3) := by decide +kernel
theorem d_15_145_188 : decode prog_15_method_145_code 188 = .ok (.if_icmp .lt 7, 3) := by decide +kernel
theorem d_15_145_191 : decode prog_15_method_145_code 191 = .ok (.iload 8, 2) := by decide +kernel
theorem d_15_145_193 : decode prog_15_method_145_code 193 = .ok (.istore 4, 2) := by decide +kernel
theorem d_15_145_195 : decode prog_15_method_145_code 195 = .ok (.iload 8, 2) := by decide +kernel
theorem d_15_145_197 : decode prog_15_method_145_code 197 = .ok (.sipush 128, 3) := by decide +kernel
theorem d_15_145_200 : decode prog_15_method_145_code 200 = .ok (.if_icmp .ge 8, 3) := by decide +kernel
theorem d_15_145_208 : decode prog_15_method_145_code 208 = .ok (.aload_n 0, 1) := by decide +kernel
theorem d_15_145_209 : decode prog_15_method_145_code 209 = .ok (.invokevirtual 1054, 3) := by decide +kernel
theorem d_15_145_203 : decode prog_15_method_145_code 203 = .ok (.iload 8, 2) := by decide +kernel
theorem d_15_145_205 : decode prog_15_method_145_code 205 = .ok (.goto 7, 3) := by decide +kernel
theorem d_15_145_212 : decode prog_15_method_145_code 212 = .ok (.istore 9, 2) := by decide +kernel
theorem d_15_145_214 : decode prog_15_method_145_code 214 = .ok (.iload 4, 2) := by decide +kernel
theorem d_15_145_216 : decode prog_15_method_145_code 216 = .ok (.sipush 192, 3) := by decide +kernel
theorem d_15_145_219 : decode prog_15_method_145_code 219 = .ok (.if_icmp .lt 15, 3) := by decide +kernel
theorem d_15_145_222 : decode prog_15_method_145_code 222 = .ok (.iload 4, 2) := by decide +kernel
theorem d_15_145_224 : decode prog_15_method_145_code 224 = .ok (.sipush 224, 3) := by decide +kernel
theorem d_15_145_227 : decode prog_15_method_145_code 227 = .ok (.if_icmp .ge 7, 3) := by decide +kernel
theorem d_15_145_230 : decode prog_15_method_145_code 230 = .ok (.iconst 0, 1) := by decide +kernel
theorem d_15_145_231 : decode prog_15_method_145_code 231 = .ok (.goto 7, 3) := by decide +kernel
theorem d_15_145_238 : decode prog_15_method_145_code 238 = .ok (.istore 10, 2) := by decide +kernel
theorem d_15_145_240 : decode prog_15_method_145_code 240 = .ok (.aload_n 0, 1) := by decide +kernel
theorem d_15_145_241 : decode prog_15_method_145_code 241 = .ok (.invokevirtual 376, 3) := by decide +kernel
theorem d_15_145_244 : decode prog_15_method_145_code 244 = .ok (.ifCond .eq 19, 3) := by decide +kernel
theorem d_15_145_247 : decode prog_15_method_145_code 247 = .ok (.aload_n 0, 1) := by decide +kernel
theorem d_15_145_248 : decode prog_15_method_145_code 248 = .ok (.iload_n 1, 1) := by decide +kernel
theorem d_15_145_249 : decode prog_15_method_145_code 249 = .ok (.iload 6, 2) := by decide +kernel
theorem d_15_145_251 : decode prog_15_method_145_code 251 = .ok (.iload 4, 2) := by decide +kernel
theorem d_15_145_253 : decode prog_15_method_145_code 253 = .ok (.iload 9, 2) := by decide +kernel
theorem d_15_145_255 : decode prog_15_method_145_code 255 = .ok (.iload 10, 2) := by decide +kernel
theorem d_15_145_257 : decode prog_15_method_145_code 257 = .ok (.lload_n 2, 1) := by decide +kernel
theorem d_15_145_258 : decode prog_15_method_145_code 258 = .ok (.iload 7, 2) := by decide +kernel
theorem d_15_145_260 : decode prog_15_method_145_code 260 = .ok (.invokevirtual 1057, 3) := by decide +kernel
theorem d_15_145_234 : decode prog_15_method_145_code 234 = .ok (.aload_n 0, 1) := by decide +kernel
theorem d_15_145_235 : decode prog_15_method_145_code 235 = .ok (.invokevirtual 1054, 3) := by decide +kernel
abbrev Q_M_need (D : va_G) (ca : Nat → ClassId) (ad : Nat → Int → Nat → Nat) (L : List Nat) (r : Int) (F : zF) (B : zB) (A : Nat → Prop) : Array Value → State → Outcome → State → Prop := va_Qv (S := Unit) (fun _ => True) (fun _ => zPo D ca ad lnM nM L F B A) A
def f_M_need_33 (K : Nat)  (F : zF) (B : zB) : zO := some (0, F, B)
set_option maxHeartbeats 4000000 in
set_option maxRecDepth 100000 in
theorem b_M_need_33 {D : va_G} {ca : Nat → ClassId} {ad : Nat → Int → Nat → Nat} {L : List Nat} {aS vS : Nat → Nat} {A : Nat → Prop} {p : Program} {l : Launch} {e : Env} {s : State} {m : MethodId} {args : Array Value} {below : List Frame} {meth : Method} {c : Code} {K : Nat} {r : Int} {F9 : zF} {B9 : zB} (X : zX D ca L aS vS A p s m args meth c prog_15_method_36_code 2 (Option.none : Option Jvm.ClassFile.FieldType) "StaveHouseModel")  {F : zF} {B : zB} {H : Heap} {locs : List Loc} {ls : Array Slot} (hf : f_M_need_33 K  F B = some (r, F9, B9)) (hZ : zH D ca ad lnM nM L F B A H) (hS : va_S A s.heap H locs) (hl : lv_has ls 2 []) : W p l e ({ frames := 3, cells := 0, slots := 0, locals := 63 } : Room) s m args below meth c H locs 0 0 (MQ below (Q_M_need D ca ad L r F9 B9 A) args s 0 0 A) (F0 m 33 ls []) := by
  obtain ⟨hx, hb, hr, hml, hown, hts, hlk, hK, hA, hL, hX⟩ := id X
  replace hf : (some (0, F, B)) = some (r, F9, B9) := hf
  cases hf
  exact W.vret hx hb hr (fun t ht hW => ⟨⟨(), rfl, trivial, by rw [ht]; exact hZ, va_K.moved hW.alike hK⟩, hS.F ht⟩) hS.2.2 d_15_36_33 hlk

def f_M_need (K : Nat) (l1 : Int) (F : zF) (B : zB) : zO := zbind (f_M_good K F B) (fun r1 F1 B1 => if r32 r1 then (if r1 = 0 then some (0, F1, B1) else zbind (f_M_isSign K l1 F1 B1) (fun r4 F4 B4 => if r32 r4 then (if r4 = 0 then zbind (f_M_wrong K F4 B4) (fun r7 F7 B7 => f_M_need_33 K F7 B7) else f_M_need_33 K (zup3 F4 14 0 16 ((F4 14 0 16) + 1)) B4) else none)) else none)
set_option maxHeartbeats 4000000 in
set_option maxRecDepth 100000 in
theorem c_M_need {l : Launch} {D : va_G} {ca : Nat → ClassId} {ad : Nat → Int → Nat → Nat} {L : List Nat} {aS vS : Nat → Nat} {sz K : Nat} {l1 : Int} {F F9 : zF} {B B9 : zB} {r : Int} (hf : f_M_need K l1 F B = some (r, F9, B9)) : Met l ({ cls := "StaveHouseModel", name := "need", desc := "(I)V" } : Jvm.MethodName) (Cond.code ({ cls := "StaveHouseModel", name := "need", desc := "(I)V" } : Jvm.MethodName) prog_15_method_36_code 2 (Option.none : Option Jvm.ClassFile.FieldType) :: wAll) ({ frames := 3, cells := 0, slots := 0, locals := 63 } : Room) (va_Pc [.ref (ad 14 0 0), .int (iI l1)] (zPre D ca ad lnM nM L aS vS F B sz)) (Q_M_need D ca ad L r F9 B9 (zA L sz)) 0 0 (zA L sz) := by
  refine zMet (Qc := Q_M_need D ca ad L r F9 B9) (lv := [(0, .ref (ad 14 0 0)), (1, .int (iI l1))]) (by decide) (Nat.le_of_ble_eq_true rfl) rfl (fun A p e s m below meth c ls X hZ hS hl => ?_)
  obtain ⟨hx, hb, hr, hml, hown, hts, hlk, hK, hA, hL, hX⟩ := id X
  replace hf : (zbind (f_M_good K F B) (fun r1 F1 B1 => if r32 r1 then (if r1 = 0 then some (0, F1, B1) else zbind (f_M_isSign K l1 F1 B1) (fun r4 F4 B4 => if r32 r4 then (if r4 = 0 then zbind (f_M_wrong K F4 B4) (fun r7 F7 B7 => f_M_need_33 K F7 B7) else f_M_need_33 K (zup3 F4 14 0 16 ((F4 14 0 16) + 1)) B4) else none)) else none)) = some (r, F9, B9) := hf
  refine lv_aload_n hx hb d_15_36_0 rfl (lv_at hl 0 rfl) ?_
  obtain ⟨r1, F1, B1, hc1, hf⟩ := gbind hf
  refine va_calli (va_runV (As := []) (rest := []) ⟨hx, hb, hml, hown, hts⟩ (c_M_good (l := l) hc1) (cwV 0 hts (gdV k_13_15 k_13_17 ks_152 k_1_9 k_13_18) rfl rfl rfl (by decide +kernel) ⟨Nat.le_of_ble_eq_true rfl, Nat.le_of_ble_eq_true rfl⟩) (zPV X hZ hS (ci := 14) (by decide) (by decide) (r := (RX14, TX14, 107)) rfl []) rfl rfl hl.1 rfl (lv_room (Nat.le_of_ble_eq_true rfl)) d_15_36_1 ⟨Nat.le_of_ble_eq_true rfl, Nat.le_of_ble_eq_true rfl⟩) hS (fun q _ h => zAin X hS q h) (zAin X hS) (fun p1 u1 t1 H1 locs1 ht1 hv1 hw1 hB1 hz1 hk1 hS1 => ?_)
  have hZ1 := zBack X ht1 hB1
  subst hw1
  obtain ⟨g2, hf⟩ := gif hf
  refine z0ne (tgt := 8) hx hb g2 d_15_36_4 (by decide) (fun h3 => ?_) (fun h3 => ?_)
  · replace hf := gneg hf h3
    refine lv_aload_n hx hb d_15_36_8 rfl (lv_at hl 0 rfl) ?_
    refine lv_iload_n hx hb d_15_36_9 rfl (lv_at hl 1 rfl) ?_
    obtain ⟨r4, F4, B4, hc4, hf⟩ := gbind hf
    refine va_calli (va_runV (As := [.int (iI l1)]) (rest := []) ⟨hx, hb, hml, hown, hts⟩ (c_M_isSign (l := l) hc4) (cwV 1 hts (gdV k_14_136 k_14_138 ks_206 k_1_9 k_14_139) rfl rfl rfl (by decide +kernel) ⟨Nat.le_of_ble_eq_true rfl, Nat.le_of_ble_eq_true rfl⟩) (zPV X hZ1 hS1 (ci := 14) (by decide) (by decide) (r := (RX14, TX14, 107)) rfl [.int (iI l1)]) rfl rfl hl.1 rfl (lv_room (Nat.le_of_ble_eq_true rfl)) d_15_36_10 ⟨Nat.le_of_ble_eq_true rfl, Nat.le_of_ble_eq_true rfl⟩) hS1 (fun q _ h => zAin X hS1 q h) (zAin X hS1) (fun p4 u4 t4 H4 locs4 ht4 hv4 hw4 hB4 hz4 hk4 hS4 => ?_)
    have hZ4 := zBack X ht4 hB4
    subst hw4
    obtain ⟨g5, hf⟩ := gif hf
    refine z0eq (tgt := 29) hx hb g5 d_15_36_13 (by decide) (fun h6 => ?_) (fun h6 => ?_)
    · replace hf := gpos hf h6
      refine lv_aload_n hx hb d_15_36_29 rfl (lv_at hl 0 rfl) ?_
      obtain ⟨r7, F7, B7, hc7, hf⟩ := gbind hf
      refine va_callv (va_runV (As := []) (rest := []) ⟨hx, hb, hml, hown, hts⟩ (c_M_wrong (l := l) hc7) (cwV 0 hts (gdV k_14_124 k_14_126 ks_203 k_1_9 k_14_127) rfl rfl rfl (by decide +kernel) ⟨Nat.le_of_ble_eq_true rfl, Nat.le_of_ble_eq_true rfl⟩) (zPV X hZ4 hS4 (ci := 14) (by decide) (by decide) (r := (RX14, TX14, 107)) rfl []) rfl rfl hl.1 rfl (lv_room (Nat.le_of_ble_eq_true rfl)) d_15_36_30 ⟨Nat.le_of_ble_eq_true rfl, Nat.le_of_ble_eq_true rfl⟩) hS4 (fun q _ h => zAin X hS4 q h) (zAin X hS4) (fun u7 t7 H7 locs7 ht7 hv7 hw7 hB7 hz7 hk7 hS7 => ?_)
      have hZ7 := zBack X ht7 hB7
      exact b_M_need_33 X hf hZ7 hS7 (lv_sub hl [] rfl)
    · replace hf := gneg hf h6
      refine lv_aload_n hx hb d_15_36_16 rfl (lv_at hl 0 rfl) ?_
      refine lv_dup hx hb d_15_36_17 rfl ?_
      refine zget (ci := 14) (C := RX14) (T := TX14) (v := .int (iI (F4 14 0 16))) (k := 16) hx hb hts inW_14 hown hK hZ4 (by decide) (by decide) rfl (by decide) k_11_14 rfl d_15_36_18 ?_
      refine lv_iconst (v := iI 1) hx hb d_15_36_21 rfl ?_
      refine zadd hx hb d_15_36_22 ?_
      refine zput (ci := 14) (C := RX14) (T := TX14) (k := 16) (v := ((F4 14 0 16) + 1)) (w := .int (iI ((F4 14 0 16) + 1))) hx hb hts inW_14 tyX14 tyX14_ok nmX14 hown hK hZ4 hS4 (by decide) (by decide) rfl (by decide) k_11_14 rfl (fun G h => congrArg (fun q => Value.int (iI q)) h) rfl rfl d_15_36_23 (fun H8 locs8 hZ8 hS8 => ?_)
      refine lv_goto (tgt := 33) hx hb d_15_36_26 (by decide) ?_
      exact b_M_need_33 X hf hZ8 hS8 (lv_sub hl [] rfl)
  · replace hf := gpos hf h3
    cases hf
    exact W.vret hx hb hr (fun t ht hW => ⟨⟨(), rfl, trivial, by rw [ht]; exact hZ1, va_K.moved hW.alike hK⟩, hS1.F ht⟩) hS1.2.2 d_15_36_7 hlk

abbrev Q_M_opening (D : va_G) (ca : Nat → ClassId) (ad : Nat → Int → Nat → Nat) (L : List Nat) (r : Int) (F : zF) (B : zB) (A : Nat → Prop) : Array Value → State → Outcome → State → Prop := va_Qv (S := Unit) (fun _ => True) (fun _ => zPo D ca ad lnM nM L F B A) A
def f_M_opening_60 (K : Nat)  (F : zF) (B : zB) : zO := some (0, F, B)
set_option maxHeartbeats 4000000 in
set_option maxRecDepth 100000 in
theorem b_M_opening_60 {D : va_G} {ca : Nat → ClassId} {ad : Nat → Int → Nat → Nat} {L : List Nat} {aS vS : Nat → Nat} {A : Nat → Prop} {p : Program} {l : Launch} {e : Env} {s : State} {m : MethodId} {args : Array Value} {below : List Frame} {meth : Method} {c : Code} {K : Nat} {r : Int} {F9 : zF} {B9 : zB} (X : zX D ca L aS vS A p s m args meth c prog_15_method_38_code 2 (Option.none : Option Jvm.ClassFile.FieldType) "StaveHouseModel")  {F : zF} {B : zB} {H : Heap} {locs : List Loc} {ls : Array Slot} (hf : f_M_opening_60 K  F B = some (r, F9, B9)) (hZ : zH D ca ad lnM nM L F B A H) (hS : va_S A s.heap H locs) (hl : lv_has ls 2 []) : W p l e ({ frames := 3, cells := 0, slots := 0, locals := 63 } : Room) s m args below meth c H locs 0 0 (MQ below (Q_M_opening D ca ad L r F9 B9 A) args s 0 0 A) (F0 m 60 ls []) := by
  obtain ⟨hx, hb, hr, hml, hown, hts, hlk, hK, hA, hL, hX⟩ := id X
  replace hf : (some (0, F, B)) = some (r, F9, B9) := hf
  cases hf
  exact W.vret hx hb hr (fun t ht hW => ⟨⟨(), rfl, trivial, by rw [ht]; exact hZ, va_K.moved hW.alike hK⟩, hS.F ht⟩) hS.2.2 d_15_38_60 hlk

def f_M_opening (K : Nat) (l1 : Int) (F : zF) (B : zB) : zO := zbind (f_M_good K F B) (fun r1 F1 B1 => if r32 r1 then (if r1 = 0 then some (0, F1, B1) else zbind (f_M_isSign K l1 F1 B1) (fun r4 F4 B4 => if r32 r4 then (if r4 = 0 then zbind (f_M_wrong K F4 B4) (fun r12 F12 B12 => f_M_opening_60 K F12 B12) else if r32 (F4 14 0 19) then (if (F4 14 0 19) = 8 then zbind (f_M_fail K 3 F4 B4) (fun r11 F11 B11 => f_M_opening_60 K F11 B11) else f_M_opening_60 K (zup3 (zup3 F4 14 0 19 ((F4 14 0 19) + 1)) 14 0 16 ((F4 14 0 16) + 1)) B4) else none) else none)) else none)
set_option maxHeartbeats 4000000 in
set_option maxRecDepth 100000 in
theorem c_M_opening {l : Launch} {D : va_G} {ca : Nat → ClassId} {ad : Nat → Int → Nat → Nat} {L : List Nat} {aS vS : Nat → Nat} {sz K : Nat} {l1 : Int} {F F9 : zF} {B B9 : zB} {r : Int} (hf : f_M_opening K l1 F B = some (r, F9, B9)) : Met l ({ cls := "StaveHouseModel", name := "opening", desc := "(I)V" } : Jvm.MethodName) (Cond.code ({ cls := "StaveHouseModel", name := "opening", desc := "(I)V" } : Jvm.MethodName) prog_15_method_38_code 2 (Option.none : Option Jvm.ClassFile.FieldType) :: wAll) ({ frames := 3, cells := 0, slots := 0, locals := 63 } : Room) (va_Pc [.ref (ad 14 0 0), .int (iI l1)] (zPre D ca ad lnM nM L aS vS F B sz)) (Q_M_opening D ca ad L r F9 B9 (zA L sz)) 0 0 (zA L sz) := by
  refine zMet (Qc := Q_M_opening D ca ad L r F9 B9) (lv := [(0, .ref (ad 14 0 0)), (1, .int (iI l1))]) (by decide) (Nat.le_of_ble_eq_true rfl) rfl (fun A p e s m below meth c ls X hZ hS hl => ?_)
  obtain ⟨hx, hb, hr, hml, hown, hts, hlk, hK, hA, hL, hX⟩ := id X
  replace hf : (zbind (f_M_good K F B) (fun r1 F1 B1 => if r32 r1 then (if r1 = 0 then some (0, F1, B1) else zbind (f_M_isSign K l1 F1 B1) (fun r4 F4 B4 => if r32 r4 then (if r4 = 0 then zbind (f_M_wrong K F4 B4) (fun r12 F12 B12 => f_M_opening_60 K F12 B12) else if r32 (F4 14 0 19) then (if (F4 14 0 19) = 8 then zbind (f_M_fail K 3 F4 B4) (fun r11 F11 B11 => f_M_opening_60 K F11 B11) else f_M_opening_60 K (zup3 (zup3 F4 14 0 19 ((F4 14 0 19) + 1)) 14 0 16 ((F4 14 0 16) + 1)) B4) else none) else none)) else none)) = some (r, F9, B9) := hf
  refine lv_aload_n hx hb d_15_38_0 rfl (lv_at hl 0 rfl) ?_
  obtain ⟨r1, F1, B1, hc1, hf⟩ := gbind hf
  refine va_calli (va_runV (As := []) (rest := []) ⟨hx, hb, hml, hown, hts⟩ (c_M_good (l := l) hc1) (cwV 0 hts (gdV k_13_15 k_13_17 ks_152 k_1_9 k_13_18) rfl rfl rfl (by decide +kernel) ⟨Nat.le_of_ble_eq_true rfl, Nat.le_of_ble_eq_true rfl⟩) (zPV X hZ hS (ci := 14) (by decide) (by decide) (r := (RX14, TX14, 107)) rfl []) rfl rfl hl.1 rfl (lv_room (Nat.le_of_ble_eq_true rfl)) d_15_38_1 ⟨Nat.le_of_ble_eq_true rfl, Nat.le_of_ble_eq_true rfl⟩) hS (fun q _ h => zAin X hS q h) (zAin X hS) (fun p1 u1 t1 H1 locs1 ht1 hv1 hw1 hB1 hz1 hk1 hS1 => ?_)
  have hZ1 := zBack X ht1 hB1
  subst hw1
  obtain ⟨g2, hf⟩ := gif hf
  refine z0ne (tgt := 8) hx hb g2 d_15_38_4 (by decide) (fun h3 => ?_) (fun h3 => ?_)
  · replace hf := gneg hf h3
    refine lv_aload_n hx hb d_15_38_8 rfl (lv_at hl 0 rfl) ?_
    refine lv_iload_n hx hb d_15_38_9 rfl (lv_at hl 1 rfl) ?_
    obtain ⟨r4, F4, B4, hc4, hf⟩ := gbind hf
    refine va_calli (va_runV (As := [.int (iI l1)]) (rest := []) ⟨hx, hb, hml, hown, hts⟩ (c_M_isSign (l := l) hc4) (cwV 1 hts (gdV k_14_136 k_14_138 ks_206 k_1_9 k_14_139) rfl rfl rfl (by decide +kernel) ⟨Nat.le_of_ble_eq_true rfl, Nat.le_of_ble_eq_true rfl⟩) (zPV X hZ1 hS1 (ci := 14) (by decide) (by decide) (r := (RX14, TX14, 107)) rfl [.int (iI l1)]) rfl rfl hl.1 rfl (lv_room (Nat.le_of_ble_eq_true rfl)) d_15_38_10 ⟨Nat.le_of_ble_eq_true rfl, Nat.le_of_ble_eq_true rfl⟩) hS1 (fun q _ h => zAin X hS1 q h) (zAin X hS1) (fun p4 u4 t4 H4 locs4 ht4 hv4 hw4 hB4 hz4 hk4 hS4 => ?_)
    have hZ4 := zBack X ht4 hB4
    subst hw4
    obtain ⟨g5, hf⟩ := gif hf
    refine z0ne (tgt := 23) hx hb g5 d_15_38_13 (by decide) (fun h6 => ?_) (fun h6 => ?_)
    · replace hf := gneg hf h6
      refine lv_aload_n hx hb d_15_38_23 rfl (lv_at hl 0 rfl) ?_
      refine zget (ci := 14) (C := RX14) (T := TX14) (v := .int (iI (F4 14 0 19))) (k := 19) hx hb hts inW_14 hown hK hZ4 (by decide) (by decide) rfl (by decide) k_11_17 rfl d_15_38_24 ?_
      refine lv_bipush (v := iI 8) hx hb d_15_38_27 (by decide) ?_
      obtain ⟨g7, hf⟩ := gif hf
      refine zne (tgt := 40) hx hb g7 (by decide) d_15_38_29 (by decide) (fun h8 => ?_) (fun h8 => ?_)
      · replace hf := gneg hf h8
        refine lv_aload_n hx hb d_15_38_40 rfl (lv_at hl 0 rfl) ?_
        refine lv_dup hx hb d_15_38_41 rfl ?_
        refine zget (ci := 14) (C := RX14) (T := TX14) (v := .int (iI (F4 14 0 19))) (k := 19) hx hb hts inW_14 hown hK hZ4 (by decide) (by decide) rfl (by decide) k_11_17 rfl d_15_38_42 ?_
        refine lv_iconst (v := iI 1) hx hb d_15_38_45 rfl ?_
        refine zadd hx hb d_15_38_46 ?_
        refine zput (ci := 14) (C := RX14) (T := TX14) (k := 19) (v := ((F4 14 0 19) + 1)) (w := .int (iI ((F4 14 0 19) + 1))) hx hb hts inW_14 tyX14 tyX14_ok nmX14 hown hK hZ4 hS4 (by decide) (by decide) rfl (by decide) k_11_17 rfl (fun G h => congrArg (fun q => Value.int (iI q)) h) rfl rfl d_15_38_47 (fun H9 locs9 hZ9 hS9 => ?_)
        refine lv_aload_n hx hb d_15_38_50 rfl (lv_at hl 0 rfl) ?_
        refine lv_dup hx hb d_15_38_51 rfl ?_
        refine zget (ci := 14) (C := RX14) (T := TX14) (v := .int (iI (F4 14 0 16))) (k := 16) hx hb hts inW_14 hown hK hZ9 (by decide) (by decide) rfl (by decide) k_11_14 rfl d_15_38_52 ?_
        refine lv_iconst (v := iI 1) hx hb d_15_38_55 rfl ?_
        refine zadd hx hb d_15_38_56 ?_
        refine zput (ci := 14) (C := RX14) (T := TX14) (k := 16) (v := ((F4 14 0 16) + 1)) (w := .int (iI ((F4 14 0 16) + 1))) hx hb hts inW_14 tyX14 tyX14_ok nmX14 hown hK hZ9 hS9 (by decide) (by decide) rfl (by decide) k_11_14 rfl (fun G h => congrArg (fun q => Value.int (iI q)) h) rfl rfl d_15_38_57 (fun H10 locs10 hZ10 hS10 => ?_)
        exact b_M_opening_60 X hf hZ10 hS10 (lv_sub hl [] rfl)
      · replace hf := gpos hf h8
        refine lv_aload_n hx hb d_15_38_32 rfl (lv_at hl 0 rfl) ?_
        refine lv_iconst (v := iI 3) hx hb d_15_38_33 rfl ?_
        obtain ⟨r11, F11, B11, hc11, hf⟩ := gbind hf
        refine va_callv (va_runV (As := [.int (iI 3)]) (rest := []) ⟨hx, hb, hml, hown, hts⟩ (c_M_fail (l := l) hc11) (cwV 1 hts (gdV k_14_128 k_14_130 ks_204 k_1_9 k_14_131) rfl rfl rfl (by decide +kernel) ⟨Nat.le_of_ble_eq_true rfl, Nat.le_of_ble_eq_true rfl⟩) (zPV X hZ4 hS4 (ci := 14) (by decide) (by decide) (r := (RX14, TX14, 107)) rfl [.int (iI 3)]) rfl rfl hl.1 rfl (lv_room (Nat.le_of_ble_eq_true rfl)) d_15_38_34 ⟨Nat.le_of_ble_eq_true rfl, Nat.le_of_ble_eq_true rfl⟩) hS4 (fun q _ h => zAin X hS4 q h) (zAin X hS4) (fun u11 t11 H11 locs11 ht11 hv11 hw11 hB11 hz11 hk11 hS11 => ?_)
        have hZ11 := zBack X ht11 hB11
        refine lv_goto (tgt := 60) hx hb d_15_38_37 (by decide) ?_
        exact b_M_opening_60 X hf hZ11 hS11 (lv_sub hl [] rfl)
    · replace hf := gpos hf h6
      refine lv_aload_n hx hb d_15_38_16 rfl (lv_at hl 0 rfl) ?_
      obtain ⟨r12, F12, B12, hc12, hf⟩ := gbind hf
      refine va_callv (va_runV (As := []) (rest := []) ⟨hx, hb, hml, hown, hts⟩ (c_M_wrong (l := l) hc12) (cwV 0 hts (gdV k_14_124 k_14_126 ks_203 k_1_9 k_14_127) rfl rfl rfl (by decide +kernel) ⟨Nat.le_of_ble_eq_true rfl, Nat.le_of_ble_eq_true rfl⟩) (zPV X hZ4 hS4 (ci := 14) (by decide) (by decide) (r := (RX14, TX14, 107)) rfl []) rfl rfl hl.1 rfl (lv_room (Nat.le_of_ble_eq_true rfl)) d_15_38_17 ⟨Nat.le_of_ble_eq_true rfl, Nat.le_of_ble_eq_true rfl⟩) hS4 (fun q _ h => zAin X hS4 q h) (zAin X hS4) (fun u12 t12 H12 locs12 ht12 hv12 hw12 hB12 hz12 hk12 hS12 => ?_)
      have hZ12 := zBack X ht12 hB12
      refine lv_goto (tgt := 60) hx hb d_15_38_20 (by decide) ?_
      exact b_M_opening_60 X hf hZ12 hS12 (lv_sub hl [] rfl)
  · replace hf := gpos hf h3
    cases hf
    exact W.vret hx hb hr (fun t ht hW => ⟨⟨(), rfl, trivial, by rw [ht]; exact hZ1, va_K.moved hW.alike hK⟩, hS1.F ht⟩) hS1.2.2 d_15_38_7 hlk

abbrev Q_M_length (D : va_G) (ca : Nat → ClassId) (ad : Nat → Int → Nat → Nat) (L : List Nat) (r : Int) (F : zF) (B : zB) (A : Nat → Prop) : Array Value → State → Outcome → State → Prop := va_Qv (S := Unit) (fun _ => True) (fun _ => zPo D ca ad lnM nM L F B A) A
def f_M_length_84 (K : Nat) (l1 : Int) (F : zF) (B : zB) : zO := if 0 ≤ l1 ∧ l1 < 3001 then some (0, F, (zup4 (zup4 B 14 0 32 l1 (F 14 0 20)) 14 0 33 l1 (F 14 0 21))) else none
set_option maxHeartbeats 4000000 in
set_option maxRecDepth 100000 in
theorem b_M_length_84 {D : va_G} {ca : Nat → ClassId} {ad : Nat → Int → Nat → Nat} {L : List Nat} {aS vS : Nat → Nat} {A : Nat → Prop} {p : Program} {l : Launch} {e : Env} {s : State} {m : MethodId} {args : Array Value} {below : List Frame} {meth : Method} {c : Code} {K : Nat} {r : Int} {F9 : zF} {B9 : zB} (X : zX D ca L aS vS A p s m args meth c prog_15_method_50_code 4 (Option.none : Option Jvm.ClassFile.FieldType) "StaveHouseModel") {l1 : Int} {F : zF} {B : zB} {H : Heap} {locs : List Loc} {ls : Array Slot} (hf : f_M_length_84 K l1 F B = some (r, F9, B9)) (hZ : zH D ca ad lnM nM L F B A H) (hS : va_S A s.heap H locs) (hl : lv_has ls 4 [(0, .ref (ad 14 0 0)), (1, .int (iI l1))]) : W p l e ({ frames := 4, cells := 0, slots := 0, locals := 87 } : Room) s m args below meth c H locs 0 0 (MQ below (Q_M_length D ca ad L r F9 B9 A) args s 0 0 A) (F0 m 84 ls []) := by
  obtain ⟨hx, hb, hr, hml, hown, hts, hlk, hK, hA, hL, hX⟩ := id X
  replace hf : (if 0 ≤ l1 ∧ l1 < 3001 then some (0, F, (zup4 (zup4 B 14 0 32 l1 (F 14 0 20)) 14 0 33 l1 (F 14 0 21))) else none) = some (r, F9, B9) := hf
  refine lv_aload_n hx hb d_15_50_84 rfl (lv_at hl 0 rfl) ?_
  refine zget (ci := 14) (C := RX14) (T := TX14) (v := .ref (ad 14 0 (32 + 1))) (k := 32) hx hb hts inW_14 hown hK hZ (by decide) (by decide) rfl (by decide) k_11_30 rfl d_15_50_85 ?_
  refine lv_iload_n hx hb d_15_50_88 rfl (lv_at hl 1 rfl) ?_
  refine lv_aload_n hx hb d_15_50_89 rfl (lv_at hl 0 rfl) ?_
  refine zget (ci := 14) (C := RX14) (T := TX14) (v := .int (iI (F 14 0 20))) (k := 20) hx hb hts inW_14 hown hK hZ (by decide) (by decide) rfl (by decide) k_11_18 rfl d_15_50_90 ?_
  obtain ⟨g20, hf⟩ := gif hf
  refine zast (ci := 14) (k := 32) hx hb hK rfl hZ hS (by decide) (by decide) rfl (Nat.le_of_ble_eq_true rfl) g20.1 g20.2 d_15_50_93 (fun H21 locs21 hZ21 hS21 => ?_)
  refine lv_aload_n hx hb d_15_50_94 rfl (lv_at hl 0 rfl) ?_
  refine zget (ci := 14) (C := RX14) (T := TX14) (v := .ref (ad 14 0 (33 + 1))) (k := 33) hx hb hts inW_14 hown hK hZ21 (by decide) (by decide) rfl (by decide) k_11_31 rfl d_15_50_95 ?_
  refine lv_iload_n hx hb d_15_50_98 rfl (lv_at hl 1 rfl) ?_
  refine lv_aload_n hx hb d_15_50_99 rfl (lv_at hl 0 rfl) ?_
  refine zget (ci := 14) (C := RX14) (T := TX14) (v := .int (iI (F 14 0 21))) (k := 21) hx hb hts inW_14 hown hK hZ21 (by decide) (by decide) rfl (by decide) k_11_19 rfl d_15_50_100 ?_
  refine zast (ci := 14) (k := 33) hx hb hK rfl hZ21 hS21 (by decide) (by decide) rfl (Nat.le_of_ble_eq_true rfl) g20.1 g20.2 d_15_50_103 (fun H22 locs22 hZ22 hS22 => ?_)
  cases hf
  exact W.vret hx hb hr (fun t ht hW => ⟨⟨(), rfl, trivial, by rw [ht]; exact hZ22, va_K.moved hW.alike hK⟩, hS22.F ht⟩) hS22.2.2 d_15_50_104 hlk

def f_M_length_74 (K : Nat) (l3 : Int) (l2 : Int) (l1 : Int) (F : zF) (B : zB) : zO := f_M_length_84 K l1 (zup3 (zup3 F 14 0 20 l2) 14 0 21 l3) B
set_option maxHeartbeats 4000000 in
set_option maxRecDepth 100000 in
theorem b_M_length_74 {D : va_G} {ca : Nat → ClassId} {ad : Nat → Int → Nat → Nat} {L : List Nat} {aS vS : Nat → Nat} {A : Nat → Prop} {p : Program} {l : Launch} {e : Env} {s : State} {m : MethodId} {args : Array Value} {below : List Frame} {meth : Method} {c : Code} {K : Nat} {r : Int} {F9 : zF} {B9 : zB} (X : zX D ca L aS vS A p s m args meth c prog_15_method_50_code 4 (Option.none : Option Jvm.ClassFile.FieldType) "StaveHouseModel") {l3 : Int} {l2 : Int} {l1 : Int} {F : zF} {B : zB} {H : Heap} {locs : List Loc} {ls : Array Slot} (hf : f_M_length_74 K l3 l2 l1 F B = some (r, F9, B9)) (hZ : zH D ca ad lnM nM L F B A H) (hS : va_S A s.heap H locs) (hl : lv_has ls 4 [(3, .int (iI l3)), (2, .int (iI l2)), (0, .ref (ad 14 0 0)), (1, .int (iI l1))]) : W p l e ({ frames := 4, cells := 0, slots := 0, locals := 87 } : Room) s m args below meth c H locs 0 0 (MQ below (Q_M_length D ca ad L r F9 B9 A) args s 0 0 A) (F0 m 74 ls []) := by
  obtain ⟨hx, hb, hr, hml, hown, hts, hlk, hK, hA, hL, hX⟩ := id X
  replace hf : (f_M_length_84 K l1 (zup3 (zup3 F 14 0 20 l2) 14 0 21 l3) B) = some (r, F9, B9) := hf
  refine lv_aload_n hx hb d_15_50_74 rfl (lv_at hl 2 rfl) ?_
  refine lv_iload_n hx hb d_15_50_75 rfl (lv_at hl 1 rfl) ?_
  refine zput (ci := 14) (C := RX14) (T := TX14) (k := 20) (v := l2) (w := .int (iI l2)) hx hb hts inW_14 tyX14 tyX14_ok nmX14 hown hK hZ hS (by decide) (by decide) rfl (by decide) k_11_18 rfl (fun G h => congrArg (fun q => Value.int (iI q)) h) rfl rfl d_15_50_76 (fun H18 locs18 hZ18 hS18 => ?_)
  refine lv_aload_n hx hb d_15_50_79 rfl (lv_at hl 2 rfl) ?_
  refine lv_iload_n hx hb d_15_50_80 rfl (lv_at hl 0 rfl) ?_
  refine zput (ci := 14) (C := RX14) (T := TX14) (k := 21) (v := l3) (w := .int (iI l3)) hx hb hts inW_14 tyX14 tyX14_ok nmX14 hown hK hZ18 hS18 (by decide) (by decide) rfl (by decide) k_11_19 rfl (fun G h => congrArg (fun q => Value.int (iI q)) h) rfl rfl d_15_50_81 (fun H19 locs19 hZ19 hS19 => ?_)
  exact b_M_length_84 X hf hZ19 hS19 (lv_sub hl [2, 3] rfl)

def f_M_length_37 (K : Nat) : Nat → Int → Int → Int → zF → zB → zO
  | 0, _, _, _, _, _ => none
  | n + 1, l3, l2, l1, F, B => zbind (f_M_good K F B) (fun r9 F9 B9 => if r32 r9 then (if r9 = 0 then f_M_length_74 K l3 l2 l1 F9 B9 else if r32 l3 then (if 2 ≤ l3 then f_M_length_74 K l3 l2 l1 F9 B9 else zbind (f_M_isSign K 46 F9 B9) (fun r14 F14 B14 => if r32 r14 then (if r14 = 0 then f_M_length_74 K l3 l2 l1 F14 B14 else f_M_length_37 K n (l3 + 1) l2 l1 (zup3 F14 14 0 16 ((F14 14 0 16) + 1)) B14) else none)) else none) else none)
set_option maxHeartbeats 4000000 in
set_option maxRecDepth 100000 in
theorem b_M_length_37 {D : va_G} {ca : Nat → ClassId} {ad : Nat → Int → Nat → Nat} {L : List Nat} {aS vS : Nat → Nat} {A : Nat → Prop} {p : Program} {l : Launch} {e : Env} {s : State} {m : MethodId} {args : Array Value} {below : List Frame} {meth : Method} {c : Code} {K : Nat} {r : Int} {F9 : zF} {B9 : zB} (X : zX D ca L aS vS A p s m args meth c prog_15_method_50_code 4 (Option.none : Option Jvm.ClassFile.FieldType) "StaveHouseModel") : ∀ {n : Nat} {l3 : Int} {l2 : Int} {l1 : Int} {F : zF} {B : zB} {H : Heap} {locs : List Loc} {ls : Array Slot}, f_M_length_37 K n l3 l2 l1 F B = some (r, F9, B9) → zH D ca ad lnM nM L F B A H → va_S A s.heap H locs → lv_has ls 4 [(3, .int (iI l3)), (2, .int (iI l2)), (0, .ref (ad 14 0 0)), (1, .int (iI l1))] → W p l e ({ frames := 4, cells := 0, slots := 0, locals := 87 } : Room) s m args below meth c H locs 0 0 (MQ below (Q_M_length D ca ad L r F9 B9 A) args s 0 0 A) (F0 m 37 ls []) := by
  obtain ⟨hx, hb, hr, hml, hown, hts, hlk, hK, hA, hL, hX⟩ := id X
  intro n
  induction n with
  | zero =>
    intros
    rename_i hf _ _ _
    cases hf
  | succ n ih =>
    intro l3 l2 l1 F B H locs ls hf hZ hS hl
    replace hf : (zbind (f_M_good K F B) (fun r9 F9 B9 => if r32 r9 then (if r9 = 0 then f_M_length_74 K l3 l2 l1 F9 B9 else if r32 l3 then (if 2 ≤ l3 then f_M_length_74 K l3 l2 l1 F9 B9 else zbind (f_M_isSign K 46 F9 B9) (fun r14 F14 B14 => if r32 r14 then (if r14 = 0 then f_M_length_74 K l3 l2 l1 F14 B14 else f_M_length_37 K n (l3 + 1) l2 l1 (zup3 F14 14 0 16 ((F14 14 0 16) + 1)) B14) else none)) else none) else none)) = some (r, F9, B9) := hf
    refine lv_aload_n hx hb d_15_50_37 rfl (lv_at hl 2 rfl) ?_
    obtain ⟨r9, F9, B9, hc9, hf⟩ := gbind hf
    refine va_calli (va_runV (As := []) (rest := []) ⟨hx, hb, hml, hown, hts⟩ (c_M_good (l := l) hc9) (cwV 0 hts (gdV k_13_15 k_13_17 ks_152 k_1_9 k_13_18) rfl rfl rfl (by decide +kernel) ⟨Nat.le_of_ble_eq_true rfl, Nat.le_of_ble_eq_true rfl⟩) (zPV X hZ hS (ci := 14) (by decide) (by decide) (r := (RX14, TX14, 107)) rfl []) rfl rfl hl.1 rfl (lv_room (Nat.le_of_ble_eq_true rfl)) d_15_50_38 ⟨Nat.le_of_ble_eq_true rfl, Nat.le_of_ble_eq_true rfl⟩) hS (fun q _ h => zAin X hS q h) (zAin X hS) (fun p9 u9 t9 H9 locs9 ht9 hv9 hw9 hB9 hz9 hk9 hS9 => ?_)
    have hZ9 := zBack X ht9 hB9
    subst hw9
    obtain ⟨g10, hf⟩ := gif hf
    refine z0eq (tgt := 74) hx hb g10 d_15_50_41 (by decide) (fun h11 => ?_) (fun h11 => ?_)
    · replace hf := gpos hf h11
      exact b_M_length_74 X hf hZ9 hS9 (lv_sub hl [0, 1, 2, 3] rfl)
    · replace hf := gneg hf h11
      refine lv_iload_n hx hb d_15_50_44 rfl (lv_at hl 0 rfl) ?_
      refine lv_iconst (v := iI 2) hx hb d_15_50_45 rfl ?_
      obtain ⟨g12, hf⟩ := gif hf
      refine zge (tgt := 74) hx hb g12 (by decide) d_15_50_46 (by decide) (fun h13 => ?_) (fun h13 => ?_)
      · replace hf := gpos hf h13
        exact b_M_length_74 X hf hZ9 hS9 (lv_sub hl [0, 1, 2, 3] rfl)
      · replace hf := gneg hf h13
        refine lv_aload_n hx hb d_15_50_49 rfl (lv_at hl 2 rfl) ?_
        refine lv_bipush (v := iI 46) hx hb d_15_50_50 (by decide) ?_
        obtain ⟨r14, F14, B14, hc14, hf⟩ := gbind hf
        refine va_calli (va_runV (As := [.int (iI 46)]) (rest := []) ⟨hx, hb, hml, hown, hts⟩ (c_M_isSign (l := l) hc14) (cwV 1 hts (gdV k_14_136 k_14_138 ks_206 k_1_9 k_14_139) rfl rfl rfl (by decide +kernel) ⟨Nat.le_of_ble_eq_true rfl, Nat.le_of_ble_eq_true rfl⟩) (zPV X hZ9 hS9 (ci := 14) (by decide) (by decide) (r := (RX14, TX14, 107)) rfl [.int (iI 46)]) rfl rfl hl.1 rfl (lv_room (Nat.le_of_ble_eq_true rfl)) d_15_50_52 ⟨Nat.le_of_ble_eq_true rfl, Nat.le_of_ble_eq_true rfl⟩) hS9 (fun q _ h => zAin X hS9 q h) (zAin X hS9) (fun p14 u14 t14 H14 locs14 ht14 hv14 hw14 hB14 hz14 hk14 hS14 => ?_)
        have hZ14 := zBack X ht14 hB14
        subst hw14
        obtain ⟨g15, hf⟩ := gif hf
        refine z0eq (tgt := 74) hx hb g15 d_15_50_55 (by decide) (fun h16 => ?_) (fun h16 => ?_)
        · replace hf := gpos hf h16
          exact b_M_length_74 X hf hZ14 hS14 (lv_sub hl [0, 1, 2, 3] rfl)
        · replace hf := gneg hf h16
          refine lv_iinc (v := iI (l3 + 1)) (lv' := [(3, .int (iI (l3 + 1))), (2, .int (iI l2)), (0, .ref (ad 14 0 0)), (1, .int (iI l1))]) hx hb d_15_50_58 hl (k := 0) rfl (iI_add _ 1) (by decide) rfl (fun ls hl => ?_)
          refine lv_aload_n hx hb d_15_50_61 rfl (lv_at hl 2 rfl) ?_
          refine lv_dup hx hb d_15_50_62 rfl ?_
          refine zget (ci := 14) (C := RX14) (T := TX14) (v := .int (iI (F14 14 0 16))) (k := 16) hx hb hts inW_14 hown hK hZ14 (by decide) (by decide) rfl (by decide) k_11_14 rfl d_15_50_63 ?_
          refine lv_iconst (v := iI 1) hx hb d_15_50_66 rfl ?_
          refine zadd hx hb d_15_50_67 ?_
          refine zput (ci := 14) (C := RX14) (T := TX14) (k := 16) (v := ((F14 14 0 16) + 1)) (w := .int (iI ((F14 14 0 16) + 1))) hx hb hts inW_14 tyX14 tyX14_ok nmX14 hown hK hZ14 hS14 (by decide) (by decide) rfl (by decide) k_11_14 rfl (fun G h => congrArg (fun q => Value.int (iI q)) h) rfl rfl d_15_50_68 (fun H17 locs17 hZ17 hS17 => ?_)
          refine lv_goto (tgt := 37) hx hb d_15_50_71 (by decide) ?_
          exact ih hf hZ17 hS17 (lv_sub hl [0, 1, 2, 3] rfl)

def f_M_length (K : Nat) (l1 : Int) (F : zF) (B : zB) : zO := zbind (f_M_good K F B) (fun r1 F1 B1 => if r32 r1 then (if r1 = 0 then f_M_length_84 K l1 F1 B1 else zbind (f_M_isSign K 58 F1 B1) (fun r4 F4 B4 => if r32 r4 then (if r4 = 0 then f_M_length_84 K l1 F4 B4 else zbind (f_M_number K 1 32 1 (zup3 F4 14 0 16 ((F4 14 0 16) + 1)) B4) (fun r8 F8 B8 => f_M_length_37 K K 0 r8 l1 F8 B8)) else none)) else none)
set_option maxHeartbeats 4000000 in
set_option maxRecDepth 100000 in
theorem c_M_length {l : Launch} {D : va_G} {ca : Nat → ClassId} {ad : Nat → Int → Nat → Nat} {L : List Nat} {aS vS : Nat → Nat} {sz K : Nat} {l1 : Int} {F F9 : zF} {B B9 : zB} {r : Int} (hf : f_M_length K l1 F B = some (r, F9, B9)) : Met l ({ cls := "StaveHouseModel", name := "length", desc := "(I)V" } : Jvm.MethodName) (Cond.code ({ cls := "StaveHouseModel", name := "length", desc := "(I)V" } : Jvm.MethodName) prog_15_method_50_code 4 (Option.none : Option Jvm.ClassFile.FieldType) :: wAll) ({ frames := 4, cells := 0, slots := 0, locals := 87 } : Room) (va_Pc [.ref (ad 14 0 0), .int (iI l1)] (zPre D ca ad lnM nM L aS vS F B sz)) (Q_M_length D ca ad L r F9 B9 (zA L sz)) 0 0 (zA L sz) := by
  refine zMet (Qc := Q_M_length D ca ad L r F9 B9) (lv := [(0, .ref (ad 14 0 0)), (1, .int (iI l1))]) (by decide) (Nat.le_of_ble_eq_true rfl) rfl (fun A p e s m below meth c ls X hZ hS hl => ?_)
  obtain ⟨hx, hb, hr, hml, hown, hts, hlk, hK, hA, hL, hX⟩ := id X
  replace hf : (zbind (f_M_good K F B) (fun r1 F1 B1 => if r32 r1 then (if r1 = 0 then f_M_length_84 K l1 F1 B1 else zbind (f_M_isSign K 58 F1 B1) (fun r4 F4 B4 => if r32 r4 then (if r4 = 0 then f_M_length_84 K l1 F4 B4 else zbind (f_M_number K 1 32 1 (zup3 F4 14 0 16 ((F4 14 0 16) + 1)) B4) (fun r8 F8 B8 => f_M_length_37 K K 0 r8 l1 F8 B8)) else none)) else none)) = some (r, F9, B9) := hf
  refine lv_aload_n hx hb d_15_50_0 rfl (lv_at hl 0 rfl) ?_
  obtain ⟨r1, F1, B1, hc1, hf⟩ := gbind hf
  refine va_calli (va_runV (As := []) (rest := []) ⟨hx, hb, hml, hown, hts⟩ (c_M_good (l := l) hc1) (cwV 0 hts (gdV k_13_15 k_13_17 ks_152 k_1_9 k_13_18) rfl rfl rfl (by decide +kernel) ⟨Nat.le_of_ble_eq_true rfl, Nat.le_of_ble_eq_true rfl⟩) (zPV X hZ hS (ci := 14) (by decide) (by decide) (r := (RX14, TX14, 107)) rfl []) rfl rfl hl.1 rfl (lv_room (Nat.le_of_ble_eq_true rfl)) d_15_50_1 ⟨Nat.le_of_ble_eq_true rfl, Nat.le_of_ble_eq_true rfl⟩) hS (fun q _ h => zAin X hS q h) (zAin X hS) (fun p1 u1 t1 H1 locs1 ht1 hv1 hw1 hB1 hz1 hk1 hS1 => ?_)
  have hZ1 := zBack X ht1 hB1
  subst hw1
  obtain ⟨g2, hf⟩ := gif hf
  refine z0eq (tgt := 84) hx hb g2 d_15_50_4 (by decide) (fun h3 => ?_) (fun h3 => ?_)
  · replace hf := gpos hf h3
    exact b_M_length_84 X hf hZ1 hS1 (lv_sub hl [0, 1] rfl)
  · replace hf := gneg hf h3
    refine lv_aload_n hx hb d_15_50_7 rfl (lv_at hl 0 rfl) ?_
    refine lv_bipush (v := iI 58) hx hb d_15_50_8 (by decide) ?_
    obtain ⟨r4, F4, B4, hc4, hf⟩ := gbind hf
    refine va_calli (va_runV (As := [.int (iI 58)]) (rest := []) ⟨hx, hb, hml, hown, hts⟩ (c_M_isSign (l := l) hc4) (cwV 1 hts (gdV k_14_136 k_14_138 ks_206 k_1_9 k_14_139) rfl rfl rfl (by decide +kernel) ⟨Nat.le_of_ble_eq_true rfl, Nat.le_of_ble_eq_true rfl⟩) (zPV X hZ1 hS1 (ci := 14) (by decide) (by decide) (r := (RX14, TX14, 107)) rfl [.int (iI 58)]) rfl rfl hl.1 rfl (lv_room (Nat.le_of_ble_eq_true rfl)) d_15_50_10 ⟨Nat.le_of_ble_eq_true rfl, Nat.le_of_ble_eq_true rfl⟩) hS1 (fun q _ h => zAin X hS1 q h) (zAin X hS1) (fun p4 u4 t4 H4 locs4 ht4 hv4 hw4 hB4 hz4 hk4 hS4 => ?_)
    have hZ4 := zBack X ht4 hB4
    subst hw4
    obtain ⟨g5, hf⟩ := gif hf
    refine z0eq (tgt := 84) hx hb g5 d_15_50_13 (by decide) (fun h6 => ?_) (fun h6 => ?_)
    · replace hf := gpos hf h6
      exact b_M_length_84 X hf hZ4 hS4 (lv_sub hl [0, 1] rfl)
    · replace hf := gneg hf h6
      refine lv_aload_n hx hb d_15_50_16 rfl (lv_at hl 0 rfl) ?_
      refine lv_dup hx hb d_15_50_17 rfl ?_
      refine zget (ci := 14) (C := RX14) (T := TX14) (v := .int (iI (F4 14 0 16))) (k := 16) hx hb hts inW_14 hown hK hZ4 (by decide) (by decide) rfl (by decide) k_11_14 rfl d_15_50_18 ?_
      refine lv_iconst (v := iI 1) hx hb d_15_50_21 rfl ?_
      refine zadd hx hb d_15_50_22 ?_
      refine zput (ci := 14) (C := RX14) (T := TX14) (k := 16) (v := ((F4 14 0 16) + 1)) (w := .int (iI ((F4 14 0 16) + 1))) hx hb hts inW_14 tyX14 tyX14_ok nmX14 hown hK hZ4 hS4 (by decide) (by decide) rfl (by decide) k_11_14 rfl (fun G h => congrArg (fun q => Value.int (iI q)) h) rfl rfl d_15_50_23 (fun H7 locs7 hZ7 hS7 => ?_)
      refine lv_aload_n hx hb d_15_50_26 rfl (lv_at hl 0 rfl) ?_
      refine lv_iconst (v := iI 1) hx hb d_15_50_27 rfl ?_
      refine lv_bipush (v := iI 32) hx hb d_15_50_28 (by decide) ?_
      refine lv_iconst (v := iI 1) hx hb d_15_50_30 rfl ?_
      obtain ⟨r8, F8, B8, hc8, hf⟩ := gbind hf
      refine va_calli (va_runV (As := [.int (iI 1), .int (iI 32), .int (iI 1)]) (rest := []) ⟨hx, hb, hml, hown, hts⟩ (c_M_number (l := l) hc8) (cwV 3 hts (gdV k_14_140 k_14_142 ks_207 k_1_9 k_14_143) rfl rfl rfl (by decide +kernel) ⟨Nat.le_of_ble_eq_true rfl, Nat.le_of_ble_eq_true rfl⟩) (zPV X hZ7 hS7 (ci := 14) (by decide) (by decide) (r := (RX14, TX14, 107)) rfl [.int (iI 1), .int (iI 32), .int (iI 1)]) rfl rfl hl.1 rfl (lv_room (Nat.le_of_ble_eq_true rfl)) d_15_50_31 ⟨Nat.le_of_ble_eq_true rfl, Nat.le_of_ble_eq_true rfl⟩) hS7 (fun q _ h => zAin X hS7 q h) (zAin X hS7) (fun p8 u8 t8 H8 locs8 ht8 hv8 hw8 hB8 hz8 hk8 hS8 => ?_)
      have hZ8 := zBack X ht8 hB8
      subst hw8
      refine lv_istore_n (lv' := [(2, .int (iI r8)), (0, .ref (ad 14 0 0)), (1, .int (iI l1))]) hx hb d_15_50_34 rfl hl (by decide) rfl (fun ls hl => ?_)
      refine lv_iconst (v := iI 0) hx hb d_15_50_35 rfl ?_
      refine lv_istore_n (lv' := [(3, .int (iI 0)), (2, .int (iI r8)), (0, .ref (ad 14 0 0)), (1, .int (iI l1))]) hx hb d_15_50_36 rfl hl (by decide) rfl (fun ls hl => ?_)
      exact b_M_length_37 X hf hZ8 hS8 (lv_sub hl [0, 1, 2, 3] rfl)

abbrev Q_M_marks (D : va_G) (ca : Nat → ClassId) (ad : Nat → Int → Nat → Nat) (L : List Nat) (r : Int) (F : zF) (B : zB) (A : Nat → Prop) : Array Value → State → Outcome → State → Prop := va_Qv (S := Unit) (fun _ => True) (fun _ => zPo D ca ad lnM nM L F B A) A
def f_M_marks_68 (K : Nat)  (F : zF) (B : zB) : zO := some (0, F, B)
set_option maxHeartbeats 4000000 in
set_option maxRecDepth 100000 in
theorem b_M_marks_68 {D : va_G} {ca : Nat → ClassId} {ad : Nat → Int → Nat → Nat} {L : List Nat} {aS vS : Nat → Nat} {A : Nat → Prop} {p : Program} {l : Launch} {e : Env} {s : State} {m : MethodId} {args : Array Value} {below : List Frame} {meth : Method} {c : Code} {K : Nat} {r : Int} {F9 : zF} {B9 : zB} (X : zX D ca L aS vS A p s m args meth c prog_15_method_52_code 2 (Option.none : Option Jvm.ClassFile.FieldType) "StaveHouseModel")  {F : zF} {B : zB} {H : Heap} {locs : List Loc} {ls : Array Slot} (hf : f_M_marks_68 K  F B = some (r, F9, B9)) (hZ : zH D ca ad lnM nM L F B A H) (hS : va_S A s.heap H locs) (hl : lv_has ls 2 []) : W p l e ({ frames := 3, cells := 0, slots := 0, locals := 63 } : Room) s m args below meth c H locs 0 0 (MQ below (Q_M_marks D ca ad L r F9 B9 A) args s 0 0 A) (F0 m 68 ls []) := by
  obtain ⟨hx, hb, hr, hml, hown, hts, hlk, hK, hA, hL, hX⟩ := id X
  replace hf : (some (0, F, B)) = some (r, F9, B9) := hf
  cases hf
  exact W.vret hx hb hr (fun t ht hW => ⟨⟨(), rfl, trivial, by rw [ht]; exact hZ, va_K.moved hW.alike hK⟩, hS.F ht⟩) hS.2.2 d_15_52_68 hlk

def f_M_marks_7 (K : Nat) : Nat → Int → zF → zB → zO
  | 0, _, _, _ => none
  | n + 1, l1, F, B => zbind (f_M_good K F B) (fun r3 F3 B3 => if r32 r3 then (if r3 = 0 then f_M_marks_68 K F3 B3 else zbind (f_M_markHere K F3 B3) (fun r6 F6 B6 => if r32 r6 then (if r6 ≤ 0 then f_M_marks_68 K F6 B6 else if 0 ≤ l1 ∧ l1 < 3001 then zbind (f_M_markHere K F6 B6) (fun r10 F10 B10 => if r32 (zand (B6 14 0 34 l1) r10) then (if (zand (B6 14 0 34 l1) r10) ≤ 0 then zbind (f_M_markHere K F10 B10) (fun r13 F13 B13 => f_M_marks_7 K n l1 (zup3 F13 14 0 16 ((F13 14 0 16) + 1)) (zup4 B13 14 0 34 l1 (zor (B10 14 0 34 l1) r13))) else zbind (f_M_wrong K F10 B10) (fun r16 F16 B16 => f_M_marks_7 K n l1 F16 B16)) else none) else none) else none)) else none)
set_option maxHeartbeats 4000000 in
set_option maxRecDepth 100000 in
theorem b_M_marks_7 {D : va_G} {ca : Nat → ClassId} {ad : Nat → Int → Nat → Nat} {L : List Nat} {aS vS : Nat → Nat} {A : Nat → Prop} {p : Program} {l : Launch} {e : Env} {s : State} {m : MethodId} {args : Array Value} {below : List Frame} {meth : Method} {c : Code} {K : Nat} {r : Int} {F9 : zF} {B9 : zB} (X : zX D ca L aS vS A p s m args meth c prog_15_method_52_code 2 (Option.none : Option Jvm.ClassFile.FieldType) "StaveHouseModel") : ∀ {n : Nat} {l1 : Int} {F : zF} {B : zB} {H : Heap} {locs : List Loc} {ls : Array Slot}, f_M_marks_7 K n l1 F B = some (r, F9, B9) → zH D ca ad lnM nM L F B A H → va_S A s.heap H locs → lv_has ls 2 [(0, .ref (ad 14 0 0)), (1, .int (iI l1))] → W p l e ({ frames := 3, cells := 0, slots := 0, locals := 63 } : Room) s m args below meth c H locs 0 0 (MQ below (Q_M_marks D ca ad L r F9 B9 A) args s 0 0 A) (F0 m 7 ls []) := by
  obtain ⟨hx, hb, hr, hml, hown, hts, hlk, hK, hA, hL, hX⟩ := id X
  intro n
  induction n with
  | zero =>
    intros
    rename_i hf _ _ _
    cases hf
  | succ n ih =>
    intro l1 F B H locs ls hf hZ hS hl
    replace hf : (zbind (f_M_good K F B) (fun r3 F3 B3 => if r32 r3 then (if r3 = 0 then f_M_marks_68 K F3 B3 else zbind (f_M_markHere K F3 B3) (fun r6 F6 B6 => if r32 r6 then (if r6 ≤ 0 then f_M_marks_68 K F6 B6 else if 0 ≤ l1 ∧ l1 < 3001 then zbind (f_M_markHere K F6 B6) (fun r10 F10 B10 => if r32 (zand (B6 14 0 34 l1) r10) then (if (zand (B6 14 0 34 l1) r10) ≤ 0 then zbind (f_M_markHere K F10 B10) (fun r13 F13 B13 => f_M_marks_7 K n l1 (zup3 F13 14 0 16 ((F13 14 0 16) + 1)) (zup4 B13 14 0 34 l1 (zor (B10 14 0 34 l1) r13))) else zbind (f_M_wrong K F10 B10) (fun r16 F16 B16 => f_M_marks_7 K n l1 F16 B16)) else none) else none) else none)) else none)) = some (r, F9, B9) := hf
    refine lv_aload_n hx hb d_15_52_7 rfl (lv_at hl 0 rfl) ?_
    obtain ⟨r3, F3, B3, hc3, hf⟩ := gbind hf
    refine va_calli (va_runV (As := []) (rest := []) ⟨hx, hb, hml, hown, hts⟩ (c_M_good (l := l) hc3) (cwV 0 hts (gdV k_13_15 k_13_17 ks_152 k_1_9 k_13_18) rfl rfl rfl (by decide +kernel) ⟨Nat.le_of_ble_eq_true rfl, Nat.le_of_ble_eq_true rfl⟩) (zPV X hZ hS (ci := 14) (by decide) (by decide) (r := (RX14, TX14, 107)) rfl []) rfl rfl hl.1 rfl (lv_room (Nat.le_of_ble_eq_true rfl)) d_15_52_8 ⟨Nat.le_of_ble_eq_true rfl, Nat.le_of_ble_eq_true rfl⟩) hS (fun q _ h => zAin X hS q h) (zAin X hS) (fun p3 u3 t3 H3 locs3 ht3 hv3 hw3 hB3 hz3 hk3 hS3 => ?_)
    have hZ3 := zBack X ht3 hB3
    subst hw3
    obtain ⟨g4, hf⟩ := gif hf
    refine z0eq (tgt := 68) hx hb g4 d_15_52_11 (by decide) (fun h5 => ?_) (fun h5 => ?_)
    · replace hf := gpos hf h5
      exact b_M_marks_68 X hf hZ3 hS3 (lv_sub hl [] rfl)
    · replace hf := gneg hf h5
      refine lv_aload_n hx hb d_15_52_14 rfl (lv_at hl 0 rfl) ?_
      obtain ⟨r6, F6, B6, hc6, hf⟩ := gbind hf
      refine va_calli (va_runV (As := []) (rest := []) ⟨hx, hb, hml, hown, hts⟩ (c_M_markHere (l := l) hc6) (cwV 0 hts (gdV k_14_179 k_14_181 ks_216 k_1_9 k_14_182) rfl rfl rfl (by decide +kernel) ⟨Nat.le_of_ble_eq_true rfl, Nat.le_of_ble_eq_true rfl⟩) (zPV X hZ3 hS3 (ci := 14) (by decide) (by decide) (r := (RX14, TX14, 107)) rfl []) rfl rfl hl.1 rfl (lv_room (Nat.le_of_ble_eq_true rfl)) d_15_52_15 ⟨Nat.le_of_ble_eq_true rfl, Nat.le_of_ble_eq_true rfl⟩) hS3 (fun q _ h => zAin X hS3 q h) (zAin X hS3) (fun p6 u6 t6 H6 locs6 ht6 hv6 hw6 hB6 hz6 hk6 hS6 => ?_)
      have hZ6 := zBack X ht6 hB6
      subst hw6
      obtain ⟨g7, hf⟩ := gif hf
      refine z0le (tgt := 68) hx hb g7 d_15_52_18 (by decide) (fun h8 => ?_) (fun h8 => ?_)
      · replace hf := gpos hf h8
        exact b_M_marks_68 X hf hZ6 hS6 (lv_sub hl [] rfl)
      · replace hf := gneg hf h8
        refine lv_aload_n hx hb d_15_52_21 rfl (lv_at hl 0 rfl) ?_
        refine zget (ci := 14) (C := RX14) (T := TX14) (v := .ref (ad 14 0 (34 + 1))) (k := 34) hx hb hts inW_14 hown hK hZ6 (by decide) (by decide) rfl (by decide) k_11_32 rfl d_15_52_22 ?_
        refine lv_iload_n hx hb d_15_52_25 rfl (lv_at hl 1 rfl) ?_
        obtain ⟨g9, hf⟩ := gif hf
        refine zald (ci := 14) (k := 34) hx hb hK rfl hZ6 (by decide) (by decide) rfl (Nat.le_of_ble_eq_true rfl) g9.1 g9.2 d_15_52_26 ?_
        refine lv_aload_n hx hb d_15_52_27 rfl (lv_at hl 0 rfl) ?_
        obtain ⟨r10, F10, B10, hc10, hf⟩ := gbind hf
        refine va_calli (va_runV (As := []) (rest := [.int (iI (B6 14 0 34 l1))]) ⟨hx, hb, hml, hown, hts⟩ (c_M_markHere (l := l) hc10) (cwV 0 hts (gdV k_14_179 k_14_181 ks_216 k_1_9 k_14_182) rfl rfl rfl (by decide +kernel) ⟨Nat.le_of_ble_eq_true rfl, Nat.le_of_ble_eq_true rfl⟩) (zPV X hZ6 hS6 (ci := 14) (by decide) (by decide) (r := (RX14, TX14, 107)) rfl []) rfl rfl hl.1 rfl (lv_room (Nat.le_of_ble_eq_true rfl)) d_15_52_28 ⟨Nat.le_of_ble_eq_true rfl, Nat.le_of_ble_eq_true rfl⟩) hS6 (fun q _ h => zAin X hS6 q h) (zAin X hS6) (fun p10 u10 t10 H10 locs10 ht10 hv10 hw10 hB10 hz10 hk10 hS10 => ?_)
        have hZ10 := zBack X ht10 hB10
        subst hw10
        refine zand_r hx hb d_15_52_31 ?_
        obtain ⟨g11, hf⟩ := gif hf
        refine z0le (tgt := 42) hx hb g11 d_15_52_32 (by decide) (fun h12 => ?_) (fun h12 => ?_)
        · replace hf := gpos hf h12
          refine lv_aload_n hx hb d_15_52_42 rfl (lv_at hl 0 rfl) ?_
          refine zget (ci := 14) (C := RX14) (T := TX14) (v := .ref (ad 14 0 (34 + 1))) (k := 34) hx hb hts inW_14 hown hK hZ10 (by decide) (by decide) rfl (by decide) k_11_32 rfl d_15_52_43 ?_
          refine lv_iload_n hx hb d_15_52_46 rfl (lv_at hl 1 rfl) ?_
          refine lv_dup2_11 hx hb d_15_52_47 rfl rfl ?_
          refine zald (ci := 14) (k := 34) hx hb hK rfl hZ10 (by decide) (by decide) rfl (Nat.le_of_ble_eq_true rfl) g9.1 g9.2 d_15_52_48 ?_
          refine lv_aload_n hx hb d_15_52_49 rfl (lv_at hl 0 rfl) ?_
          obtain ⟨r13, F13, B13, hc13, hf⟩ := gbind hf
          refine va_calli (va_runV (As := []) (rest := [.int (iI (B10 14 0 34 l1)), .int (iI l1), .ref (ad 14 0 (34 + 1))]) ⟨hx, hb, hml, hown, hts⟩ (c_M_markHere (l := l) hc13) (cwV 0 hts (gdV k_14_179 k_14_181 ks_216 k_1_9 k_14_182) rfl rfl rfl (by decide +kernel) ⟨Nat.le_of_ble_eq_true rfl, Nat.le_of_ble_eq_true rfl⟩) (zPV X hZ10 hS10 (ci := 14) (by decide) (by decide) (r := (RX14, TX14, 107)) rfl []) rfl rfl hl.1 rfl (lv_room (Nat.le_of_ble_eq_true rfl)) d_15_52_50 ⟨Nat.le_of_ble_eq_true rfl, Nat.le_of_ble_eq_true rfl⟩) hS10 (fun q _ h => zAin X hS10 q h) (zAin X hS10) (fun p13 u13 t13 H13 locs13 ht13 hv13 hw13 hB13 hz13 hk13 hS13 => ?_)
          have hZ13 := zBack X ht13 hB13
          subst hw13
          refine zor_r hx hb d_15_52_53 ?_
          refine zast (ci := 14) (k := 34) hx hb hK rfl hZ13 hS13 (by decide) (by decide) rfl (Nat.le_of_ble_eq_true rfl) g9.1 g9.2 d_15_52_54 (fun H14 locs14 hZ14 hS14 => ?_)
          refine lv_aload_n hx hb d_15_52_55 rfl (lv_at hl 0 rfl) ?_
          refine lv_dup hx hb d_15_52_56 rfl ?_
          refine zget (ci := 14) (C := RX14) (T := TX14) (v := .int (iI (F13 14 0 16))) (k := 16) hx hb hts inW_14 hown hK hZ14 (by decide) (by decide) rfl (by decide) k_11_14 rfl d_15_52_57 ?_
          refine lv_iconst (v := iI 1) hx hb d_15_52_60 rfl ?_
          refine zadd hx hb d_15_52_61 ?_
          refine zput (ci := 14) (C := RX14) (T := TX14) (k := 16) (v := ((F13 14 0 16) + 1)) (w := .int (iI ((F13 14 0 16) + 1))) hx hb hts inW_14 tyX14 tyX14_ok nmX14 hown hK hZ14 hS14 (by decide) (by decide) rfl (by decide) k_11_14 rfl (fun G h => congrArg (fun q => Value.int (iI q)) h) rfl rfl d_15_52_62 (fun H15 locs15 hZ15 hS15 => ?_)
          refine lv_goto (tgt := 7) hx hb d_15_52_65 (by decide) ?_
          exact ih hf hZ15 hS15 (lv_sub hl [0, 1] rfl)
        · replace hf := gneg hf h12
          refine lv_aload_n hx hb d_15_52_35 rfl (lv_at hl 0 rfl) ?_
          obtain ⟨r16, F16, B16, hc16, hf⟩ := gbind hf
          refine va_callv (va_runV (As := []) (rest := []) ⟨hx, hb, hml, hown, hts⟩ (c_M_wrong (l := l) hc16) (cwV 0 hts (gdV k_14_124 k_14_126 ks_203 k_1_9 k_14_127) rfl rfl rfl (by decide +kernel) ⟨Nat.le_of_ble_eq_true rfl, Nat.le_of_ble_eq_true rfl⟩) (zPV X hZ10 hS10 (ci := 14) (by decide) (by decide) (r := (RX14, TX14, 107)) rfl []) rfl rfl hl.1 rfl (lv_room (Nat.le_of_ble_eq_true rfl)) d_15_52_36 ⟨Nat.le_of_ble_eq_true rfl, Nat.le_of_ble_eq_true rfl⟩) hS10 (fun q _ h => zAin X hS10 q h) (zAin X hS10) (fun u16 t16 H16 locs16 ht16 hv16 hw16 hB16 hz16 hk16 hS16 => ?_)
          have hZ16 := zBack X ht16 hB16
          refine lv_goto (tgt := 7) hx hb d_15_52_39 (by decide) ?_
          exact ih hf hZ16 hS16 (lv_sub hl [0, 1] rfl)

def f_M_marks (K : Nat) (l1 : Int) (F : zF) (B : zB) : zO := if 0 ≤ l1 ∧ l1 < 3001 then f_M_marks_7 K K l1 F (zup4 B 14 0 34 l1 0) else none
set_option maxHeartbeats 4000000 in
set_option maxRecDepth 100000 in
theorem c_M_marks {l : Launch} {D : va_G} {ca : Nat → ClassId} {ad : Nat → Int → Nat → Nat} {L : List Nat} {aS vS : Nat → Nat} {sz K : Nat} {l1 : Int} {F F9 : zF} {B B9 : zB} {r : Int} (hf : f_M_marks K l1 F B = some (r, F9, B9)) : Met l ({ cls := "StaveHouseModel", name := "marks", desc := "(I)V" } : Jvm.MethodName) (Cond.code ({ cls := "StaveHouseModel", name := "marks", desc := "(I)V" } : Jvm.MethodName) prog_15_method_52_code 2 (Option.none : Option Jvm.ClassFile.FieldType) :: wAll) ({ frames := 3, cells := 0, slots := 0, locals := 63 } : Room) (va_Pc [.ref (ad 14 0 0), .int (iI l1)] (zPre D ca ad lnM nM L aS vS F B sz)) (Q_M_marks D ca ad L r F9 B9 (zA L sz)) 0 0 (zA L sz) := by
  refine zMet (Qc := Q_M_marks D ca ad L r F9 B9) (lv := [(0, .ref (ad 14 0 0)), (1, .int (iI l1))]) (by decide) (Nat.le_of_ble_eq_true rfl) rfl (fun A p e s m below meth c ls X hZ hS hl => ?_)
  obtain ⟨hx, hb, hr, hml, hown, hts, hlk, hK, hA, hL, hX⟩ := id X
  replace hf : (if 0 ≤ l1 ∧ l1 < 3001 then f_M_marks_7 K K l1 F (zup4 B 14 0 34 l1 0) else none) = some (r, F9, B9) := hf
  refine lv_aload_n hx hb d_15_52_0 rfl (lv_at hl 0 rfl) ?_
  refine zget (ci := 14) (C := RX14) (T := TX14) (v := .ref (ad 14 0 (34 + 1))) (k := 34) hx hb hts inW_14 hown hK hZ (by decide) (by decide) rfl (by decide) k_11_32 rfl d_15_52_1 ?_
  refine lv_iload_n hx hb d_15_52_4 rfl (lv_at hl 1 rfl) ?_
  refine lv_iconst (v := iI 0) hx hb d_15_52_5 rfl ?_
  obtain ⟨g1, hf⟩ := gif hf
  refine zast (ci := 14) (k := 34) hx hb hK rfl hZ hS (by decide) (by decide) rfl (Nat.le_of_ble_eq_true rfl) g1.1 g1.2 d_15_52_6 (fun H2 locs2 hZ2 hS2 => ?_)
  exact b_M_marks_7 X hf hZ2 hS2 (lv_sub hl [0, 1] rfl)

abbrev Q_M_chord (D : va_G) (ca : Nat → ClassId) (ad : Nat → Int → Nat → Nat) (L : List Nat) (r : Int) (F : zF) (B : zB) (A : Nat → Prop) : Array Value → State → Outcome → State → Prop := va_Qv (S := Unit) (fun _ => True) (fun _ => zPo D ca ad lnM nM L F B A) A
def f_M_chord_77 (K : Nat)  (F : zF) (B : zB) : zO := zbind (f_M_need K 62 F B) (fun r18 F18 B18 => some (0, F18, B18))
set_option maxHeartbeats 4000000 in
set_option maxRecDepth 100000 in
theorem b_M_chord_77 {D : va_G} {ca : Nat → ClassId} {ad : Nat → Int → Nat → Nat} {L : List Nat} {aS vS : Nat → Nat} {A : Nat → Prop} {p : Program} {l : Launch} {e : Env} {s : State} {m : MethodId} {args : Array Value} {below : List Frame} {meth : Method} {c : Code} {K : Nat} {r : Int} {F9 : zF} {B9 : zB} (X : zX D ca L aS vS A p s m args meth c prog_15_method_47_code 2 (Option.none : Option Jvm.ClassFile.FieldType) "StaveHouseModel")  {F : zF} {B : zB} {H : Heap} {locs : List Loc} {ls : Array Slot} (hf : f_M_chord_77 K  F B = some (r, F9, B9)) (hZ : zH D ca ad lnM nM L F B A H) (hS : va_S A s.heap H locs) (hl : lv_has ls 2 [(0, .ref (ad 14 0 0))]) : W p l e ({ frames := 4, cells := 0, slots := 0, locals := 84 } : Room) s m args below meth c H locs 0 0 (MQ below (Q_M_chord D ca ad L r F9 B9 A) args s 0 0 A) (F0 m 77 ls []) := by
  obtain ⟨hx, hb, hr, hml, hown, hts, hlk, hK, hA, hL, hX⟩ := id X
  replace hf : (zbind (f_M_need K 62 F B) (fun r18 F18 B18 => some (0, F18, B18))) = some (r, F9, B9) := hf
  refine lv_aload_n hx hb d_15_47_77 rfl (lv_at hl 0 rfl) ?_
  refine lv_bipush (v := iI 62) hx hb d_15_47_78 (by decide) ?_
  obtain ⟨r18, F18, B18, hc18, hf⟩ := gbind hf
  refine va_callv (va_runV (As := [.int (iI 62)]) (rest := []) ⟨hx, hb, hml, hown, hts⟩ (c_M_need (l := l) hc18) (cwV 1 hts (gdV k_14_144 k_14_146 ks_208 k_1_9 k_14_147) rfl rfl rfl (by decide +kernel) ⟨Nat.le_of_ble_eq_true rfl, Nat.le_of_ble_eq_true rfl⟩) (zPV X hZ hS (ci := 14) (by decide) (by decide) (r := (RX14, TX14, 107)) rfl [.int (iI 62)]) rfl rfl hl.1 rfl (lv_room (Nat.le_of_ble_eq_true rfl)) d_15_47_80 ⟨Nat.le_of_ble_eq_true rfl, Nat.le_of_ble_eq_true rfl⟩) hS (fun q _ h => zAin X hS q h) (zAin X hS) (fun u18 t18 H18 locs18 ht18 hv18 hw18 hB18 hz18 hk18 hS18 => ?_)
  have hZ18 := zBack X ht18 hB18
  cases hf
  exact W.vret hx hb hr (fun t ht hW => ⟨⟨(), rfl, trivial, by rw [ht]; exact hZ18, va_K.moved hW.alike hK⟩, hS18.F ht⟩) hS18.2.2 d_15_47_83 hlk

def f_M_chord_61 (K : Nat) (l1 : Int) (F : zF) (B : zB) : zO := zbind (f_M_good K F B) (fun r12 F12 B12 => if r32 r12 then (if r12 = 0 then f_M_chord_77 K F12 B12 else if r32 l1 then (if 2 ≤ l1 then f_M_chord_77 K F12 B12 else zbind (f_M_wrong K F12 B12) (fun r17 F17 B17 => f_M_chord_77 K F17 B17)) else none) else none)
set_option maxHeartbeats 4000000 in
set_option maxRecDepth 100000 in
theorem b_M_chord_61 {D : va_G} {ca : Nat → ClassId} {ad : Nat → Int → Nat → Nat} {L : List Nat} {aS vS : Nat → Nat} {A : Nat → Prop} {p : Program} {l : Launch} {e : Env} {s : State} {m : MethodId} {args : Array Value} {below : List Frame} {meth : Method} {c : Code} {K : Nat} {r : Int} {F9 : zF} {B9 : zB} (X : zX D ca L aS vS A p s m args meth c prog_15_method_47_code 2 (Option.none : Option Jvm.ClassFile.FieldType) "StaveHouseModel") {l1 : Int} {F : zF} {B : zB} {H : Heap} {locs : List Loc} {ls : Array Slot} (hf : f_M_chord_61 K l1 F B = some (r, F9, B9)) (hZ : zH D ca ad lnM nM L F B A H) (hS : va_S A s.heap H locs) (hl : lv_has ls 2 [(1, .int (iI l1)), (0, .ref (ad 14 0 0))]) : W p l e ({ frames := 4, cells := 0, slots := 0, locals := 84 } : Room) s m args below meth c H locs 0 0 (MQ below (Q_M_chord D ca ad L r F9 B9 A) args s 0 0 A) (F0 m 61 ls []) := by
  obtain ⟨hx, hb, hr, hml, hown, hts, hlk, hK, hA, hL, hX⟩ := id X
  replace hf : (zbind (f_M_good K F B) (fun r12 F12 B12 => if r32 r12 then (if r12 = 0 then f_M_chord_77 K F12 B12 else if r32 l1 then (if 2 ≤ l1 then f_M_chord_77 K F12 B12 else zbind (f_M_wrong K F12 B12) (fun r17 F17 B17 => f_M_chord_77 K F17 B17)) else none) else none)) = some (r, F9, B9) := hf
  refine lv_aload_n hx hb d_15_47_61 rfl (lv_at hl 1 rfl) ?_
  obtain ⟨r12, F12, B12, hc12, hf⟩ := gbind hf
  refine va_calli (va_runV (As := []) (rest := []) ⟨hx, hb, hml, hown, hts⟩ (c_M_good (l := l) hc12) (cwV 0 hts (gdV k_13_15 k_13_17 ks_152 k_1_9 k_13_18) rfl rfl rfl (by decide +kernel) ⟨Nat.le_of_ble_eq_true rfl, Nat.le_of_ble_eq_true rfl⟩) (zPV X hZ hS (ci := 14) (by decide) (by decide) (r := (RX14, TX14, 107)) rfl []) rfl rfl hl.1 rfl (lv_room (Nat.le_of_ble_eq_true rfl)) d_15_47_62 ⟨Nat.le_of_ble_eq_true rfl, Nat.le_of_ble_eq_true rfl⟩) hS (fun q _ h => zAin X hS q h) (zAin X hS) (fun p12 u12 t12 H12 locs12 ht12 hv12 hw12 hB12 hz12 hk12 hS12 => ?_)
  have hZ12 := zBack X ht12 hB12
  subst hw12
  obtain ⟨g13, hf⟩ := gif hf
  refine z0eq (tgt := 77) hx hb g13 d_15_47_65 (by decide) (fun h14 => ?_) (fun h14 => ?_)
  · replace hf := gpos hf h14
    exact b_M_chord_77 X hf hZ12 hS12 (lv_sub hl [1] rfl)
  · replace hf := gneg hf h14
    refine lv_iload_n hx hb d_15_47_68 rfl (lv_at hl 0 rfl) ?_
    refine lv_iconst (v := iI 2) hx hb d_15_47_69 rfl ?_
    obtain ⟨g15, hf⟩ := gif hf
    refine zge (tgt := 77) hx hb g15 (by decide) d_15_47_70 (by decide) (fun h16 => ?_) (fun h16 => ?_)
    · replace hf := gpos hf h16
      exact b_M_chord_77 X hf hZ12 hS12 (lv_sub hl [1] rfl)
    · replace hf := gneg hf h16
      refine lv_aload_n hx hb d_15_47_73 rfl (lv_at hl 1 rfl) ?_
      obtain ⟨r17, F17, B17, hc17, hf⟩ := gbind hf
      refine va_callv (va_runV (As := []) (rest := []) ⟨hx, hb, hml, hown, hts⟩ (c_M_wrong (l := l) hc17) (cwV 0 hts (gdV k_14_124 k_14_126 ks_203 k_1_9 k_14_127) rfl rfl rfl (by decide +kernel) ⟨Nat.le_of_ble_eq_true rfl, Nat.le_of_ble_eq_true rfl⟩) (zPV X hZ12 hS12 (ci := 14) (by decide) (by decide) (r := (RX14, TX14, 107)) rfl []) rfl rfl hl.1 rfl (lv_room (Nat.le_of_ble_eq_true rfl)) d_15_47_74 ⟨Nat.le_of_ble_eq_true rfl, Nat.le_of_ble_eq_true rfl⟩) hS12 (fun q _ h => zAin X hS12 q h) (zAin X hS12) (fun u17 t17 H17 locs17 ht17 hv17 hw17 hB17 hz17 hk17 hS17 => ?_)
      have hZ17 := zBack X ht17 hB17
      exact b_M_chord_77 X hf hZ17 hS17 (lv_sub hl [1] rfl)

def f_M_chord_12 (K : Nat) : Nat → Int → zF → zB → zO
  | 0, _, _, _ => none
  | n + 1, l1, F, B => zbind (f_M_good K F B) (fun r2 F2 B2 => if r32 r2 then (if r2 = 0 then f_M_chord_61 K l1 F2 B2 else if 0 ≤ (F2 14 0 16) ∧ (F2 14 0 16) < 3001 then if r32 (B2 14 0 7 (F2 14 0 16)) then (if (B2 14 0 7 (F2 14 0 16)) = 2 then if r32 l1 then (if l1 = 6 then zbind (f_M_wrong K F2 B2) (fun r11 F11 B11 => f_M_chord_12 K n l1 F11 B11) else f_M_chord_12 K n (l1 + 1) (zup3 F2 14 0 16 ((F2 14 0 16) + 1)) B2) else none else f_M_chord_61 K l1 F2 B2) else none else none) else none)
set_option maxHeartbeats 4000000 in
set_option maxRecDepth 100000 in
theorem b_M_chord_12 {D : va_G} {ca : Nat → ClassId} {ad : Nat → Int → Nat → Nat} {L : List Nat} {aS vS : Nat → Nat} {A : Nat → Prop} {p : Program} {l : Launch} {e : Env} {s : State} {m : MethodId} {args : Array Value} {below : List Frame} {meth : Method} {c : Code} {K : Nat} {r : Int} {F9 : zF} {B9 : zB} (X : zX D ca L aS vS A p s m args meth c prog_15_method_47_code 2 (Option.none : Option Jvm.ClassFile.FieldType) "StaveHouseModel") : ∀ {n : Nat} {l1 : Int} {F : zF} {B : zB} {H : Heap} {locs : List Loc} {ls : Array Slot}, f_M_chord_12 K n l1 F B = some (r, F9, B9) → zH D ca ad lnM nM L F B A H → va_S A s.heap H locs → lv_has ls 2 [(1, .int (iI l1)), (0, .ref (ad 14 0 0))] → W p l e ({ frames := 4, cells := 0, slots := 0, locals := 84 } : Room) s m args below meth c H locs 0 0 (MQ below (Q_M_chord D ca ad L r F9 B9 A) args s 0 0 A) (F0 m 12 ls []) := by
  obtain ⟨hx, hb, hr, hml, hown, hts, hlk, hK, hA, hL, hX⟩ := id X
  intro n
  induction n with
  | zero =>
    intros
    rename_i hf _ _ _
    cases hf
  | succ n ih =>
    intro l1 F B H locs ls hf hZ hS hl
    replace hf : (zbind (f_M_good K F B) (fun r2 F2 B2 => if r32 r2 then (if r2 = 0 then f_M_chord_61 K l1 F2 B2 else if 0 ≤ (F2 14 0 16) ∧ (F2 14 0 16) < 3001 then if r32 (B2 14 0 7 (F2 14 0 16)) then (if (B2 14 0 7 (F2 14 0 16)) = 2 then if r32 l1 then (if l1 = 6 then zbind (f_M_wrong K F2 B2) (fun r11 F11 B11 => f_M_chord_12 K n l1 F11 B11) else f_M_chord_12 K n (l1 + 1) (zup3 F2 14 0 16 ((F2 14 0 16) + 1)) B2) else none else f_M_chord_61 K l1 F2 B2) else none else none) else none)) = some (r, F9, B9) := hf
    refine lv_aload_n hx hb d_15_47_12 rfl (lv_at hl 1 rfl) ?_
    obtain ⟨r2, F2, B2, hc2, hf⟩ := gbind hf
    refine va_calli (va_runV (As := []) (rest := []) ⟨hx, hb, hml, hown, hts⟩ (c_M_good (l := l) hc2) (cwV 0 hts (gdV k_13_15 k_13_17 ks_152 k_1_9 k_13_18) rfl rfl rfl (by decide +kernel) ⟨Nat.le_of_ble_eq_true rfl, Nat.le_of_ble_eq_true rfl⟩) (zPV X hZ hS (ci := 14) (by decide) (by decide) (r := (RX14, TX14, 107)) rfl []) rfl rfl hl.1 rfl (lv_room (Nat.le_of_ble_eq_true rfl)) d_15_47_13 ⟨Nat.le_of_ble_eq_true rfl, Nat.le_of_ble_eq_true rfl⟩) hS (fun q _ h => zAin X hS q h) (zAin X hS) (fun p2 u2 t2 H2 locs2 ht2 hv2 hw2 hB2 hz2 hk2 hS2 => ?_)
    have hZ2 := zBack X ht2 hB2
    subst hw2
    obtain ⟨g3, hf⟩ := gif hf
    refine z0eq (tgt := 61) hx hb g3 d_15_47_16 (by decide) (fun h4 => ?_) (fun h4 => ?_)
    · replace hf := gpos hf h4
      exact b_M_chord_61 X hf hZ2 hS2 (lv_sub hl [0, 1] rfl)
    · replace hf := gneg hf h4
      refine lv_aload_n hx hb d_15_47_19 rfl (lv_at hl 1 rfl) ?_
      refine zget (ci := 14) (C := RX14) (T := TX14) (v := .ref (ad 14 0 (7 + 1))) (k := 7) hx hb hts inW_14 hown hK hZ2 (by decide) (by decide) rfl (by decide) k_11_5 rfl d_15_47_20 ?_
      refine lv_aload_n hx hb d_15_47_23 rfl (lv_at hl 1 rfl) ?_
      refine zget (ci := 14) (C := RX14) (T := TX14) (v := .int (iI (F2 14 0 16))) (k := 16) hx hb hts inW_14 hown hK hZ2 (by decide) (by decide) rfl (by decide) k_11_14 rfl d_15_47_24 ?_
      obtain ⟨g5, hf⟩ := gif hf
      refine zald (ci := 14) (k := 7) hx hb hK rfl hZ2 (by decide) (by decide) rfl (Nat.le_of_ble_eq_true rfl) g5.1 g5.2 d_15_47_27 ?_
      refine lv_iconst (v := iI 2) hx hb d_15_47_28 rfl ?_
      obtain ⟨g6, hf⟩ := gif hf
      refine zne (tgt := 61) hx hb g6 (by decide) d_15_47_29 (by decide) (fun h7 => ?_) (fun h7 => ?_)
      · replace hf := gneg hf h7
        exact b_M_chord_61 X hf hZ2 hS2 (lv_sub hl [0, 1] rfl)
      · replace hf := gpos hf h7
        refine lv_iload_n hx hb d_15_47_32 rfl (lv_at hl 0 rfl) ?_
        refine lv_bipush (v := iI 6) hx hb d_15_47_33 (by decide) ?_
        obtain ⟨g8, hf⟩ := gif hf
        refine zne (tgt := 45) hx hb g8 (by decide) d_15_47_35 (by decide) (fun h9 => ?_) (fun h9 => ?_)
        · replace hf := gneg hf h9
          refine lv_iinc (v := iI (l1 + 1)) (lv' := [(1, .int (iI (l1 + 1))), (0, .ref (ad 14 0 0))]) hx hb d_15_47_45 hl (k := 0) rfl (iI_add _ 1) (by decide) rfl (fun ls hl => ?_)
          refine lv_aload_n hx hb d_15_47_48 rfl (lv_at hl 1 rfl) ?_
          refine lv_dup hx hb d_15_47_49 rfl ?_
          refine zget (ci := 14) (C := RX14) (T := TX14) (v := .int (iI (F2 14 0 16))) (k := 16) hx hb hts inW_14 hown hK hZ2 (by decide) (by decide) rfl (by decide) k_11_14 rfl d_15_47_50 ?_
          refine lv_iconst (v := iI 1) hx hb d_15_47_53 rfl ?_
          refine zadd hx hb d_15_47_54 ?_
          refine zput (ci := 14) (C := RX14) (T := TX14) (k := 16) (v := ((F2 14 0 16) + 1)) (w := .int (iI ((F2 14 0 16) + 1))) hx hb hts inW_14 tyX14 tyX14_ok nmX14 hown hK hZ2 hS2 (by decide) (by decide) rfl (by decide) k_11_14 rfl (fun G h => congrArg (fun q => Value.int (iI q)) h) rfl rfl d_15_47_55 (fun H10 locs10 hZ10 hS10 => ?_)
          refine lv_goto (tgt := 12) hx hb d_15_47_58 (by decide) ?_
          exact ih hf hZ10 hS10 (lv_sub hl [0, 1] rfl)
        · replace hf := gpos hf h9
          refine lv_aload_n hx hb d_15_47_38 rfl (lv_at hl 1 rfl) ?_
          obtain ⟨r11, F11, B11, hc11, hf⟩ := gbind hf
          refine va_callv (va_runV (As := []) (rest := []) ⟨hx, hb, hml, hown, hts⟩ (c_M_wrong (l := l) hc11) (cwV 0 hts (gdV k_14_124 k_14_126 ks_203 k_1_9 k_14_127) rfl rfl rfl (by decide +kernel) ⟨Nat.le_of_ble_eq_true rfl, Nat.le_of_ble_eq_true rfl⟩) (zPV X hZ2 hS2 (ci := 14) (by decide) (by decide) (r := (RX14, TX14, 107)) rfl []) rfl rfl hl.1 rfl (lv_room (Nat.le_of_ble_eq_true rfl)) d_15_47_39 ⟨Nat.le_of_ble_eq_true rfl, Nat.le_of_ble_eq_true rfl⟩) hS2 (fun q _ h => zAin X hS2 q h) (zAin X hS2) (fun u11 t11 H11 locs11 ht11 hv11 hw11 hB11 hz11 hk11 hS11 => ?_)
          have hZ11 := zBack X ht11 hB11
          refine lv_goto (tgt := 12) hx hb d_15_47_42 (by decide) ?_
          exact ih hf hZ11 hS11 (lv_sub hl [0, 1] rfl)

def f_M_chord (K : Nat)  (F : zF) (B : zB) : zO := f_M_chord_12 K K 0 (zup3 F 14 0 16 ((F 14 0 16) + 1)) B
set_option maxHeartbeats 4000000 in
set_option maxRecDepth 100000 in
theorem c_M_chord {l : Launch} {D : va_G} {ca : Nat → ClassId} {ad : Nat → Int → Nat → Nat} {L : List Nat} {aS vS : Nat → Nat} {sz K : Nat}  {F F9 : zF} {B B9 : zB} {r : Int} (hf : f_M_chord K  F B = some (r, F9, B9)) : Met l ({ cls := "StaveHouseModel", name := "chord", desc := "()V" } : Jvm.MethodName) (Cond.code ({ cls := "StaveHouseModel", name := "chord", desc := "()V" } : Jvm.MethodName) prog_15_method_47_code 2 (Option.none : Option Jvm.ClassFile.FieldType) :: wAll) ({ frames := 4, cells := 0, slots := 0, locals := 84 } : Room) (va_Pc [.ref (ad 14 0 0)] (zPre D ca ad lnM nM L aS vS F B sz)) (Q_M_chord D ca ad L r F9 B9 (zA L sz)) 0 0 (zA L sz) := by
  refine zMet (Qc := Q_M_chord D ca ad L r F9 B9) (lv := [(0, .ref (ad 14 0 0))]) (by decide) (Nat.le_of_ble_eq_true rfl) rfl (fun A p e s m below meth c ls X hZ hS hl => ?_)
  obtain ⟨hx, hb, hr, hml, hown, hts, hlk, hK, hA, hL, hX⟩ := id X
  replace hf : (f_M_chord_12 K K 0 (zup3 F 14 0 16 ((F 14 0 16) + 1)) B) = some (r, F9, B9) := hf
  refine lv_aload_n hx hb d_15_47_0 rfl (lv_at hl 0 rfl) ?_
  refine lv_dup hx hb d_15_47_1 rfl ?_
  refine zget (ci := 14) (C := RX14) (T := TX14) (v := .int (iI (F 14 0 16))) (k := 16) hx hb hts inW_14 hown hK hZ (by decide) (by decide) rfl (by decide) k_11_14 rfl d_15_47_2 ?_
  refine lv_iconst (v := iI 1) hx hb d_15_47_5 rfl ?_
  refine zadd hx hb d_15_47_6 ?_
  refine zput (ci := 14) (C := RX14) (T := TX14) (k := 16) (v := ((F 14 0 16) + 1)) (w := .int (iI ((F 14 0 16) + 1))) hx hb hts inW_14 tyX14 tyX14_ok nmX14 hown hK hZ hS (by decide) (by decide) rfl (by decide) k_11_14 rfl (fun G h => congrArg (fun q => Value.int (iI q)) h) rfl rfl d_15_47_7 (fun H1 locs1 hZ1 hS1 => ?_)
  refine lv_iconst (v := iI 0) hx hb d_15_47_10 rfl ?_
  refine lv_istore_n (lv' := [(1, .int (iI 0)), (0, .ref (ad 14 0 0))]) hx hb d_15_47_11 rfl hl (by decide) rfl (fun ls hl => ?_)
  exact b_M_chord_12 X hf hZ1 hS1 (lv_sub hl [0, 1] rfl)

abbrev Q_M_closing (D : va_G) (ca : Nat → ClassId) (ad : Nat → Int → Nat → Nat) (L : List Nat) (r : Int) (F : zF) (B : zB) (A : Nat → Prop) : Array Value → State → Outcome → State → Prop := va_Qv (S := Unit) (fun _ => True) (fun _ => zPo D ca ad lnM nM L F B A) A
def f_M_closing (K : Nat) (l1 : Int) (l2 : Int) (F : zF) (B : zB) : zO := zbind (f_M_good K F B) (fun r1 F1 B1 => if r32 r1 then (if r1 = 0 then some (0, F1, B1) else if 0 ≤ l1 ∧ l1 < 3001 then zbind (f_M_need K l2 F1 (zup4 B1 14 0 30 l1 (F1 14 0 16))) (fun r6 F6 B6 => some (0, (zup3 F6 14 0 19 ((F6 14 0 19) - 1)), B6)) else none) else none)
set_option maxHeartbeats 4000000 in
set_option maxRecDepth 100000 in
theorem c_M_closing {l : Launch} {D : va_G} {ca : Nat → ClassId} {ad : Nat → Int → Nat → Nat} {L : List Nat} {aS vS : Nat → Nat} {sz K : Nat} {l1 : Int} {l2 : Int} {F F9 : zF} {B B9 : zB} {r : Int} (hf : f_M_closing K l1 l2 F B = some (r, F9, B9)) : Met l ({ cls := "StaveHouseModel", name := "closing", desc := "(II)V" } : Jvm.MethodName) (Cond.code ({ cls := "StaveHouseModel", name := "closing", desc := "(II)V" } : Jvm.MethodName) prog_15_method_39_code 3 (Option.none : Option Jvm.ClassFile.FieldType) :: wAll) ({ frames := 4, cells := 0, slots := 0, locals := 84 } : Room) (va_Pc [.ref (ad 14 0 0), .int (iI l1), .int (iI l2)] (zPre D ca ad lnM nM L aS vS F B sz)) (Q_M_closing D ca ad L r F9 B9 (zA L sz)) 0 0 (zA L sz) := by
  refine zMet (Qc := Q_M_closing D ca ad L r F9 B9) (lv := [(0, .ref (ad 14 0 0)), (1, .int (iI l1)), (2, .int (iI l2))]) (by decide) (Nat.le_of_ble_eq_true rfl) rfl (fun A p e s m below meth c ls X hZ hS hl => ?_)
  obtain ⟨hx, hb, hr, hml, hown, hts, hlk, hK, hA, hL, hX⟩ := id X
  replace hf : (zbind (f_M_good K F B) (fun r1 F1 B1 => if r32 r1 then (if r1 = 0 then some (0, F1, B1) else if 0 ≤ l1 ∧ l1 < 3001 then zbind (f_M_need K l2 F1 (zup4 B1 14 0 30 l1 (F1 14 0 16))) (fun r6 F6 B6 => some (0, (zup3 F6 14 0 19 ((F6 14 0 19) - 1)), B6)) else none) else none)) = some (r, F9, B9) := hf
  refine lv_aload_n hx hb d_15_39_0 rfl (lv_at hl 0 rfl) ?_
  obtain ⟨r1, F1, B1, hc1, hf⟩ := gbind hf
  refine va_calli (va_runV (As := []) (rest := []) ⟨hx, hb, hml, hown, hts⟩ (c_M_good (l := l) hc1) (cwV 0 hts (gdV k_13_15 k_13_17 ks_152 k_1_9 k_13_18) rfl rfl rfl (by decide +kernel) ⟨Nat.le_of_ble_eq_true rfl, Nat.le_of_ble_eq_true rfl⟩) (zPV X hZ hS (ci := 14) (by decide) (by decide) (r := (RX14, TX14, 107)) rfl []) rfl rfl hl.1 rfl (lv_room (Nat.le_of_ble_eq_true rfl)) d_15_39_1 ⟨Nat.le_of_ble_eq_true rfl, Nat.le_of_ble_eq_true rfl⟩) hS (fun q _ h => zAin X hS q h) (zAin X hS) (fun p1 u1 t1 H1 locs1 ht1 hv1 hw1 hB1 hz1 hk1 hS1 => ?_)
  have hZ1 := zBack X ht1 hB1
  subst hw1
  obtain ⟨g2, hf⟩ := gif hf
  refine z0ne (tgt := 8) hx hb g2 d_15_39_4 (by decide) (fun h3 => ?_) (fun h3 => ?_)
  · replace hf := gneg hf h3
    refine lv_aload_n hx hb d_15_39_8 rfl (lv_at hl 0 rfl) ?_
    refine zget (ci := 14) (C := RX14) (T := TX14) (v := .ref (ad 14 0 (30 + 1))) (k := 30) hx hb hts inW_14 hown hK hZ1 (by decide) (by decide) rfl (by decide) k_11_28 rfl d_15_39_9 ?_
    refine lv_iload_n hx hb d_15_39_12 rfl (lv_at hl 1 rfl) ?_
    refine lv_aload_n hx hb d_15_39_13 rfl (lv_at hl 0 rfl) ?_
    refine zget (ci := 14) (C := RX14) (T := TX14) (v := .int (iI (F1 14 0 16))) (k := 16) hx hb hts inW_14 hown hK hZ1 (by decide) (by decide) rfl (by decide) k_11_14 rfl d_15_39_14 ?_
    obtain ⟨g4, hf⟩ := gif hf
    refine zast (ci := 14) (k := 30) hx hb hK rfl hZ1 hS1 (by decide) (by decide) rfl (Nat.le_of_ble_eq_true rfl) g4.1 g4.2 d_15_39_17 (fun H5 locs5 hZ5 hS5 => ?_)
    refine lv_aload_n hx hb d_15_39_18 rfl (lv_at hl 0 rfl) ?_
    refine lv_iload_n hx hb d_15_39_19 rfl (lv_at hl 2 rfl) ?_
    obtain ⟨r6, F6, B6, hc6, hf⟩ := gbind hf
    refine va_callv (va_runV (As := [.int (iI l2)]) (rest := []) ⟨hx, hb, hml, hown, hts⟩ (c_M_need (l := l) hc6) (cwV 1 hts (gdV k_14_144 k_14_146 ks_208 k_1_9 k_14_147) rfl rfl rfl (by decide +kernel) ⟨Nat.le_of_ble_eq_true rfl, Nat.le_of_ble_eq_true rfl⟩) (zPV X hZ5 hS5 (ci := 14) (by decide) (by decide) (r := (RX14, TX14, 107)) rfl [.int (iI l2)]) rfl rfl hl.1 rfl (lv_room (Nat.le_of_ble_eq_true rfl)) d_15_39_20 ⟨Nat.le_of_ble_eq_true rfl, Nat.le_of_ble_eq_true rfl⟩) hS5 (fun q _ h => zAin X hS5 q h) (zAin X hS5) (fun u6 t6 H6 locs6 ht6 hv6 hw6 hB6 hz6 hk6 hS6 => ?_)
    have hZ6 := zBack X ht6 hB6
    refine lv_aload_n hx hb d_15_39_23 rfl (lv_at hl 0 rfl) ?_
    refine lv_dup hx hb d_15_39_24 rfl ?_
    refine zget (ci := 14) (C := RX14) (T := TX14) (v := .int (iI (F6 14 0 19))) (k := 19) hx hb hts inW_14 hown hK hZ6 (by decide) (by decide) rfl (by decide) k_11_17 rfl d_15_39_25 ?_
    refine lv_iconst (v := iI 1) hx hb d_15_39_28 rfl ?_
    refine zsub hx hb d_15_39_29 ?_
    refine zput (ci := 14) (C := RX14) (T := TX14) (k := 19) (v := ((F6 14 0 19) - 1)) (w := .int (iI ((F6 14 0 19) - 1))) hx hb hts inW_14 tyX14 tyX14_ok nmX14 hown hK hZ6 hS6 (by decide) (by decide) rfl (by decide) k_11_17 rfl (fun G h => congrArg (fun q => Value.int (iI q)) h) rfl rfl d_15_39_30 (fun H7 locs7 hZ7 hS7 => ?_)
    cases hf
    exact W.vret hx hb hr (fun t ht hW => ⟨⟨(), rfl, trivial, by rw [ht]; exact hZ7, va_K.moved hW.alike hK⟩, hS7.F ht⟩) hS7.2.2 d_15_39_33 hlk
  · replace hf := gpos hf h3
    cases hf
    exact W.vret hx hb hr (fun t ht hW => ⟨⟨(), rfl, trivial, by rw [ht]; exact hZ1, va_K.moved hW.alike hK⟩, hS1.F ht⟩) hS1.2.2 d_15_39_7 hlk

abbrev Q_M_accidentals (D : va_G) (ca : Nat → ClassId) (ad : Nat → Int → Nat → Nat) (L : List Nat) (r : Int) (F : zF) (B : zB) (A : Nat → Prop) : Array Value → State → Outcome → State → Prop := va_Qv (S := Unit) (fun _ => True) (fun _ => zPo D ca ad lnM nM L F B A) A
def f_M_accidentals_206 (rec5 : Int → Int → Int → Int → zF → zB → zO) (K : Nat) (l4 : Int) (l3 : Int) (l1 : Int) (l2 : Int) (F : zF) (B : zB) : zO := rec5 (l4 + 1) l3 l1 l2 F B
set_option maxHeartbeats 4000000 in
set_option maxRecDepth 100000 in
theorem b_M_accidentals_206 {D : va_G} {ca : Nat → ClassId} {ad : Nat → Int → Nat → Nat} {L : List Nat} {aS vS : Nat → Nat} {A : Nat → Prop} {p : Program} {l : Launch} {e : Env} {s : State} {m : MethodId} {args : Array Value} {below : List Frame} {meth : Method} {c : Code} {K : Nat} {r : Int} {F9 : zF} {B9 : zB} (X : zX D ca L aS vS A p s m args meth c prog_15_method_94_code 10 (Option.none : Option Jvm.ClassFile.FieldType) "StaveHouseModel") {rec5 : Int → Int → Int → Int → zF → zB → zO} (hrec5 : ∀ {l4 : Int} {l3 : Int} {l1 : Int} {l2 : Int} {F : zF} {B : zB} {H : Heap} {locs : List Loc} {ls : Array Slot}, rec5 l4 l3 l1 l2 F B = some (r, F9, B9) → zH D ca ad lnM nM L F B A H → va_S A s.heap H locs → lv_has ls 10 [(4, .int (iI l4)), (3, .int (iI l3)), (0, .ref (ad 14 0 0)), (1, .ref (ad 13 l1 0)), (2, .int (iI l2))] → W p l e ({ frames := 3, cells := 0, slots := 0, locals := 66 } : Room) s m args below meth c H locs 0 0 (MQ below (Q_M_accidentals D ca ad L r F9 B9 A) args s 0 0 A) (F0 m 5 ls [])) {l4 : Int} {l3 : Int} {l1 : Int} {l2 : Int} {F : zF} {B : zB} {H : Heap} {locs : List Loc} {ls : Array Slot} (hf : f_M_accidentals_206 rec5 K l4 l3 l1 l2 F B = some (r, F9, B9)) (hZ : zH D ca ad lnM nM L F B A H) (hS : va_S A s.heap H locs) (hl : lv_has ls 10 [(4, .int (iI l4)), (3, .int (iI l3)), (0, .ref (ad 14 0 0)), (1, .ref (ad 13 l1 0)), (2, .int (iI l2))]) : W p l e ({ frames := 3, cells := 0, slots := 0, locals := 66 } : Room) s m args below meth c H locs 0 0 (MQ below (Q_M_accidentals D ca ad L r F9 B9 A) args s 0 0 A) (F0 m 206 ls []) := by
  obtain ⟨hx, hb, hr, hml, hown, hts, hlk, hK, hA, hL, hX⟩ := id X
  replace hf : (rec5 (l4 + 1) l3 l1 l2 F B) = some (r, F9, B9) := hf
  refine lv_iinc (v := iI (l4 + 1)) (lv' := [(4, .int (iI (l4 + 1))), (3, .int (iI l3)), (0, .ref (ad 14 0 0)), (1, .ref (ad 13 l1 0)), (2, .int (iI l2))]) hx hb d_15_94_206 hl (k := 0) rfl (iI_add _ 1) (by decide) rfl (fun ls hl => ?_)
  refine lv_goto (tgt := 5) hx hb d_15_94_209 (by decide) ?_
  exact hrec5 hf hZ hS (lv_sub hl [0, 1, 2, 3, 4] rfl)

def f_M_accidentals_200 (rec5 : Int → Int → Int → Int → zF → zB → zO) (rec100 : Int → Int → Int → Int → Int → Int → Int → zF → zB → zO) (K : Nat) (l7 : Int) (l6 : Int) (l5 : Int) (l4 : Int) (l3 : Int) (l1 : Int) (l2 : Int) (F : zF) (B : zB) : zO := rec100 (l7 + 1) l6 l5 l4 l3 l1 l2 F B
set_option maxHeartbeats 4000000 in
set_option maxRecDepth 100000 in
theorem b_M_accidentals_200 {D : va_G} {ca : Nat → ClassId} {ad : Nat → Int → Nat → Nat} {L : List Nat} {aS vS : Nat → Nat} {A : Nat → Prop} {p : Program} {l : Launch} {e : Env} {s : State} {m : MethodId} {args : Array Value} {below : List Frame} {meth : Method} {c : Code} {K : Nat} {r : Int} {F9 : zF} {B9 : zB} (X : zX D ca L aS vS A p s m args meth c prog_15_method_94_code 10 (Option.none : Option Jvm.ClassFile.FieldType) "StaveHouseModel") {rec5 : Int → Int → Int → Int → zF → zB → zO} {rec100 : Int → Int → Int → Int → Int → Int → Int → zF → zB → zO} (hrec5 : ∀ {l4 : Int} {l3 : Int} {l1 : Int} {l2 : Int} {F : zF} {B : zB} {H : Heap} {locs : List Loc} {ls : Array Slot}, rec5 l4 l3 l1 l2 F B = some (r, F9, B9) → zH D ca ad lnM nM L F B A H → va_S A s.heap H locs → lv_has ls 10 [(4, .int (iI l4)), (3, .int (iI l3)), (0, .ref (ad 14 0 0)), (1, .ref (ad 13 l1 0)), (2, .int (iI l2))] → W p l e ({ frames := 3, cells := 0, slots := 0, locals := 66 } : Room) s m args below meth c H locs 0 0 (MQ below (Q_M_accidentals D ca ad L r F9 B9 A) args s 0 0 A) (F0 m 5 ls [])) (hrec100 : ∀ {l7 : Int} {l6 : Int} {l5 : Int} {l4 : Int} {l3 : Int} {l1 : Int} {l2 : Int} {F : zF} {B : zB} {H : Heap} {locs : List Loc} {ls : Array Slot}, rec100 l7 l6 l5 l4 l3 l1 l2 F B = some (r, F9, B9) → zH D ca ad lnM nM L F B A H → va_S A s.heap H locs → lv_has ls 10 [(7, .int (iI l7)), (6, .int (iI l6)), (5, .int (iI l5)), (4, .int (iI l4)), (3, .int (iI l3)), (0, .ref (ad 14 0 0)), (1, .ref (ad 13 l1 0)), (2, .int (iI l2))] → W p l e ({ frames := 3, cells := 0, slots := 0, locals := 66 } : Room) s m args below meth c H locs 0 0 (MQ below (Q_M_accidentals D ca ad L r F9 B9 A) args s 0 0 A) (F0 m 100 ls [])) {l7 : Int} {l6 : Int} {l5 : Int} {l4 : Int} {l3 : Int} {l1 : Int} {l2 : Int} {F : zF} {B : zB} {H : Heap} {locs : List Loc} {ls : Array Slot} (hf : f_M_accidentals_200 rec5 rec100 K l7 l6 l5 l4 l3 l1 l2 F B = some (r, F9, B9)) (hZ : zH D ca ad lnM nM L F B A H) (hS : va_S A s.heap H locs) (hl : lv_has ls 10 [(7, .int (iI l7)), (6, .int (iI l6)), (5, .int (iI l5)), (4, .int (iI l4)), (3, .int (iI l3)), (0, .ref (ad 14 0 0)), (1, .ref (ad 13 l1 0)), (2, .int (iI l2))]) : W p l e ({ frames := 3, cells := 0, slots := 0, locals := 66 } : Room) s m args below meth c H locs 0 0 (MQ below (Q_M_accidentals D ca ad L r F9 B9 A) args s 0 0 A) (F0 m 200 ls []) := by
  obtain ⟨hx, hb, hr, hml, hown, hts, hlk, hK, hA, hL, hX⟩ := id X
  replace hf : (rec100 (l7 + 1) l6 l5 l4 l3 l1 l2 F B) = some (r, F9, B9) := hf
  refine lv_iinc (v := iI (l7 + 1)) (lv' := [(7, .int (iI (l7 + 1))), (6, .int (iI l6)), (5, .int (iI l5)), (4, .int (iI l4)), (3, .int (iI l3)), (0, .ref (ad 14 0 0)), (1, .ref (ad 13 l1 0)), (2, .int (iI l2))]) hx hb d_15_94_200 hl (k := 0) rfl (iI_add _ 1) (by decide) rfl (fun ls hl => ?_)
  refine lv_goto (tgt := 100) hx hb d_15_94_203 (by decide) ?_
  exact hrec100 hf hZ hS (lv_sub hl [0, 1, 2, 3, 4, 5, 6, 7] rfl)

def f_M_accidentals_100 (rec5 : Int → Int → Int → Int → zF → zB → zO) (K : Nat) : Nat → Int → Int → Int → Int → Int → Int → Int → zF → zB → zO
  | 0, _, _, _, _, _, _, _, _, _ => none
  | n + 1, l7, l6, l5, l4, l3, l1, l2, F, B => if r32 l6 then (if l6 < 0 then f_M_accidentals_206 rec5 K l4 l3 l1 l2 F B else if 0 ≤ l1 ∧ l1 < 3 then if 0 ≤ l6 ∧ l6 < 4000 then if r32 l7 then if r32 (B 13 l1 21 l6) then (if (B 13 l1 21 l6) ≤ l7 then f_M_accidentals_206 rec5 K l4 l3 l1 l2 F B else if 0 ≤ ((6 * l6) + l7) ∧ ((6 * l6) + l7) < 24000 then zbind (f_M_comesOn K l1 l2 l4 (B 13 l1 28 ((6 * l6) + l7)) (B 13 l1 29 ((6 * l6) + l7)) F B) (fun r30 F30 B30 => if r32 r30 then (if r30 = 0 then if 0 ≤ (B 13 l1 28 ((6 * l6) + l7)) ∧ (B 13 l1 28 ((6 * l6) + l7)) < 63 then if r32 (B30 14 0 58 (B 13 l1 28 ((6 * l6) + l7))) then if r32 (B 13 l1 29 ((6 * l6) + l7)) then (if (B30 14 0 58 (B 13 l1 28 ((6 * l6) + l7))) = (B 13 l1 29 ((6 * l6) + l7)) then f_M_accidentals_200 rec5 (f_M_accidentals_100 rec5 K n) K l7 l6 l5 l4 l3 l1 l2 F30 B30 else if 0 ≤ l5 ∧ l5 < 3200 then f_M_accidentals_200 rec5 (f_M_accidentals_100 rec5 K n) K l7 l6 l5 l4 l3 l1 l2 F30 (zup4 (zup4 B30 13 l1 37 l5 (zor (B30 13 l1 37 l5) (zshl 1 l7))) 14 0 58 (B 13 l1 28 ((6 * l6) + l7)) (B 13 l1 29 ((6 * l6) + l7))) else none) else none else none else none else f_M_accidentals_200 rec5 (f_M_accidentals_100 rec5 K n) K l7 l6 l5 l4 l3 l1 l2 F30 B30) else none) else none) else none else none else none else none) else none
set_option maxHeartbeats 4000000 in
set_option maxRecDepth 100000 in
theorem b_M_accidentals_100 {D : va_G} {ca : Nat → ClassId} {ad : Nat → Int → Nat → Nat} {L : List Nat} {aS vS : Nat → Nat} {A : Nat → Prop} {p : Program} {l : Launch} {e : Env} {s : State} {m : MethodId} {args : Array Value} {below : List Frame} {meth : Method} {c : Code} {K : Nat} {r : Int} {F9 : zF} {B9 : zB} (X : zX D ca L aS vS A p s m args meth c prog_15_method_94_code 10 (Option.none : Option Jvm.ClassFile.FieldType) "StaveHouseModel") {rec5 : Int → Int → Int → Int → zF → zB → zO} (hrec5 : ∀ {l4 : Int} {l3 : Int} {l1 : Int} {l2 : Int} {F : zF} {B : zB} {H : Heap} {locs : List Loc} {ls : Array Slot}, rec5 l4 l3 l1 l2 F B = some (r, F9, B9) → zH D ca ad lnM nM L F B A H → va_S A s.heap H locs → lv_has ls 10 [(4, .int (iI l4)), (3, .int (iI l3)), (0, .ref (ad 14 0 0)), (1, .ref (ad 13 l1 0)), (2, .int (iI l2))] → W p l e ({ frames := 3, cells := 0, slots := 0, locals := 66 } : Room) s m args below meth c H locs 0 0 (MQ below (Q_M_accidentals D ca ad L r F9 B9 A) args s 0 0 A) (F0 m 5 ls [])) : ∀ {n : Nat} {l7 : Int} {l6 : Int} {l5 : Int} {l4 : Int} {l3 : Int} {l1 : Int} {l2 : Int} {F : zF} {B : zB} {H : Heap} {locs : List Loc} {ls : Array Slot}, f_M_accidentals_100 rec5 K n l7 l6 l5 l4 l3 l1 l2 F B = some (r, F9, B9) → zH D ca ad lnM nM L F B A H → va_S A s.heap H locs → lv_has ls 10 [(7, .int (iI l7)), (6, .int (iI l6)), (5, .int (iI l5)), (4, .int (iI l4)), (3, .int (iI l3)), (0, .ref (ad 14 0 0)), (1, .ref (ad 13 l1 0)), (2, .int (iI l2))] → W p l e ({ frames := 3, cells := 0, slots := 0, locals := 66 } : Room) s m args below meth c H locs 0 0 (MQ below (Q_M_accidentals D ca ad L r F9 B9 A) args s 0 0 A) (F0 m 100 ls []) := by
  obtain ⟨hx, hb, hr, hml, hown, hts, hlk, hK, hA, hL, hX⟩ := id X
  intro n
  induction n with
  | zero =>
    intros
    rename_i hf _ _ _
    cases hf
  | succ n ih =>
    intro l7 l6 l5 l4 l3 l1 l2 F B H locs ls hf hZ hS hl
    replace hf : (if r32 l6 then (if l6 < 0 then f_M_accidentals_206 rec5 K l4 l3 l1 l2 F B else if 0 ≤ l1 ∧ l1 < 3 then if 0 ≤ l6 ∧ l6 < 4000 then if r32 l7 then if r32 (B 13 l1 21 l6) then (if (B 13 l1 21 l6) ≤ l7 then f_M_accidentals_206 rec5 K l4 l3 l1 l2 F B else if 0 ≤ ((6 * l6) + l7) ∧ ((6 * l6) + l7) < 24000 then zbind (f_M_comesOn K l1 l2 l4 (B 13 l1 28 ((6 * l6) + l7)) (B 13 l1 29 ((6 * l6) + l7)) F B) (fun r30 F30 B30 => if r32 r30 then (if r30 = 0 then if 0 ≤ (B 13 l1 28 ((6 * l6) + l7)) ∧ (B 13 l1 28 ((6 * l6) + l7)) < 63 then if r32 (B30 14 0 58 (B 13 l1 28 ((6 * l6) + l7))) then if r32 (B 13 l1 29 ((6 * l6) + l7)) then (if (B30 14 0 58 (B 13 l1 28 ((6 * l6) + l7))) = (B 13 l1 29 ((6 * l6) + l7)) then f_M_accidentals_200 rec5 (f_M_accidentals_100 rec5 K n) K l7 l6 l5 l4 l3 l1 l2 F30 B30 else if 0 ≤ l5 ∧ l5 < 3200 then f_M_accidentals_200 rec5 (f_M_accidentals_100 rec5 K n) K l7 l6 l5 l4 l3 l1 l2 F30 (zup4 (zup4 B30 13 l1 37 l5 (zor (B30 13 l1 37 l5) (zshl 1 l7))) 14 0 58 (B 13 l1 28 ((6 * l6) + l7)) (B 13 l1 29 ((6 * l6) + l7))) else none) else none else none else none else f_M_accidentals_200 rec5 (f_M_accidentals_100 rec5 K n) K l7 l6 l5 l4 l3 l1 l2 F30 B30) else none) else none) else none else none else none else none) else none) = some (r, F9, B9) := hf
    refine lv_iload hx hb d_15_94_100 (lv_at hl 1 rfl) ?_
    obtain ⟨g22, hf⟩ := gif hf
    refine z0lt (tgt := 206) hx hb g22 d_15_94_102 (by decide) (fun h23 => ?_) (fun h23 => ?_)
    · replace hf := gpos hf h23
      exact b_M_accidentals_206 X hrec5 hf hZ hS (lv_sub hl [3, 4, 5, 6, 7] rfl)
    · replace hf := gneg hf h23
      refine lv_iload hx hb d_15_94_105 (lv_at hl 0 rfl) ?_
      refine lv_aload_n hx hb d_15_94_107 rfl (lv_at hl 6 rfl) ?_
      obtain ⟨g24, hf⟩ := gif hf
      refine zget (ci := 13) (C := RX13) (T := TX13) (v := .ref (ad 13 l1 (21 + 1))) (k := 21) hx hb hts inW_13 hown hK hZ g24.1 g24.2 rfl (by decide) k_9_160 rfl d_15_94_108 ?_
      refine lv_iload hx hb d_15_94_111 (lv_at hl 1 rfl) ?_
      obtain ⟨g25, hf⟩ := gif hf
      refine zald (ci := 13) (k := 21) hx hb hK rfl hZ g24.1 g24.2 rfl (Nat.le_of_ble_eq_true rfl) g25.1 g25.2 d_15_94_113 ?_
      obtain ⟨g26, hf⟩ := gif hf
      obtain ⟨g27, hf⟩ := gif hf
      refine zge (tgt := 206) hx hb g26 g27 d_15_94_114 (by decide) (fun h28 => ?_) (fun h28 => ?_)
      · replace hf := gpos hf h28
        exact b_M_accidentals_206 X hrec5 hf hZ hS (lv_sub hl [3, 4, 5, 6, 7] rfl)
      · replace hf := gneg hf h28
        refine lv_aload_n hx hb d_15_94_117 rfl (lv_at hl 6 rfl) ?_
        refine zget (ci := 13) (C := RX13) (T := TX13) (v := .ref (ad 13 l1 (28 + 1))) (k := 28) hx hb hts inW_13 hown hK hZ g24.1 g24.2 rfl (by decide) k_9_174 rfl d_15_94_118 ?_
        refine lv_bipush (v := iI 6) hx hb d_15_94_121 (by decide) ?_
        refine lv_iload hx hb d_15_94_123 (lv_at hl 1 rfl) ?_
        refine zmul hx hb d_15_94_125 ?_
        refine lv_iload hx hb d_15_94_126 (lv_at hl 0 rfl) ?_
        refine zadd hx hb d_15_94_128 ?_
        obtain ⟨g29, hf⟩ := gif hf
        refine zald (ci := 13) (k := 28) hx hb hK rfl hZ g24.1 g24.2 rfl (Nat.le_of_ble_eq_true rfl) g29.1 g29.2 d_15_94_129 ?_
        refine lv_istore (lv' := [(8, .int (iI (B 13 l1 28 ((6 * l6) + l7)))), (7, .int (iI l7)), (6, .int (iI l6)), (5, .int (iI l5)), (4, .int (iI l4)), (3, .int (iI l3)), (0, .ref (ad 14 0 0)), (1, .ref (ad 13 l1 0)), (2, .int (iI l2))]) hx hb d_15_94_130 hl (by decide) rfl (fun ls hl => ?_)
        refine lv_aload_n hx hb d_15_94_132 rfl (lv_at hl 7 rfl) ?_
        refine zget (ci := 13) (C := RX13) (T := TX13) (v := .ref (ad 13 l1 (29 + 1))) (k := 29) hx hb hts inW_13 hown hK hZ g24.1 g24.2 rfl (by decide) k_9_176 rfl d_15_94_133 ?_
        refine lv_bipush (v := iI 6) hx hb d_15_94_136 (by decide) ?_
        refine lv_iload hx hb d_15_94_138 (lv_at hl 2 rfl) ?_
        refine zmul hx hb d_15_94_140 ?_
        refine lv_iload hx hb d_15_94_141 (lv_at hl 1 rfl) ?_
        refine zadd hx hb d_15_94_143 ?_
        refine zald (ci := 13) (k := 29) hx hb hK rfl hZ g24.1 g24.2 rfl (Nat.le_of_ble_eq_true rfl) g29.1 g29.2 d_15_94_144 ?_
        refine lv_istore (lv' := [(9, .int (iI (B 13 l1 29 ((6 * l6) + l7)))), (8, .int (iI (B 13 l1 28 ((6 * l6) + l7)))), (7, .int (iI l7)), (6, .int (iI l6)), (5, .int (iI l5)), (4, .int (iI l4)), (3, .int (iI l3)), (0, .ref (ad 14 0 0)), (1, .ref (ad 13 l1 0)), (2, .int (iI l2))]) hx hb d_15_94_145 hl (by decide) rfl (fun ls hl => ?_)
        refine lv_aload_n hx hb d_15_94_147 rfl (lv_at hl 7 rfl) ?_
        refine lv_aload_n hx hb d_15_94_148 rfl (lv_at hl 8 rfl) ?_
        refine lv_iload_n hx hb d_15_94_149 rfl (lv_at hl 9 rfl) ?_
        refine lv_iload hx hb d_15_94_150 (lv_at hl 5 rfl) ?_
        refine lv_iload hx hb d_15_94_152 (lv_at hl 1 rfl) ?_
        refine lv_iload hx hb d_15_94_154 (lv_at hl 0 rfl) ?_
        obtain ⟨r30, F30, B30, hc30, hf⟩ := gbind hf
        refine va_calli (va_runV (As := [.ref (ad 13 l1 0), .int (iI l2), .int (iI l4), .int (iI (B 13 l1 28 ((6 * l6) + l7))), .int (iI (B 13 l1 29 ((6 * l6) + l7)))]) (rest := []) ⟨hx, hb, hml, hown, hts⟩ (c_M_comesOn (l := l) hc30) (cwV 5 hts (gdV k_15_60 k_15_62 ks_243 k_1_9 k_15_63) rfl rfl rfl (by decide +kernel) ⟨Nat.le_of_ble_eq_true rfl, Nat.le_of_ble_eq_true rfl⟩) (zPV X hZ hS (ci := 14) (by decide) (by decide) (r := (RX14, TX14, 107)) rfl [.ref (ad 13 l1 0), .int (iI l2), .int (iI l4), .int (iI (B 13 l1 28 ((6 * l6) + l7))), .int (iI (B 13 l1 29 ((6 * l6) + l7)))]) rfl rfl hl.1 rfl (lv_room (Nat.le_of_ble_eq_true rfl)) d_15_94_156 ⟨Nat.le_of_ble_eq_true rfl, Nat.le_of_ble_eq_true rfl⟩) hS (fun q _ h => zAin X hS q h) (zAin X hS) (fun p30 u30 t30 H30 locs30 ht30 hv30 hw30 hB30 hz30 hk30 hS30 => ?_)
        have hZ30 := zBack X ht30 hB30
        subst hw30
        obtain ⟨g31, hf⟩ := gif hf
        refine z0ne (tgt := 200) hx hb g31 d_15_94_159 (by decide) (fun h32 => ?_) (fun h32 => ?_)
        · replace hf := gneg hf h32
          exact b_M_accidentals_200 X hrec5 ih hf hZ30 hS30 (lv_sub hl [2, 3, 4, 5, 6, 7, 8, 9] rfl)
        · replace hf := gpos hf h32
          refine lv_aload_n hx hb d_15_94_162 rfl (lv_at hl 7 rfl) ?_
          refine zget (ci := 14) (C := RX14) (T := TX14) (v := .ref (ad 14 0 (58 + 1))) (k := 58) hx hb hts inW_14 hown hK hZ30 (by decide) (by decide) rfl (by decide) k_11_56 rfl d_15_94_163 ?_
          refine lv_iload hx hb d_15_94_166 (lv_at hl 1 rfl) ?_
          obtain ⟨g33, hf⟩ := gif hf
          refine zald (ci := 14) (k := 58) hx hb hK rfl hZ30 (by decide) (by decide) rfl (Nat.le_of_ble_eq_true rfl) g33.1 g33.2 d_15_94_168 ?_
          refine lv_iload hx hb d_15_94_169 (lv_at hl 0 rfl) ?_
          obtain ⟨g34, hf⟩ := gif hf
          obtain ⟨g35, hf⟩ := gif hf
          refine zne (tgt := 177) hx hb g34 g35 d_15_94_171 (by decide) (fun h36 => ?_) (fun h36 => ?_)
          · replace hf := gneg hf h36
            refine lv_aload_n hx hb d_15_94_177 rfl (lv_at hl 8 rfl) ?_
            refine zget (ci := 13) (C := RX13) (T := TX13) (v := .ref (ad 13 l1 (37 + 1))) (k := 37) hx hb hts inW_13 hown hK hZ30 g24.1 g24.2 rfl (by decide) k_9_192 rfl d_15_94_178 ?_
            refine lv_iload hx hb d_15_94_181 (lv_at hl 4 rfl) ?_
            refine lv_dup2_11 hx hb d_15_94_183 rfl rfl ?_
            obtain ⟨g37, hf⟩ := gif hf
            refine zald (ci := 13) (k := 37) hx hb hK rfl hZ30 g24.1 g24.2 rfl (Nat.le_of_ble_eq_true rfl) g37.1 g37.2 d_15_94_184 ?_
            refine lv_iconst (v := iI 1) hx hb d_15_94_185 rfl ?_
            refine lv_iload hx hb d_15_94_186 (lv_at hl 2 rfl) ?_
            refine zshl_r hx hb d_15_94_188 ?_
            refine zor_r hx hb d_15_94_189 ?_
            refine zast (ci := 13) (k := 37) hx hb hK rfl hZ30 hS30 g24.1 g24.2 rfl (Nat.le_of_ble_eq_true rfl) g37.1 g37.2 d_15_94_190 (fun H38 locs38 hZ38 hS38 => ?_)
            refine lv_aload_n hx hb d_15_94_191 rfl (lv_at hl 7 rfl) ?_
            refine zget (ci := 14) (C := RX14) (T := TX14) (v := .ref (ad 14 0 (58 + 1))) (k := 58) hx hb hts inW_14 hown hK hZ38 (by decide) (by decide) rfl (by decide) k_11_56 rfl d_15_94_192 ?_
            refine lv_iload hx hb d_15_94_195 (lv_at hl 1 rfl) ?_
            refine lv_iload hx hb d_15_94_197 (lv_at hl 0 rfl) ?_
            refine zast (ci := 14) (k := 58) hx hb hK rfl hZ38 hS38 (by decide) (by decide) rfl (Nat.le_of_ble_eq_true rfl) g33.1 g33.2 d_15_94_199 (fun H39 locs39 hZ39 hS39 => ?_)
            exact b_M_accidentals_200 X hrec5 ih hf hZ39 hS39 (lv_sub hl [2, 3, 4, 5, 6, 7, 8, 9] rfl)
          · replace hf := gpos hf h36
            refine lv_goto (tgt := 200) hx hb d_15_94_174 (by decide) ?_
            exact b_M_accidentals_200 X hrec5 ih hf hZ30 hS30 (lv_sub hl [2, 3, 4, 5, 6, 7, 8, 9] rfl)

def f_M_accidentals_80 (rec5 : Int → Int → Int → Int → zF → zB → zO) (K : Nat) (l5 : Int) (l4 : Int) (l3 : Int) (l1 : Int) (l2 : Int) (F : zF) (B : zB) : zO := if 0 ≤ l1 ∧ l1 < 3 then if 0 ≤ l5 ∧ l5 < 3200 then zbind (f_M_sounding K l1 l2 l4 F (zup4 B 13 l1 37 l5 0)) (fun r21 F21 B21 => f_M_accidentals_100 rec5 K K 0 r21 l5 l4 l3 l1 l2 F21 B21) else none else none
set_option maxHeartbeats 4000000 in
set_option maxRecDepth 100000 in
theorem b_M_accidentals_80 {D : va_G} {ca : Nat → ClassId} {ad : Nat → Int → Nat → Nat} {L : List Nat} {aS vS : Nat → Nat} {A : Nat → Prop} {p : Program} {l : Launch} {e : Env} {s : State} {m : MethodId} {args : Array Value} {below : List Frame} {meth : Method} {c : Code} {K : Nat} {r : Int} {F9 : zF} {B9 : zB} (X : zX D ca L aS vS A p s m args meth c prog_15_method_94_code 10 (Option.none : Option Jvm.ClassFile.FieldType) "StaveHouseModel") {rec5 : Int → Int → Int → Int → zF → zB → zO} (hrec5 : ∀ {l4 : Int} {l3 : Int} {l1 : Int} {l2 : Int} {F : zF} {B : zB} {H : Heap} {locs : List Loc} {ls : Array Slot}, rec5 l4 l3 l1 l2 F B = some (r, F9, B9) → zH D ca ad lnM nM L F B A H → va_S A s.heap H locs → lv_has ls 10 [(4, .int (iI l4)), (3, .int (iI l3)), (0, .ref (ad 14 0 0)), (1, .ref (ad 13 l1 0)), (2, .int (iI l2))] → W p l e ({ frames := 3, cells := 0, slots := 0, locals := 66 } : Room) s m args below meth c H locs 0 0 (MQ below (Q_M_accidentals D ca ad L r F9 B9 A) args s 0 0 A) (F0 m 5 ls [])) {l5 : Int} {l4 : Int} {l3 : Int} {l1 : Int} {l2 : Int} {F : zF} {B : zB} {H : Heap} {locs : List Loc} {ls : Array Slot} (hf : f_M_accidentals_80 rec5 K l5 l4 l3 l1 l2 F B = some (r, F9, B9)) (hZ : zH D ca ad lnM nM L F B A H) (hS : va_S A s.heap H locs) (hl : lv_has ls 10 [(5, .int (iI l5)), (4, .int (iI l4)), (3, .int (iI l3)), (0, .ref (ad 14 0 0)), (1, .ref (ad 13 l1 0)), (2, .int (iI l2))]) : W p l e ({ frames := 3, cells := 0, slots := 0, locals := 66 } : Room) s m args below meth c H locs 0 0 (MQ below (Q_M_accidentals D ca ad L r F9 B9 A) args s 0 0 A) (F0 m 80 ls []) := by
  obtain ⟨hx, hb, hr, hml, hown, hts, hlk, hK, hA, hL, hX⟩ := id X
  replace hf : (if 0 ≤ l1 ∧ l1 < 3 then if 0 ≤ l5 ∧ l5 < 3200 then zbind (f_M_sounding K l1 l2 l4 F (zup4 B 13 l1 37 l5 0)) (fun r21 F21 B21 => f_M_accidentals_100 rec5 K K 0 r21 l5 l4 l3 l1 l2 F21 B21) else none else none) = some (r, F9, B9) := hf
  refine lv_aload_n hx hb d_15_94_80 rfl (lv_at hl 4 rfl) ?_
  obtain ⟨g18, hf⟩ := gif hf
  refine zget (ci := 13) (C := RX13) (T := TX13) (v := .ref (ad 13 l1 (37 + 1))) (k := 37) hx hb hts inW_13 hown hK hZ g18.1 g18.2 rfl (by decide) k_9_192 rfl d_15_94_81 ?_
  refine lv_iload hx hb d_15_94_84 (lv_at hl 0 rfl) ?_
  refine lv_iconst (v := iI 0) hx hb d_15_94_86 rfl ?_
  obtain ⟨g19, hf⟩ := gif hf
  refine zast (ci := 13) (k := 37) hx hb hK rfl hZ hS g18.1 g18.2 rfl (Nat.le_of_ble_eq_true rfl) g19.1 g19.2 d_15_94_87 (fun H20 locs20 hZ20 hS20 => ?_)
  refine lv_aload_n hx hb d_15_94_88 rfl (lv_at hl 4 rfl) ?_
  refine lv_iload_n hx hb d_15_94_89 rfl (lv_at hl 5 rfl) ?_
  refine lv_iload hx hb d_15_94_90 (lv_at hl 1 rfl) ?_
  obtain ⟨r21, F21, B21, hc21, hf⟩ := gbind hf
  refine va_calli (va_runS (As := [.ref (ad 13 l1 0), .int (iI l2), .int (iI l4)]) (rest := []) ⟨hx, hb, hml, hown, hts⟩ (c_M_sounding (l := l) hc21) (va_cwS 3 hts (gdS k_13_199 k_13_200 k_1_9 k_13_201) rfl rfl rfl (by decide +kernel) ⟨Nat.le_of_ble_eq_true rfl, Nat.le_of_ble_eq_true rfl⟩) (zPS X hZ20 hS20 [.ref (ad 13 l1 0), .int (iI l2), .int (iI l4)]) rfl rfl hl.1 rfl (lv_room (Nat.le_of_ble_eq_true rfl)) d_15_94_92 ⟨Nat.le_of_ble_eq_true rfl, Nat.le_of_ble_eq_true rfl⟩) hS20 (fun q _ h => zAin X hS20 q h) (zAin X hS20) (fun p21 u21 t21 H21 locs21 ht21 hv21 hw21 hB21 hz21 hk21 hS21 => ?_)
  have hZ21 := zBack X ht21 hB21
  subst hw21
  refine lv_istore (lv' := [(6, .int (iI r21)), (5, .int (iI l5)), (4, .int (iI l4)), (3, .int (iI l3)), (0, .ref (ad 14 0 0)), (1, .ref (ad 13 l1 0)), (2, .int (iI l2))]) hx hb d_15_94_95 hl (by decide) rfl (fun ls hl => ?_)
  refine lv_iconst (v := iI 0) hx hb d_15_94_97 rfl ?_
  refine lv_istore (lv' := [(7, .int (iI 0)), (6, .int (iI r21)), (5, .int (iI l5)), (4, .int (iI l4)), (3, .int (iI l3)), (0, .ref (ad 14 0 0)), (1, .ref (ad 13 l1 0)), (2, .int (iI l2))]) hx hb d_15_94_98 hl (by decide) rfl (fun ls hl => ?_)
  exact b_M_accidentals_100 X hrec5 hf hZ21 hS21 (lv_sub hl [0, 1, 2, 3, 4, 5, 6, 7] rfl)

def f_M_accidentals_40 (rec5 : Int → Int → Int → Int → zF → zB → zO) (K : Nat) : Nat → Int → Int → Int → Int → Int → zF → zB → zO
  | 0, _, _, _, _, _, _, _ => none
  | n + 1, l6, l5, l4, l1, l2, F, B => if r32 l6 then (if 63 ≤ l6 then if 0 ≤ l1 ∧ l1 < 3 then if 0 ≤ l5 ∧ l5 < 3200 then f_M_accidentals_80 rec5 K l5 l4 (B 13 l1 31 l5) l1 l2 F B else none else none else if 0 ≤ l1 ∧ l1 < 3 then zbind (f_M_inKey K (F 13 l1 2) (zrm l6 7) F B) (fun r15 F15 B15 => if 0 ≤ l6 ∧ l6 < 63 then f_M_accidentals_40 rec5 K n (l6 + 1) l5 l4 l1 l2 F15 (zup4 B15 14 0 58 l6 r15) else none) else none) else none
set_option maxHeartbeats 4000000 in
set_option maxRecDepth 100000 in
theorem b_M_accidentals_40 {D : va_G} {ca : Nat → ClassId} {ad : Nat → Int → Nat → Nat} {L : List Nat} {aS vS : Nat → Nat} {A : Nat → Prop} {p : Program} {l : Launch} {e : Env} {s : State} {m : MethodId} {args : Array Value} {below : List Frame} {meth : Method} {c : Code} {K : Nat} {r : Int} {F9 : zF} {B9 : zB} (X : zX D ca L aS vS A p s m args meth c prog_15_method_94_code 10 (Option.none : Option Jvm.ClassFile.FieldType) "StaveHouseModel") {rec5 : Int → Int → Int → Int → zF → zB → zO} (hrec5 : ∀ {l4 : Int} {l3 : Int} {l1 : Int} {l2 : Int} {F : zF} {B : zB} {H : Heap} {locs : List Loc} {ls : Array Slot}, rec5 l4 l3 l1 l2 F B = some (r, F9, B9) → zH D ca ad lnM nM L F B A H → va_S A s.heap H locs → lv_has ls 10 [(4, .int (iI l4)), (3, .int (iI l3)), (0, .ref (ad 14 0 0)), (1, .ref (ad 13 l1 0)), (2, .int (iI l2))] → W p l e ({ frames := 3, cells := 0, slots := 0, locals := 66 } : Room) s m args below meth c H locs 0 0 (MQ below (Q_M_accidentals D ca ad L r F9 B9 A) args s 0 0 A) (F0 m 5 ls [])) : ∀ {n : Nat} {l6 : Int} {l5 : Int} {l4 : Int} {l1 : Int} {l2 : Int} {F : zF} {B : zB} {H : Heap} {locs : List Loc} {ls : Array Slot}, f_M_accidentals_40 rec5 K n l6 l5 l4 l1 l2 F B = some (r, F9, B9) → zH D ca ad lnM nM L F B A H → va_S A s.heap H locs → lv_has ls 10 [(6, .int (iI l6)), (5, .int (iI l5)), (4, .int (iI l4)), (0, .ref (ad 14 0 0)), (1, .ref (ad 13 l1 0)), (2, .int (iI l2))] → W p l e ({ frames := 3, cells := 0, slots := 0, locals := 66 } : Room) s m args below meth c H locs 0 0 (MQ below (Q_M_accidentals D ca ad L r F9 B9 A) args s 0 0 A) (F0 m 40 ls []) := by
  obtain ⟨hx, hb, hr, hml, hown, hts, hlk, hK, hA, hL, hX⟩ := id X
  intro n
  induction n with
  | zero =>
    intros
    rename_i hf _ _ _
    cases hf
  | succ n ih =>
    intro l6 l5 l4 l1 l2 F B H locs ls hf hZ hS hl
    replace hf : (if r32 l6 then (if 63 ≤ l6 then if 0 ≤ l1 ∧ l1 < 3 then if 0 ≤ l5 ∧ l5 < 3200 then f_M_accidentals_80 rec5 K l5 l4 (B 13 l1 31 l5) l1 l2 F B else none else none else if 0 ≤ l1 ∧ l1 < 3 then zbind (f_M_inKey K (F 13 l1 2) (zrm l6 7) F B) (fun r15 F15 B15 => if 0 ≤ l6 ∧ l6 < 63 then f_M_accidentals_40 rec5 K n (l6 + 1) l5 l4 l1 l2 F15 (zup4 B15 14 0 58 l6 r15) else none) else none) else none) = some (r, F9, B9) := hf
    refine lv_iload hx hb d_15_94_40 (lv_at hl 0 rfl) ?_
    refine lv_bipush (v := iI 63) hx hb d_15_94_42 (by decide) ?_
    obtain ⟨g10, hf⟩ := gif hf
    refine zge (tgt := 72) hx hb g10 (by decide) d_15_94_44 (by decide) (fun h11 => ?_) (fun h11 => ?_)
    · replace hf := gpos hf h11
      refine lv_aload_n hx hb d_15_94_72 rfl (lv_at hl 4 rfl) ?_
      obtain ⟨g12, hf⟩ := gif hf
      refine zget (ci := 13) (C := RX13) (T := TX13) (v := .ref (ad 13 l1 (31 + 1))) (k := 31) hx hb hts inW_13 hown hK hZ g12.1 g12.2 rfl (by decide) k_9_180 rfl d_15_94_73 ?_
      refine lv_iload hx hb d_15_94_76 (lv_at hl 1 rfl) ?_
      obtain ⟨g13, hf⟩ := gif hf
      refine zald (ci := 13) (k := 31) hx hb hK rfl hZ g12.1 g12.2 rfl (Nat.le_of_ble_eq_true rfl) g13.1 g13.2 d_15_94_78 ?_
      refine lv_istore_n (lv' := [(3, .int (iI (B 13 l1 31 l5))), (6, .int (iI l6)), (5, .int (iI l5)), (4, .int (iI l4)), (0, .ref (ad 14 0 0)), (1, .ref (ad 13 l1 0)), (2, .int (iI l2))]) hx hb d_15_94_79 rfl hl (by decide) rfl (fun ls hl => ?_)
      exact b_M_accidentals_80 X hrec5 hf hZ hS (lv_sub hl [2, 3, 0, 4, 5, 6] rfl)
    · replace hf := gneg hf h11
      refine lv_aload_n hx hb d_15_94_47 rfl (lv_at hl 3 rfl) ?_
      refine zget (ci := 14) (C := RX14) (T := TX14) (v := .ref (ad 14 0 (58 + 1))) (k := 58) hx hb hts inW_14 hown hK hZ (by decide) (by decide) rfl (by decide) k_11_56 rfl d_15_94_48 ?_
      refine lv_iload hx hb d_15_94_51 (lv_at hl 0 rfl) ?_
      refine lv_aload_n hx hb d_15_94_53 rfl (lv_at hl 4 rfl) ?_
      obtain ⟨g14, hf⟩ := gif hf
      refine zget (ci := 13) (C := RX13) (T := TX13) (v := .int (iI (F 13 l1 2))) (k := 2) hx hb hts inW_13 hown hK hZ g14.1 g14.2 rfl (by decide) k_9_127 rfl d_15_94_54 ?_
      refine lv_iload hx hb d_15_94_57 (lv_at hl 0 rfl) ?_
      refine lv_bipush (v := iI 7) hx hb d_15_94_59 (by decide) ?_
      refine zrm_r hx hb (by decide) d_15_94_61 ?_
      obtain ⟨r15, F15, B15, hc15, hf⟩ := gbind hf
      refine va_calli (va_runS (As := [.int (iI (F 13 l1 2)), .int (iI (zrm l6 7))]) (rest := [.int (iI l6), .ref (ad 14 0 (58 + 1))]) ⟨hx, hb, hml, hown, hts⟩ (c_M_inKey (l := l) hc15) (va_cwS 2 hts (gdS k_12_161 k_12_162 k_1_9 k_12_163) rfl rfl rfl (by decide +kernel) ⟨Nat.le_of_ble_eq_true rfl, Nat.le_of_ble_eq_true rfl⟩) (zPS X hZ hS [.int (iI (F 13 l1 2)), .int (iI (zrm l6 7))]) rfl rfl hl.1 rfl (lv_room (Nat.le_of_ble_eq_true rfl)) d_15_94_62 ⟨Nat.le_of_ble_eq_true rfl, Nat.le_of_ble_eq_true rfl⟩) hS (fun q _ h => zAin X hS q h) (zAin X hS) (fun p15 u15 t15 H15 locs15 ht15 hv15 hw15 hB15 hz15 hk15 hS15 => ?_)
      have hZ15 := zBack X ht15 hB15
      subst hw15
      obtain ⟨g16, hf⟩ := gif hf
      refine zast (ci := 14) (k := 58) hx hb hK rfl hZ15 hS15 (by decide) (by decide) rfl (Nat.le_of_ble_eq_true rfl) g16.1 g16.2 d_15_94_65 (fun H17 locs17 hZ17 hS17 => ?_)
      refine lv_iinc (v := iI (l6 + 1)) (lv' := [(6, .int (iI (l6 + 1))), (5, .int (iI l5)), (4, .int (iI l4)), (0, .ref (ad 14 0 0)), (1, .ref (ad 13 l1 0)), (2, .int (iI l2))]) hx hb d_15_94_66 hl (k := 0) rfl (iI_add _ 1) (by decide) rfl (fun ls hl => ?_)
      refine lv_goto (tgt := 40) hx hb d_15_94_69 (by decide) ?_
      exact ih hf hZ17 hS17 (lv_sub hl [0, 1, 2, 3, 4, 5] rfl)

def f_M_accidentals_5 (K : Nat) : Nat → Int → Int → Int → Int → zF → zB → zO
  | 0, _, _, _, _, _, _ => none
  | n + 1, l4, l3, l1, l2, F, B => if 0 ≤ l1 ∧ l1 < 3 then if 0 ≤ l2 ∧ l2 < 4 then if r32 l4 then if r32 (B 13 l1 13 l2) then (if (B 13 l1 13 l2) ≤ l4 then some (0, F, B) else if 0 ≤ ((800 * l2) + l4) ∧ ((800 * l2) + l4) < 3200 then if r32 (B 13 l1 31 ((800 * l2) + l4)) then if r32 l3 then (if (B 13 l1 31 ((800 * l2) + l4)) = l3 then f_M_accidentals_80 (f_M_accidentals_5 K n) K ((800 * l2) + l4) l4 l3 l1 l2 F B else f_M_accidentals_40 (f_M_accidentals_5 K n) K K 0 ((800 * l2) + l4) l4 l1 l2 F B) else none else none else none) else none else none else none else none
set_option maxHeartbeats 4000000 in
set_option maxRecDepth 100000 in
theorem b_M_accidentals_5 {D : va_G} {ca : Nat → ClassId} {ad : Nat → Int → Nat → Nat} {L : List Nat} {aS vS : Nat → Nat} {A : Nat → Prop} {p : Program} {l : Launch} {e : Env} {s : State} {m : MethodId} {args : Array Value} {below : List Frame} {meth : Method} {c : Code} {K : Nat} {r : Int} {F9 : zF} {B9 : zB} (X : zX D ca L aS vS A p s m args meth c prog_15_method_94_code 10 (Option.none : Option Jvm.ClassFile.FieldType) "StaveHouseModel") : ∀ {n : Nat} {l4 : Int} {l3 : Int} {l1 : Int} {l2 : Int} {F : zF} {B : zB} {H : Heap} {locs : List Loc} {ls : Array Slot}, f_M_accidentals_5 K n l4 l3 l1 l2 F B = some (r, F9, B9) → zH D ca ad lnM nM L F B A H → va_S A s.heap H locs → lv_has ls 10 [(4, .int (iI l4)), (3, .int (iI l3)), (0, .ref (ad 14 0 0)), (1, .ref (ad 13 l1 0)), (2, .int (iI l2))] → W p l e ({ frames := 3, cells := 0, slots := 0, locals := 66 } : Room) s m args below meth c H locs 0 0 (MQ below (Q_M_accidentals D ca ad L r F9 B9 A) args s 0 0 A) (F0 m 5 ls []) := by
  obtain ⟨hx, hb, hr, hml, hown, hts, hlk, hK, hA, hL, hX⟩ := id X
  intro n
  induction n with
  | zero =>
    intros
    rename_i hf _ _ _
    cases hf
  | succ n ih =>
    intro l4 l3 l1 l2 F B H locs ls hf hZ hS hl
    replace hf : (if 0 ≤ l1 ∧ l1 < 3 then if 0 ≤ l2 ∧ l2 < 4 then if r32 l4 then if r32 (B 13 l1 13 l2) then (if (B 13 l1 13 l2) ≤ l4 then some (0, F, B) else if 0 ≤ ((800 * l2) + l4) ∧ ((800 * l2) + l4) < 3200 then if r32 (B 13 l1 31 ((800 * l2) + l4)) then if r32 l3 then (if (B 13 l1 31 ((800 * l2) + l4)) = l3 then f_M_accidentals_80 (f_M_accidentals_5 K n) K ((800 * l2) + l4) l4 l3 l1 l2 F B else f_M_accidentals_40 (f_M_accidentals_5 K n) K K 0 ((800 * l2) + l4) l4 l1 l2 F B) else none else none else none) else none else none else none else none) = some (r, F9, B9) := hf
    refine lv_iload hx hb d_15_94_5 (lv_at hl 0 rfl) ?_
    refine lv_aload_n hx hb d_15_94_7 rfl (lv_at hl 3 rfl) ?_
    obtain ⟨g1, hf⟩ := gif hf
    refine zget (ci := 13) (C := RX13) (T := TX13) (v := .ref (ad 13 l1 (13 + 1))) (k := 13) hx hb hts inW_13 hown hK hZ g1.1 g1.2 rfl (by decide) k_9_144 rfl d_15_94_8 ?_
    refine lv_iload_n hx hb d_15_94_11 rfl (lv_at hl 4 rfl) ?_
    obtain ⟨g2, hf⟩ := gif hf
    refine zald (ci := 13) (k := 13) hx hb hK rfl hZ g1.1 g1.2 rfl (Nat.le_of_ble_eq_true rfl) g2.1 g2.2 d_15_94_12 ?_
    obtain ⟨g3, hf⟩ := gif hf
    obtain ⟨g4, hf⟩ := gif hf
    refine zge (tgt := 212) hx hb g3 g4 d_15_94_13 (by decide) (fun h5 => ?_) (fun h5 => ?_)
    · replace hf := gpos hf h5
      cases hf
      exact W.vret hx hb hr (fun t ht hW => ⟨⟨(), rfl, trivial, by rw [ht]; exact hZ, va_K.moved hW.alike hK⟩, hS.F ht⟩) hS.2.2 d_15_94_212 hlk
    · replace hf := gneg hf h5
      refine lv_sipush (v := iI 800) hx hb d_15_94_16 (by decide) ?_
      refine lv_iload_n hx hb d_15_94_19 rfl (lv_at hl 4 rfl) ?_
      refine zmul hx hb d_15_94_20 ?_
      refine lv_iload hx hb d_15_94_21 (lv_at hl 0 rfl) ?_
      refine zadd hx hb d_15_94_23 ?_
      refine lv_istore (lv' := [(5, .int (iI ((800 * l2) + l4))), (4, .int (iI l4)), (3, .int (iI l3)), (0, .ref (ad 14 0 0)), (1, .ref (ad 13 l1 0)), (2, .int (iI l2))]) hx hb d_15_94_24 hl (by decide) rfl (fun ls hl => ?_)
      refine lv_aload_n hx hb d_15_94_26 rfl (lv_at hl 4 rfl) ?_
      refine zget (ci := 13) (C := RX13) (T := TX13) (v := .ref (ad 13 l1 (31 + 1))) (k := 31) hx hb hts inW_13 hown hK hZ g1.1 g1.2 rfl (by decide) k_9_180 rfl d_15_94_27 ?_
      refine lv_iload hx hb d_15_94_30 (lv_at hl 0 rfl) ?_
      obtain ⟨g6, hf⟩ := gif hf
      refine zald (ci := 13) (k := 31) hx hb hK rfl hZ g1.1 g1.2 rfl (Nat.le_of_ble_eq_true rfl) g6.1 g6.2 d_15_94_32 ?_
      refine lv_iload_n hx hb d_15_94_33 rfl (lv_at hl 2 rfl) ?_
      obtain ⟨g7, hf⟩ := gif hf
      obtain ⟨g8, hf⟩ := gif hf
      refine zeq (tgt := 80) hx hb g7 g8 d_15_94_34 (by decide) (fun h9 => ?_) (fun h9 => ?_)
      · replace hf := gpos hf h9
        exact b_M_accidentals_80 X ih hf hZ hS (lv_sub hl [0, 1, 2, 3, 4, 5] rfl)
      · replace hf := gneg hf h9
        refine lv_iconst (v := iI 0) hx hb d_15_94_37 rfl ?_
        refine lv_istore (lv' := [(6, .int (iI 0)), (5, .int (iI ((800 * l2) + l4))), (4, .int (iI l4)), (3, .int (iI l3)), (0, .ref (ad 14 0 0)), (1, .ref (ad 13 l1 0)), (2, .int (iI l2))]) hx hb d_15_94_38 hl (by decide) rfl (fun ls hl => ?_)
        exact b_M_accidentals_40 X ih hf hZ hS (lv_sub hl [0, 1, 2, 4, 5, 6] rfl)

def f_M_accidentals (K : Nat) (l1 : Int) (l2 : Int) (F : zF) (B : zB) : zO := f_M_accidentals_5 K K 0 (-1) l1 l2 F B
set_option maxHeartbeats 4000000 in
set_option maxRecDepth 100000 in
theorem c_M_accidentals {l : Launch} {D : va_G} {ca : Nat → ClassId} {ad : Nat → Int → Nat → Nat} {L : List Nat} {aS vS : Nat → Nat} {sz K : Nat} {l1 : Int} {l2 : Int} {F F9 : zF} {B B9 : zB} {r : Int} (hf : f_M_accidentals K l1 l2 F B = some (r, F9, B9)) : Met l ({ cls := "StaveHouseModel", name := "accidentals", desc := "(LStaveHouseModel$Piece;I)V" } : Jvm.MethodName) (Cond.code ({ cls := "StaveHouseModel", name := "accidentals", desc := "(LStaveHouseModel$Piece;I)V" } : Jvm.MethodName) prog_15_method_94_code 10 (Option.none : Option Jvm.ClassFile.FieldType) :: wAll) ({ frames := 3, cells := 0, slots := 0, locals := 66 } : Room) (va_Pc [.ref (ad 14 0 0), .ref (ad 13 l1 0), .int (iI l2)] (zPre D ca ad lnM nM L aS vS F B sz)) (Q_M_accidentals D ca ad L r F9 B9 (zA L sz)) 0 0 (zA L sz) := by
  refine zMet (Qc := Q_M_accidentals D ca ad L r F9 B9) (lv := [(0, .ref (ad 14 0 0)), (1, .ref (ad 13 l1 0)), (2, .int (iI l2))]) (by decide) (Nat.le_of_ble_eq_true rfl) rfl (fun A p e s m below meth c ls X hZ hS hl => ?_)
  obtain ⟨hx, hb, hr, hml, hown, hts, hlk, hK, hA, hL, hX⟩ := id X
  replace hf : (f_M_accidentals_5 K K 0 (-1) l1 l2 F B) = some (r, F9, B9) := hf
  refine lv_iconst (v := iI (-1)) hx hb d_15_94_0 rfl ?_
  refine lv_istore_n (lv' := [(3, .int (iI (-1))), (0, .ref (ad 14 0 0)), (1, .ref (ad 13 l1 0)), (2, .int (iI l2))]) hx hb d_15_94_1 rfl hl (by decide) rfl (fun ls hl => ?_)
  refine lv_iconst (v := iI 0) hx hb d_15_94_2 rfl ?_
  refine lv_istore (lv' := [(4, .int (iI 0)), (3, .int (iI (-1))), (0, .ref (ad 14 0 0)), (1, .ref (ad 13 l1 0)), (2, .int (iI l2))]) hx hb d_15_94_3 hl (by decide) rfl (fun ls hl => ?_)
  exact b_M_accidentals_5 X hf hZ hS (lv_sub hl [0, 1, 2, 3, 4] rfl)

abbrev Q_M_ledgers (D : va_G) (ca : Nat → ClassId) (ad : Nat → Int → Nat → Nat) (L : List Nat) (r : Int) (F : zF) (B : zB) (A : Nat → Prop) : Array Value → State → Outcome → State → Prop := va_Qi (S := Unit) (fun p _ => p = iI r) (fun _ => zPo D ca ad lnM nM L F B A) A
def f_M_ledgers_65 (K : Nat) (s0 : Int) (s1 : Int) (F : zF) (B : zB) : zO := some (s0 + s1, F, B)
set_option maxHeartbeats 4000000 in
set_option maxRecDepth 100000 in
theorem b_M_ledgers_65 {D : va_G} {ca : Nat → ClassId} {ad : Nat → Int → Nat → Nat} {L : List Nat} {aS vS : Nat → Nat} {A : Nat → Prop} {p : Program} {l : Launch} {e : Env} {s : State} {m : MethodId} {args : Array Value} {below : List Frame} {meth : Method} {c : Code} {K : Nat} {r : Int} {F9 : zF} {B9 : zB} (X : zX D ca L aS vS A p s m args meth c prog_15_method_98_code 7 (Option.some Jvm.ClassFile.FieldType.int) "StaveHouseModel") {s0 : Int} {s1 : Int} {F : zF} {B : zB} {H : Heap} {locs : List Loc} {ls : Array Slot} (hf : f_M_ledgers_65 K s0 s1 F B = some (r, F9, B9)) (hZ : zH D ca ad lnM nM L F B A H) (hS : va_S A s.heap H locs) (hl : lv_has ls 7 []) : W p l e ({ frames := 2, cells := 0, slots := 0, locals := 45 } : Room) s m args below meth c H locs 0 0 (MQ below (Q_M_ledgers D ca ad L r F9 B9 A) args s 0 0 A) (F0 m 65 ls [.int (iI s1), .int (iI s0)]) := by
  obtain ⟨hx, hb, hr, hml, hown, hts, hlk, hK, hA, hL, hX⟩ := id X
  replace hf : (some (s0 + s1, F, B)) = some (r, F9, B9) := hf
  refine zadd hx hb d_15_98_65 ?_
  cases hf
  exact W.iret hx hb hr (fun t ht hW => ⟨⟨_, (), rfl, rfl, by rw [ht]; exact hZ, va_K.moved hW.alike hK⟩, hS.F ht⟩) hS.2.2 d_15_98_66 hlk

def f_M_ledgers_51 (K : Nat) (l6 : Int) (s0 : Int) (F : zF) (B : zB) : zO := if r32 l6 then (if 0 ≤ l6 then f_M_ledgers_65 K s0 0 F B else f_M_ledgers_65 K s0 (zdv (-l6) 2) F B) else none
set_option maxHeartbeats 4000000 in
set_option maxRecDepth 100000 in
theorem b_M_ledgers_51 {D : va_G} {ca : Nat → ClassId} {ad : Nat → Int → Nat → Nat} {L : List Nat} {aS vS : Nat → Nat} {A : Nat → Prop} {p : Program} {l : Launch} {e : Env} {s : State} {m : MethodId} {args : Array Value} {below : List Frame} {meth : Method} {c : Code} {K : Nat} {r : Int} {F9 : zF} {B9 : zB} (X : zX D ca L aS vS A p s m args meth c prog_15_method_98_code 7 (Option.some Jvm.ClassFile.FieldType.int) "StaveHouseModel") {l6 : Int} {s0 : Int} {F : zF} {B : zB} {H : Heap} {locs : List Loc} {ls : Array Slot} (hf : f_M_ledgers_51 K l6 s0 F B = some (r, F9, B9)) (hZ : zH D ca ad lnM nM L F B A H) (hS : va_S A s.heap H locs) (hl : lv_has ls 7 [(6, .int (iI l6))]) : W p l e ({ frames := 2, cells := 0, slots := 0, locals := 45 } : Room) s m args below meth c H locs 0 0 (MQ below (Q_M_ledgers D ca ad L r F9 B9 A) args s 0 0 A) (F0 m 51 ls [.int (iI s0)]) := by
  obtain ⟨hx, hb, hr, hml, hown, hts, hlk, hK, hA, hL, hX⟩ := id X
  replace hf : (if r32 l6 then (if 0 ≤ l6 then f_M_ledgers_65 K s0 0 F B else f_M_ledgers_65 K s0 (zdv (-l6) 2) F B) else none) = some (r, F9, B9) := hf
  refine lv_iload hx hb d_15_98_51 (lv_at hl 0 rfl) ?_
  obtain ⟨g8, hf⟩ := gif hf
  refine z0ge (tgt := 64) hx hb g8 d_15_98_53 (by decide) (fun h9 => ?_) (fun h9 => ?_)
  · replace hf := gpos hf h9
    refine lv_iconst (v := iI 0) hx hb d_15_98_64 rfl ?_
    exact b_M_ledgers_65 X hf hZ hS (lv_sub hl [] rfl)
  · replace hf := gneg hf h9
    refine lv_iload hx hb d_15_98_56 (lv_at hl 0 rfl) ?_
    refine zneg hx hb d_15_98_58 ?_
    refine lv_iconst (v := iI 2) hx hb d_15_98_59 rfl ?_
    refine zdv_r hx hb (by decide) d_15_98_60 ?_
    refine lv_goto (tgt := 65) hx hb d_15_98_61 (by decide) ?_
    exact b_M_ledgers_65 X hf hZ hS (lv_sub hl [] rfl)

def f_M_ledgers (K : Nat) (l1 : Int) (l2 : Int) (l3 : Int) (F : zF) (B : zB) : zO := zbind (f_M_sounding K l1 l2 l3 F B) (fun r1 F1 B1 => if r32 r1 then (if 0 ≤ r1 then zbind (f_M_highest K l1 l2 r1 F1 B1) (fun r4 F4 B4 => zbind (f_M_lowest K l1 l2 r1 F4 B4) (fun r5 F5 B5 => if r32 r4 then (if r4 ≤ 8 then f_M_ledgers_51 K r5 0 F5 B5 else f_M_ledgers_51 K r5 (zdv (r4 - 8) 2) F5 B5) else none)) else some (0, F1, B1)) else none)
set_option maxHeartbeats 4000000 in
set_option maxRecDepth 100000 in
theorem c_M_ledgers {l : Launch} {D : va_G} {ca : Nat → ClassId} {ad : Nat → Int → Nat → Nat} {L : List Nat} {aS vS : Nat → Nat} {sz K : Nat} {l1 : Int} {l2 : Int} {l3 : Int} {F F9 : zF} {B B9 : zB} {r : Int} (hf : f_M_ledgers K l1 l2 l3 F B = some (r, F9, B9)) : Met l ({ cls := "StaveHouseModel", name := "ledgers", desc := "(LStaveHouseModel$Piece;II)I" } : Jvm.MethodName) (Cond.code ({ cls := "StaveHouseModel", name := "ledgers", desc := "(LStaveHouseModel$Piece;II)I" } : Jvm.MethodName) prog_15_method_98_code 7 (Option.some Jvm.ClassFile.FieldType.int) :: wAll) ({ frames := 2, cells := 0, slots := 0, locals := 45 } : Room) (va_Pc [.ref (ad 14 0 0), .ref (ad 13 l1 0), .int (iI l2), .int (iI l3)] (zPre D ca ad lnM nM L aS vS F B sz)) (Q_M_ledgers D ca ad L r F9 B9 (zA L sz)) 0 0 (zA L sz) := by
  refine zMet (Qc := Q_M_ledgers D ca ad L r F9 B9) (lv := [(0, .ref (ad 14 0 0)), (1, .ref (ad 13 l1 0)), (2, .int (iI l2)), (3, .int (iI l3))]) (by decide) (Nat.le_of_ble_eq_true rfl) rfl (fun A p e s m below meth c ls X hZ hS hl => ?_)
  obtain ⟨hx, hb, hr, hml, hown, hts, hlk, hK, hA, hL, hX⟩ := id X
  replace hf : (zbind (f_M_sounding K l1 l2 l3 F B) (fun r1 F1 B1 => if r32 r1 then (if 0 ≤ r1 then zbind (f_M_highest K l1 l2 r1 F1 B1) (fun r4 F4 B4 => zbind (f_M_lowest K l1 l2 r1 F4 B4) (fun r5 F5 B5 => if r32 r4 then (if r4 ≤ 8 then f_M_ledgers_51 K r5 0 F5 B5 else f_M_ledgers_51 K r5 (zdv (r4 - 8) 2) F5 B5) else none)) else some (0, F1, B1)) else none)) = some (r, F9, B9) := hf
  refine lv_aload_n hx hb d_15_98_0 rfl (lv_at hl 1 rfl) ?_
  refine lv_iload_n hx hb d_15_98_1 rfl (lv_at hl 2 rfl) ?_
  refine lv_iload_n hx hb d_15_98_2 rfl (lv_at hl 3 rfl) ?_
  obtain ⟨r1, F1, B1, hc1, hf⟩ := gbind hf
  refine va_calli (va_runS (As := [.ref (ad 13 l1 0), .int (iI l2), .int (iI l3)]) (rest := []) ⟨hx, hb, hml, hown, hts⟩ (c_M_sounding (l := l) hc1) (va_cwS 3 hts (gdS k_13_199 k_13_200 k_1_9 k_13_201) rfl rfl rfl (by decide +kernel) ⟨Nat.le_of_ble_eq_true rfl, Nat.le_of_ble_eq_true rfl⟩) (zPS X hZ hS [.ref (ad 13 l1 0), .int (iI l2), .int (iI l3)]) rfl rfl hl.1 rfl (lv_room (Nat.le_of_ble_eq_true rfl)) d_15_98_3 ⟨Nat.le_of_ble_eq_true rfl, Nat.le_of_ble_eq_true rfl⟩) hS (fun q _ h => zAin X hS q h) (zAin X hS) (fun p1 u1 t1 H1 locs1 ht1 hv1 hw1 hB1 hz1 hk1 hS1 => ?_)
  have hZ1 := zBack X ht1 hB1
  subst hw1
  refine lv_istore (lv' := [(4, .int (iI r1)), (0, .ref (ad 14 0 0)), (1, .ref (ad 13 l1 0)), (2, .int (iI l2)), (3, .int (iI l3))]) hx hb d_15_98_6 hl (by decide) rfl (fun ls hl => ?_)
  refine lv_iload hx hb d_15_98_8 (lv_at hl 0 rfl) ?_
  obtain ⟨g2, hf⟩ := gif hf
  refine z0ge (tgt := 15) hx hb g2 d_15_98_10 (by decide) (fun h3 => ?_) (fun h3 => ?_)
  · replace hf := gpos hf h3
    refine lv_aload_n hx hb d_15_98_15 rfl (lv_at hl 2 rfl) ?_
    refine lv_iload_n hx hb d_15_98_16 rfl (lv_at hl 3 rfl) ?_
    refine lv_iload hx hb d_15_98_17 (lv_at hl 0 rfl) ?_
    obtain ⟨r4, F4, B4, hc4, hf⟩ := gbind hf
    refine va_calli (va_runS (As := [.ref (ad 13 l1 0), .int (iI l2), .int (iI r1)]) (rest := []) ⟨hx, hb, hml, hown, hts⟩ (c_M_highest (l := l) hc4) (va_cwS 3 hts (gdS k_15_68 k_15_69 k_1_9 k_15_70) rfl rfl rfl (by decide +kernel) ⟨Nat.le_of_ble_eq_true rfl, Nat.le_of_ble_eq_true rfl⟩) (zPS X hZ1 hS1 [.ref (ad 13 l1 0), .int (iI l2), .int (iI r1)]) rfl rfl hl.1 rfl (lv_room (Nat.le_of_ble_eq_true rfl)) d_15_98_19 ⟨Nat.le_of_ble_eq_true rfl, Nat.le_of_ble_eq_true rfl⟩) hS1 (fun q _ h => zAin X hS1 q h) (zAin X hS1) (fun p4 u4 t4 H4 locs4 ht4 hv4 hw4 hB4 hz4 hk4 hS4 => ?_)
    have hZ4 := zBack X ht4 hB4
    subst hw4
    refine lv_istore (lv' := [(5, .int (iI r4)), (4, .int (iI r1)), (0, .ref (ad 14 0 0)), (1, .ref (ad 13 l1 0)), (2, .int (iI l2)), (3, .int (iI l3))]) hx hb d_15_98_22 hl (by decide) rfl (fun ls hl => ?_)
    refine lv_aload_n hx hb d_15_98_24 rfl (lv_at hl 3 rfl) ?_
    refine lv_iload_n hx hb d_15_98_25 rfl (lv_at hl 4 rfl) ?_
    refine lv_iload hx hb d_15_98_26 (lv_at hl 1 rfl) ?_
    obtain ⟨r5, F5, B5, hc5, hf⟩ := gbind hf
    refine va_calli (va_runS (As := [.ref (ad 13 l1 0), .int (iI l2), .int (iI r1)]) (rest := []) ⟨hx, hb, hml, hown, hts⟩ (c_M_lowest (l := l) hc5) (va_cwS 3 hts (gdS k_15_74 k_15_75 k_1_9 k_15_76) rfl rfl rfl (by decide +kernel) ⟨Nat.le_of_ble_eq_true rfl, Nat.le_of_ble_eq_true rfl⟩) (zPS X hZ4 hS4 [.ref (ad 13 l1 0), .int (iI l2), .int (iI r1)]) rfl rfl hl.1 rfl (lv_room (Nat.le_of_ble_eq_true rfl)) d_15_98_28 ⟨Nat.le_of_ble_eq_true rfl, Nat.le_of_ble_eq_true rfl⟩) hS4 (fun q _ h => zAin X hS4 q h) (zAin X hS4) (fun p5 u5 t5 H5 locs5 ht5 hv5 hw5 hB5 hz5 hk5 hS5 => ?_)
    have hZ5 := zBack X ht5 hB5
    subst hw5
    refine lv_istore (lv' := [(6, .int (iI r5)), (5, .int (iI r4)), (4, .int (iI r1)), (0, .ref (ad 14 0 0)), (1, .ref (ad 13 l1 0)), (2, .int (iI l2)), (3, .int (iI l3))]) hx hb d_15_98_31 hl (by decide) rfl (fun ls hl => ?_)
    refine lv_iload hx hb d_15_98_33 (lv_at hl 1 rfl) ?_
    refine lv_bipush (v := iI 8) hx hb d_15_98_35 (by decide) ?_
    obtain ⟨g6, hf⟩ := gif hf
    refine zle (tgt := 50) hx hb g6 (by decide) d_15_98_37 (by decide) (fun h7 => ?_) (fun h7 => ?_)
    · replace hf := gpos hf h7
      refine lv_iconst (v := iI 0) hx hb d_15_98_50 rfl ?_
      exact b_M_ledgers_51 X hf hZ5 hS5 (lv_sub hl [0] rfl)
    · replace hf := gneg hf h7
      refine lv_iload hx hb d_15_98_40 (lv_at hl 1 rfl) ?_
      refine lv_bipush (v := iI 8) hx hb d_15_98_42 (by decide) ?_
      refine zsub hx hb d_15_98_44 ?_
      refine lv_iconst (v := iI 2) hx hb d_15_98_45 rfl ?_
      refine zdv_r hx hb (by decide) d_15_98_46 ?_
      refine lv_goto (tgt := 51) hx hb d_15_98_47 (by decide) ?_
      exact b_M_ledgers_51 X hf hZ5 hS5 (lv_sub hl [0] rfl)
  · replace hf := gneg hf h3
    refine lv_iconst (v := iI 0) hx hb d_15_98_13 rfl ?_
    cases hf
    exact W.iret hx hb hr (fun t ht hW => ⟨⟨_, (), rfl, rfl, by rw [ht]; exact hZ1, va_K.moved hW.alike hK⟩, hS1.F ht⟩) hS1.2.2 d_15_98_14 hlk

abbrev Q_M_isParallel (D : va_G) (ca : Nat → ClassId) (ad : Nat → Int → Nat → Nat) (L : List Nat) (r : Int) (F : zF) (B : zB) (A : Nat → Prop) : Array Value → State → Outcome → State → Prop := va_Qi (S := Unit) (fun p _ => p = iI r) (fun _ => zPo D ca ad lnM nM L F B A) A
def f_M_isParallel_266 (K : Nat) (s0 : Int) (F : zF) (B : zB) : zO := if (s0 = 0 ∨ s0 = 1) then some (s0, F, B) else none
set_option maxHeartbeats 4000000 in
set_option maxRecDepth 100000 in
theorem b_M_isParallel_266 {D : va_G} {ca : Nat → ClassId} {ad : Nat → Int → Nat → Nat} {L : List Nat} {aS vS : Nat → Nat} {A : Nat → Prop} {p : Program} {l : Launch} {e : Env} {s : State} {m : MethodId} {args : Array Value} {below : List Frame} {meth : Method} {c : Code} {K : Nat} {r : Int} {F9 : zF} {B9 : zB} (X : zX D ca L aS vS A p s m args meth c prog_15_method_189_code 15 (Option.some Jvm.ClassFile.FieldType.boolean) "StaveHouseModel") {s0 : Int} {F : zF} {B : zB} {H : Heap} {locs : List Loc} {ls : Array Slot} (hf : f_M_isParallel_266 K s0 F B = some (r, F9, B9)) (hZ : zH D ca ad lnM nM L F B A H) (hS : va_S A s.heap H locs) (hl : lv_has ls 15 []) : W p l e ({ frames := 3, cells := 0, slots := 0, locals := 71 } : Room) s m args below meth c H locs 0 0 (MQ below (Q_M_isParallel D ca ad L r F9 B9 A) args s 0 0 A) (F0 m 266 ls [.int (iI s0)]) := by
  obtain ⟨hx, hb, hr, hml, hown, hts, hlk, hK, hA, hL, hX⟩ := id X
  replace hf : (if (s0 = 0 ∨ s0 = 1) then some (s0, F, B) else none) = some (r, F9, B9) := hf
  obtain ⟨g60, hf⟩ := gif hf
  cases hf
  exact W.zret hx hb hr (zbool g60) (fun t ht hW => ⟨⟨_, (), rfl, rfl, by rw [ht]; exact hZ, va_K.moved hW.alike hK⟩, hS.F ht⟩) hS.2.2 d_15_189_266 hlk

def f_M_isParallel_265 (K : Nat)  (F : zF) (B : zB) : zO := f_M_isParallel_266 K 0 F B
set_option maxHeartbeats 4000000 in
set_option maxRecDepth 100000 in
theorem b_M_isParallel_265 {D : va_G} {ca : Nat → ClassId} {ad : Nat → Int → Nat → Nat} {L : List Nat} {aS vS : Nat → Nat} {A : Nat → Prop} {p : Program} {l : Launch} {e : Env} {s : State} {m : MethodId} {args : Array Value} {below : List Frame} {meth : Method} {c : Code} {K : Nat} {r : Int} {F9 : zF} {B9 : zB} (X : zX D ca L aS vS A p s m args meth c prog_15_method_189_code 15 (Option.some Jvm.ClassFile.FieldType.boolean) "StaveHouseModel")  {F : zF} {B : zB} {H : Heap} {locs : List Loc} {ls : Array Slot} (hf : f_M_isParallel_265 K  F B = some (r, F9, B9)) (hZ : zH D ca ad lnM nM L F B A H) (hS : va_S A s.heap H locs) (hl : lv_has ls 15 []) : W p l e ({ frames := 3, cells := 0, slots := 0, locals := 71 } : Room) s m args below meth c H locs 0 0 (MQ below (Q_M_isParallel D ca ad L r F9 B9 A) args s 0 0 A) (F0 m 265 ls []) := by
  obtain ⟨hx, hb, hr, hml, hown, hts, hlk, hK, hA, hL, hX⟩ := id X
  replace hf : (f_M_isParallel_266 K 0 F B) = some (r, F9, B9) := hf
  refine lv_iconst (v := iI 0) hx hb d_15_189_265 rfl ?_
  exact b_M_isParallel_266 X hf hZ hS (lv_sub hl [] rfl)

def f_M_isParallel_261 (K : Nat)  (F : zF) (B : zB) : zO := f_M_isParallel_266 K 1 F B
set_option maxHeartbeats 4000000 in
set_option maxRecDepth 100000 in
theorem b_M_isParallel_261 {D : va_G} {ca : Nat → ClassId} {ad : Nat → Int → Nat → Nat} {L : List Nat} {aS vS : Nat → Nat} {A : Nat → Prop} {p : Program} {l : Launch} {e : Env} {s : State} {m : MethodId} {args : Array Value} {below : List Frame} {meth : Method} {c : Code} {K : Nat} {r : Int} {F9 : zF} {B9 : zB} (X : zX D ca L aS vS A p s m args meth c prog_15_method_189_code 15 (Option.some Jvm.ClassFile.FieldType.boolean) "StaveHouseModel")  {F : zF} {B : zB} {H : Heap} {locs : List Loc} {ls : Array Slot} (hf : f_M_isParallel_261 K  F B = some (r, F9, B9)) (hZ : zH D ca ad lnM nM L F B A H) (hS : va_S A s.heap H locs) (hl : lv_has ls 15 []) : W p l e ({ frames := 3, cells := 0, slots := 0, locals := 71 } : Room) s m args below meth c H locs 0 0 (MQ below (Q_M_isParallel D ca ad L r F9 B9 A) args s 0 0 A) (F0 m 261 ls []) := by
  obtain ⟨hx, hb, hr, hml, hown, hts, hlk, hK, hA, hL, hX⟩ := id X
  replace hf : (f_M_isParallel_266 K 1 F B) = some (r, F9, B9) := hf
  refine lv_iconst (v := iI 1) hx hb d_15_189_261 rfl ?_
  refine lv_goto (tgt := 266) hx hb d_15_189_262 (by decide) ?_
  exact b_M_isParallel_266 X hf hZ hS (lv_sub hl [] rfl)

def f_M_isParallel_234 (K : Nat) (l13 : Int) (l12 : Int) (s0 : Int) (F : zF) (B : zB) : zO := if r32 l12 then (if l12 ≤ 0 then f_M_isParallel_265 K F B else if r32 l13 then (if l13 = l12 then f_M_isParallel_265 K F B else if r32 s0 then (if 2 < s0 then f_M_isParallel_261 K F B else (if (-2) ≤ s0 then f_M_isParallel_265 K F B else f_M_isParallel_261 K F B)) else none) else none) else none
set_option maxHeartbeats 4000000 in
set_option maxRecDepth 100000 in
theorem b_M_isParallel_234 {D : va_G} {ca : Nat → ClassId} {ad : Nat → Int → Nat → Nat} {L : List Nat} {aS vS : Nat → Nat} {A : Nat → Prop} {p : Program} {l : Launch} {e : Env} {s : State} {m : MethodId} {args : Array Value} {below : List Frame} {meth : Method} {c : Code} {K : Nat} {r : Int} {F9 : zF} {B9 : zB} (X : zX D ca L aS vS A p s m args meth c prog_15_method_189_code 15 (Option.some Jvm.ClassFile.FieldType.boolean) "StaveHouseModel") {l13 : Int} {l12 : Int} {s0 : Int} {F : zF} {B : zB} {H : Heap} {locs : List Loc} {ls : Array Slot} (hf : f_M_isParallel_234 K l13 l12 s0 F B = some (r, F9, B9)) (hZ : zH D ca ad lnM nM L F B A H) (hS : va_S A s.heap H locs) (hl : lv_has ls 15 [(13, .int (iI l13)), (12, .int (iI l12))]) : W p l e ({ frames := 3, cells := 0, slots := 0, locals := 71 } : Room) s m args below meth c H locs 0 0 (MQ below (Q_M_isParallel D ca ad L r F9 B9 A) args s 0 0 A) (F0 m 234 ls [.int (iI s0)]) := by
  obtain ⟨hx, hb, hr, hml, hown, hts, hlk, hK, hA, hL, hX⟩ := id X
  replace hf : (if r32 l12 then (if l12 ≤ 0 then f_M_isParallel_265 K F B else if r32 l13 then (if l13 = l12 then f_M_isParallel_265 K F B else if r32 s0 then (if 2 < s0 then f_M_isParallel_261 K F B else (if (-2) ≤ s0 then f_M_isParallel_265 K F B else f_M_isParallel_261 K F B)) else none) else none) else none) = some (r, F9, B9) := hf
  refine lv_istore (lv' := [(14, .int (iI s0)), (13, .int (iI l13)), (12, .int (iI l12))]) hx hb d_15_189_234 hl (by decide) rfl (fun ls hl => ?_)
  refine lv_iload hx hb d_15_189_236 (lv_at hl 2 rfl) ?_
  obtain ⟨g53, hf⟩ := gif hf
  refine z0le (tgt := 265) hx hb g53 d_15_189_238 (by decide) (fun h54 => ?_) (fun h54 => ?_)
  · replace hf := gpos hf h54
    exact b_M_isParallel_265 X hf hZ hS (lv_sub hl [] rfl)
  · replace hf := gneg hf h54
    refine lv_iload hx hb d_15_189_241 (lv_at hl 1 rfl) ?_
    refine lv_iload hx hb d_15_189_243 (lv_at hl 2 rfl) ?_
    obtain ⟨g55, hf⟩ := gif hf
    refine zeq (tgt := 265) hx hb g55 g53 d_15_189_245 (by decide) (fun h56 => ?_) (fun h56 => ?_)
    · replace hf := gpos hf h56
      exact b_M_isParallel_265 X hf hZ hS (lv_sub hl [] rfl)
    · replace hf := gneg hf h56
      refine lv_iload hx hb d_15_189_248 (lv_at hl 0 rfl) ?_
      refine lv_iconst (v := iI 2) hx hb d_15_189_250 rfl ?_
      obtain ⟨g57, hf⟩ := gif hf
      refine zgt (tgt := 261) hx hb g57 (by decide) d_15_189_251 (by decide) (fun h58 => ?_) (fun h58 => ?_)
      · replace hf := gpos hf h58
        exact b_M_isParallel_261 X hf hZ hS (lv_sub hl [] rfl)
      · replace hf := gneg hf h58
        refine lv_iload hx hb d_15_189_254 (lv_at hl 0 rfl) ?_
        refine lv_bipush (v := iI (-2)) hx hb d_15_189_256 (by decide) ?_
        refine zge (tgt := 265) hx hb g57 (by decide) d_15_189_258 (by decide) (fun h59 => ?_) (fun h59 => ?_)
        · replace hf := gpos hf h59
          exact b_M_isParallel_265 X hf hZ hS (lv_sub hl [] rfl)
        · replace hf := gneg hf h59
          exact b_M_isParallel_261 X hf hZ hS (lv_sub hl [] rfl)

def f_M_isParallel_185 (K : Nat) (s0 : Int) (F : zF) (B : zB) : zO := if (s0 = 0 ∨ s0 = 1) then some (s0, F, B) else none
set_option maxHeartbeats 4000000 in
set_option maxRecDepth 100000 in
theorem b_M_isParallel_185 {D : va_G} {ca : Nat → ClassId} {ad : Nat → Int → Nat → Nat} {L : List Nat} {aS vS : Nat → Nat} {A : Nat → Prop} {p : Program} {l : Launch} {e : Env} {s : State} {m : MethodId} {args : Array Value} {below : List Frame} {meth : Method} {c : Code} {K : Nat} {r : Int} {F9 : zF} {B9 : zB} (X : zX D ca L aS vS A p s m args meth c prog_15_method_189_code 15 (Option.some Jvm.ClassFile.FieldType.boolean) "StaveHouseModel") {s0 : Int} {F : zF} {B : zB} {H : Heap} {locs : List Loc} {ls : Array Slot} (hf : f_M_isParallel_185 K s0 F B = some (r, F9, B9)) (hZ : zH D ca ad lnM nM L F B A H) (hS : va_S A s.heap H locs) (hl : lv_has ls 15 []) : W p l e ({ frames := 3, cells := 0, slots := 0, locals := 71 } : Room) s m args below meth c H locs 0 0 (MQ below (Q_M_isParallel D ca ad L r F9 B9 A) args s 0 0 A) (F0 m 185 ls [.int (iI s0)]) := by
  obtain ⟨hx, hb, hr, hml, hown, hts, hlk, hK, hA, hL, hX⟩ := id X
  replace hf : (if (s0 = 0 ∨ s0 = 1) then some (s0, F, B) else none) = some (r, F9, B9) := hf
  obtain ⟨g52, hf⟩ := gif hf
  cases hf
  exact W.zret hx hb hr (zbool g52) (fun t ht hW => ⟨⟨_, (), rfl, rfl, by rw [ht]; exact hZ, va_K.moved hW.alike hK⟩, hS.F ht⟩) hS.2.2 d_15_189_185 hlk

def f_M_isParallel_184 (K : Nat)  (F : zF) (B : zB) : zO := f_M_isParallel_185 K 0 F B
set_option maxHeartbeats 4000000 in
set_option maxRecDepth 100000 in
theorem b_M_isParallel_184 {D : va_G} {ca : Nat → ClassId} {ad : Nat → Int → Nat → Nat} {L : List Nat} {aS vS : Nat → Nat} {A : Nat → Prop} {p : Program} {l : Launch} {e : Env} {s : State} {m : MethodId} {args : Array Value} {below : List Frame} {meth : Method} {c : Code} {K : Nat} {r : Int} {F9 : zF} {B9 : zB} (X : zX D ca L aS vS A p s m args meth c prog_15_method_189_code 15 (Option.some Jvm.ClassFile.FieldType.boolean) "StaveHouseModel")  {F : zF} {B : zB} {H : Heap} {locs : List Loc} {ls : Array Slot} (hf : f_M_isParallel_184 K  F B = some (r, F9, B9)) (hZ : zH D ca ad lnM nM L F B A H) (hS : va_S A s.heap H locs) (hl : lv_has ls 15 []) : W p l e ({ frames := 3, cells := 0, slots := 0, locals := 71 } : Room) s m args below meth c H locs 0 0 (MQ below (Q_M_isParallel D ca ad L r F9 B9 A) args s 0 0 A) (F0 m 184 ls []) := by
  obtain ⟨hx, hb, hr, hml, hown, hts, hlk, hK, hA, hL, hX⟩ := id X
  replace hf : (f_M_isParallel_185 K 0 F B) = some (r, F9, B9) := hf
  refine lv_iconst (v := iI 0) hx hb d_15_189_184 rfl ?_
  exact b_M_isParallel_185 X hf hZ hS (lv_sub hl [] rfl)

def f_M_isParallel_134 (K : Nat) (l8 : Int) (l7 : Int) (l6 : Int) (l5 : Int) (l0 : Int) (l2 : Int) (s0 : Int) (F : zF) (B : zB) : zO := if r32 s0 then (if s0 = 0 then some (0, F, B) else zbind (f_M_perfect K l0 l5 l6 F B) (fun r33 F33 B33 => zbind (f_M_perfect K l0 l7 l8 F33 B33) (fun r34 F34 B34 => if r32 l2 then (if 3 ≤ l2 then zbind (f_M_toneAt K l0 l5 F34 B34) (fun r37 F37 B37 => zbind (f_M_toneAt K l0 l6 F37 B37) (fun r38 F38 B38 => if r32 r37 then if r32 r38 then (if r37 < r38 then if 0 ≤ l0 ∧ l0 < 3 then if 0 ≤ l6 ∧ l6 < 24000 then if 0 ≤ l8 ∧ l8 < 24000 then f_M_isParallel_234 K r34 r33 ((B38 13 l0 28 l6) - (B38 13 l0 28 l8)) F38 B38 else none else none else none else if 0 ≤ l0 ∧ l0 < 3 then if 0 ≤ l5 ∧ l5 < 24000 then if 0 ≤ l7 ∧ l7 < 24000 then f_M_isParallel_234 K r34 r33 ((B38 13 l0 28 l5) - (B38 13 l0 28 l7)) F38 B38 else none else none else none) else none else none)) else if r32 r33 then (if r33 = l2 then if r32 r34 then (if r34 = l2 then f_M_isParallel_185 K 1 F34 B34 else f_M_isParallel_184 K F34 B34) else none else f_M_isParallel_184 K F34 B34) else none) else none))) else none
set_option maxHeartbeats 4000000 in
set_option maxRecDepth 100000 in
theorem b_M_isParallel_134 {D : va_G} {ca : Nat → ClassId} {ad : Nat → Int → Nat → Nat} {L : List Nat} {aS vS : Nat → Nat} {A : Nat → Prop} {p : Program} {l : Launch} {e : Env} {s : State} {m : MethodId} {args : Array Value} {below : List Frame} {meth : Method} {c : Code} {K : Nat} {r : Int} {F9 : zF} {B9 : zB} (X : zX D ca L aS vS A p s m args meth c prog_15_method_189_code 15 (Option.some Jvm.ClassFile.FieldType.boolean) "StaveHouseModel") {l8 : Int} {l7 : Int} {l6 : Int} {l5 : Int} {l0 : Int} {l2 : Int} {s0 : Int} {F : zF} {B : zB} {H : Heap} {locs : List Loc} {ls : Array Slot} (hf : f_M_isParallel_134 K l8 l7 l6 l5 l0 l2 s0 F B = some (r, F9, B9)) (hZ : zH D ca ad lnM nM L F B A H) (hS : va_S A s.heap H locs) (hl : lv_has ls 15 [(8, .int (iI l8)), (7, .int (iI l7)), (6, .int (iI l6)), (5, .int (iI l5)), (0, .ref (ad 13 l0 0)), (2, .int (iI l2))]) : W p l e ({ frames := 3, cells := 0, slots := 0, locals := 71 } : Room) s m args below meth c H locs 0 0 (MQ below (Q_M_isParallel D ca ad L r F9 B9 A) args s 0 0 A) (F0 m 134 ls [.int (iI s0)]) := by
  obtain ⟨hx, hb, hr, hml, hown, hts, hlk, hK, hA, hL, hX⟩ := id X
  replace hf : (if r32 s0 then (if s0 = 0 then some (0, F, B) else zbind (f_M_perfect K l0 l5 l6 F B) (fun r33 F33 B33 => zbind (f_M_perfect K l0 l7 l8 F33 B33) (fun r34 F34 B34 => if r32 l2 then (if 3 ≤ l2 then zbind (f_M_toneAt K l0 l5 F34 B34) (fun r37 F37 B37 => zbind (f_M_toneAt K l0 l6 F37 B37) (fun r38 F38 B38 => if r32 r37 then if r32 r38 then (if r37 < r38 then if 0 ≤ l0 ∧ l0 < 3 then if 0 ≤ l6 ∧ l6 < 24000 then if 0 ≤ l8 ∧ l8 < 24000 then f_M_isParallel_234 K r34 r33 ((B38 13 l0 28 l6) - (B38 13 l0 28 l8)) F38 B38 else none else none else none else if 0 ≤ l0 ∧ l0 < 3 then if 0 ≤ l5 ∧ l5 < 24000 then if 0 ≤ l7 ∧ l7 < 24000 then f_M_isParallel_234 K r34 r33 ((B38 13 l0 28 l5) - (B38 13 l0 28 l7)) F38 B38 else none else none else none) else none else none)) else if r32 r33 then (if r33 = l2 then if r32 r34 then (if r34 = l2 then f_M_isParallel_185 K 1 F34 B34 else f_M_isParallel_184 K F34 B34) else none else f_M_isParallel_184 K F34 B34) else none) else none))) else none) = some (r, F9, B9) := hf
  refine lv_istore (lv' := [(11, .int (iI s0)), (8, .int (iI l8)), (7, .int (iI l7)), (6, .int (iI l6)), (5, .int (iI l5)), (0, .ref (ad 13 l0 0)), (2, .int (iI l2))]) hx hb d_15_189_134 hl (by decide) rfl (fun ls hl => ?_)
  refine lv_iload hx hb d_15_189_136 (lv_at hl 0 rfl) ?_
  obtain ⟨g31, hf⟩ := gif hf
  refine z0ne (tgt := 143) hx hb g31 d_15_189_138 (by decide) (fun h32 => ?_) (fun h32 => ?_)
  · replace hf := gneg hf h32
    refine lv_aload_n hx hb d_15_189_143 rfl (lv_at hl 5 rfl) ?_
    refine lv_iload hx hb d_15_189_144 (lv_at hl 4 rfl) ?_
    refine lv_iload hx hb d_15_189_146 (lv_at hl 3 rfl) ?_
    obtain ⟨r33, F33, B33, hc33, hf⟩ := gbind hf
    refine va_calli (va_runS (As := [.ref (ad 13 l0 0), .int (iI l5), .int (iI l6)]) (rest := []) ⟨hx, hb, hml, hown, hts⟩ (c_M_perfect (l := l) hc33) (va_cwS 3 hts (gdS k_15_139 k_15_140 k_1_9 k_15_141) rfl rfl rfl (by decide +kernel) ⟨Nat.le_of_ble_eq_true rfl, Nat.le_of_ble_eq_true rfl⟩) (zPS X hZ hS [.ref (ad 13 l0 0), .int (iI l5), .int (iI l6)]) rfl rfl hl.1 rfl (lv_room (Nat.le_of_ble_eq_true rfl)) d_15_189_148 ⟨Nat.le_of_ble_eq_true rfl, Nat.le_of_ble_eq_true rfl⟩) hS (fun q _ h => zAin X hS q h) (zAin X hS) (fun p33 u33 t33 H33 locs33 ht33 hv33 hw33 hB33 hz33 hk33 hS33 => ?_)
    have hZ33 := zBack X ht33 hB33
    subst hw33
    refine lv_istore (lv' := [(12, .int (iI r33)), (11, .int (iI s0)), (8, .int (iI l8)), (7, .int (iI l7)), (6, .int (iI l6)), (5, .int (iI l5)), (0, .ref (ad 13 l0 0)), (2, .int (iI l2))]) hx hb d_15_189_151 hl (by decide) rfl (fun ls hl => ?_)
    refine lv_aload_n hx hb d_15_189_153 rfl (lv_at hl 6 rfl) ?_
    refine lv_iload hx hb d_15_189_154 (lv_at hl 3 rfl) ?_
    refine lv_iload hx hb d_15_189_156 (lv_at hl 2 rfl) ?_
    obtain ⟨r34, F34, B34, hc34, hf⟩ := gbind hf
    refine va_calli (va_runS (As := [.ref (ad 13 l0 0), .int (iI l7), .int (iI l8)]) (rest := []) ⟨hx, hb, hml, hown, hts⟩ (c_M_perfect (l := l) hc34) (va_cwS 3 hts (gdS k_15_139 k_15_140 k_1_9 k_15_141) rfl rfl rfl (by decide +kernel) ⟨Nat.le_of_ble_eq_true rfl, Nat.le_of_ble_eq_true rfl⟩) (zPS X hZ33 hS33 [.ref (ad 13 l0 0), .int (iI l7), .int (iI l8)]) rfl rfl hl.1 rfl (lv_room (Nat.le_of_ble_eq_true rfl)) d_15_189_158 ⟨Nat.le_of_ble_eq_true rfl, Nat.le_of_ble_eq_true rfl⟩) hS33 (fun q _ h => zAin X hS33 q h) (zAin X hS33) (fun p34 u34 t34 H34 locs34 ht34 hv34 hw34 hB34 hz34 hk34 hS34 => ?_)
    have hZ34 := zBack X ht34 hB34
    subst hw34
    refine lv_istore (lv' := [(13, .int (iI r34)), (12, .int (iI r33)), (11, .int (iI s0)), (8, .int (iI l8)), (7, .int (iI l7)), (6, .int (iI l6)), (5, .int (iI l5)), (0, .ref (ad 13 l0 0)), (2, .int (iI l2))]) hx hb d_15_189_161 hl (by decide) rfl (fun ls hl => ?_)
    refine lv_iload_n hx hb d_15_189_163 rfl (lv_at hl 8 rfl) ?_
    refine lv_iconst (v := iI 3) hx hb d_15_189_164 rfl ?_
    obtain ⟨g35, hf⟩ := gif hf
    refine zge (tgt := 186) hx hb g35 (by decide) d_15_189_165 (by decide) (fun h36 => ?_) (fun h36 => ?_)
    · replace hf := gpos hf h36
      refine lv_aload_n hx hb d_15_189_186 rfl (lv_at hl 7 rfl) ?_
      refine lv_iload hx hb d_15_189_187 (lv_at hl 6 rfl) ?_
      obtain ⟨r37, F37, B37, hc37, hf⟩ := gbind hf
      refine va_calli (va_runS (As := [.ref (ad 13 l0 0), .int (iI l5)]) (rest := []) ⟨hx, hb, hml, hown, hts⟩ (c_M_toneAt (l := l) hc37) (va_cwS 2 hts (gdS k_15_121 k_15_122 k_1_9 k_15_123) rfl rfl rfl (by decide +kernel) ⟨Nat.le_of_ble_eq_true rfl, Nat.le_of_ble_eq_true rfl⟩) (zPS X hZ34 hS34 [.ref (ad 13 l0 0), .int (iI l5)]) rfl rfl hl.1 rfl (lv_room (Nat.le_of_ble_eq_true rfl)) d_15_189_189 ⟨Nat.le_of_ble_eq_true rfl, Nat.le_of_ble_eq_true rfl⟩) hS34 (fun q _ h => zAin X hS34 q h) (zAin X hS34) (fun p37 u37 t37 H37 locs37 ht37 hv37 hw37 hB37 hz37 hk37 hS37 => ?_)
      have hZ37 := zBack X ht37 hB37
      subst hw37
      refine lv_aload_n hx hb d_15_189_192 rfl (lv_at hl 7 rfl) ?_
      refine lv_iload hx hb d_15_189_193 (lv_at hl 5 rfl) ?_
      obtain ⟨r38, F38, B38, hc38, hf⟩ := gbind hf
      refine va_calli (va_runS (As := [.ref (ad 13 l0 0), .int (iI l6)]) (rest := [.int (iI r37)]) ⟨hx, hb, hml, hown, hts⟩ (c_M_toneAt (l := l) hc38) (va_cwS 2 hts (gdS k_15_121 k_15_122 k_1_9 k_15_123) rfl rfl rfl (by decide +kernel) ⟨Nat.le_of_ble_eq_true rfl, Nat.le_of_ble_eq_true rfl⟩) (zPS X hZ37 hS37 [.ref (ad 13 l0 0), .int (iI l6)]) rfl rfl hl.1 rfl (lv_room (Nat.le_of_ble_eq_true rfl)) d_15_189_195 ⟨Nat.le_of_ble_eq_true rfl, Nat.le_of_ble_eq_true rfl⟩) hS37 (fun q _ h => zAin X hS37 q h) (zAin X hS37) (fun p38 u38 t38 H38 locs38 ht38 hv38 hw38 hB38 hz38 hk38 hS38 => ?_)
      have hZ38 := zBack X ht38 hB38
      subst hw38
      obtain ⟨g39, hf⟩ := gif hf
      obtain ⟨g40, hf⟩ := gif hf
      refine zlt (tgt := 219) hx hb g39 g40 d_15_189_198 (by decide) (fun h41 => ?_) (fun h41 => ?_)
      · replace hf := gpos hf h41
        refine lv_aload_n hx hb d_15_189_219 rfl (lv_at hl 7 rfl) ?_
        obtain ⟨g42, hf⟩ := gif hf
        refine zget (ci := 13) (C := RX13) (T := TX13) (v := .ref (ad 13 l0 (28 + 1))) (k := 28) hx hb hts inW_13 hown hK hZ38 g42.1 g42.2 rfl (by decide) k_9_174 rfl d_15_189_220 ?_
        refine lv_iload hx hb d_15_189_223 (lv_at hl 5 rfl) ?_
        obtain ⟨g43, hf⟩ := gif hf
        refine zald (ci := 13) (k := 28) hx hb hK rfl hZ38 g42.1 g42.2 rfl (Nat.le_of_ble_eq_true rfl) g43.1 g43.2 d_15_189_225 ?_
        refine lv_aload_n hx hb d_15_189_226 rfl (lv_at hl 7 rfl) ?_
        refine zget (ci := 13) (C := RX13) (T := TX13) (v := .ref (ad 13 l0 (28 + 1))) (k := 28) hx hb hts inW_13 hown hK hZ38 g42.1 g42.2 rfl (by decide) k_9_174 rfl d_15_189_227 ?_
        refine lv_iload hx hb d_15_189_230 (lv_at hl 3 rfl) ?_
        obtain ⟨g44, hf⟩ := gif hf
        refine zald (ci := 13) (k := 28) hx hb hK rfl hZ38 g42.1 g42.2 rfl (Nat.le_of_ble_eq_true rfl) g44.1 g44.2 d_15_189_232 ?_
        refine zsub hx hb d_15_189_233 ?_
        exact b_M_isParallel_234 X hf hZ38 hS38 (lv_sub hl [0, 1] rfl)
      · replace hf := gneg hf h41
        refine lv_aload_n hx hb d_15_189_201 rfl (lv_at hl 7 rfl) ?_
        obtain ⟨g45, hf⟩ := gif hf
        refine zget (ci := 13) (C := RX13) (T := TX13) (v := .ref (ad 13 l0 (28 + 1))) (k := 28) hx hb hts inW_13 hown hK hZ38 g45.1 g45.2 rfl (by decide) k_9_174 rfl d_15_189_202 ?_
        refine lv_iload hx hb d_15_189_205 (lv_at hl 6 rfl) ?_
        obtain ⟨g46, hf⟩ := gif hf
        refine zald (ci := 13) (k := 28) hx hb hK rfl hZ38 g45.1 g45.2 rfl (Nat.le_of_ble_eq_true rfl) g46.1 g46.2 d_15_189_207 ?_
        refine lv_aload_n hx hb d_15_189_208 rfl (lv_at hl 7 rfl) ?_
        refine zget (ci := 13) (C := RX13) (T := TX13) (v := .ref (ad 13 l0 (28 + 1))) (k := 28) hx hb hts inW_13 hown hK hZ38 g45.1 g45.2 rfl (by decide) k_9_174 rfl d_15_189_209 ?_
        refine lv_iload hx hb d_15_189_212 (lv_at hl 4 rfl) ?_
        obtain ⟨g47, hf⟩ := gif hf
        refine zald (ci := 13) (k := 28) hx hb hK rfl hZ38 g45.1 g45.2 rfl (Nat.le_of_ble_eq_true rfl) g47.1 g47.2 d_15_189_214 ?_
        refine zsub hx hb d_15_189_215 ?_
        refine lv_goto (tgt := 234) hx hb d_15_189_216 (by decide) ?_
        exact b_M_isParallel_234 X hf hZ38 hS38 (lv_sub hl [0, 1] rfl)
    · replace hf := gneg hf h36
      refine lv_iload hx hb d_15_189_168 (lv_at hl 1 rfl) ?_
      refine lv_iload_n hx hb d_15_189_170 rfl (lv_at hl 8 rfl) ?_
      obtain ⟨g48, hf⟩ := gif hf
      refine zne (tgt := 184) hx hb g48 g35 d_15_189_171 (by decide) (fun h49 => ?_) (fun h49 => ?_)
      · replace hf := gneg hf h49
        exact b_M_isParallel_184 X hf hZ34 hS34 (lv_sub hl [] rfl)
      · replace hf := gpos hf h49
        refine lv_iload hx hb d_15_189_174 (lv_at hl 0 rfl) ?_
        refine lv_iload_n hx hb d_15_189_176 rfl (lv_at hl 8 rfl) ?_
        obtain ⟨g50, hf⟩ := gif hf
        refine zne (tgt := 184) hx hb g50 g35 d_15_189_177 (by decide) (fun h51 => ?_) (fun h51 => ?_)
        · replace hf := gneg hf h51
          exact b_M_isParallel_184 X hf hZ34 hS34 (lv_sub hl [] rfl)
        · replace hf := gpos hf h51
          refine lv_iconst (v := iI 1) hx hb d_15_189_180 rfl ?_
          refine lv_goto (tgt := 185) hx hb d_15_189_181 (by decide) ?_
          exact b_M_isParallel_185 X hf hZ34 hS34 (lv_sub hl [] rfl)
  · replace hf := gpos hf h32
    refine lv_iconst (v := iI 0) hx hb d_15_189_141 rfl ?_
    cases hf
    exact W.zret hx hb hr rfl (fun t ht hW => ⟨⟨_, (), rfl, rfl, by rw [ht]; exact hZ, va_K.moved hW.alike hK⟩, hS.F ht⟩) hS.2.2 d_15_189_142 hlk

def f_M_isParallel_133 (K : Nat) (l8 : Int) (l7 : Int) (l6 : Int) (l5 : Int) (l0 : Int) (l2 : Int) (F : zF) (B : zB) : zO := f_M_isParallel_134 K l8 l7 l6 l5 l0 l2 0 F B
set_option maxHeartbeats 4000000 in
set_option maxRecDepth 100000 in
theorem b_M_isParallel_133 {D : va_G} {ca : Nat → ClassId} {ad : Nat → Int → Nat → Nat} {L : List Nat} {aS vS : Nat → Nat} {A : Nat → Prop} {p : Program} {l : Launch} {e : Env} {s : State} {m : MethodId} {args : Array Value} {below : List Frame} {meth : Method} {c : Code} {K : Nat} {r : Int} {F9 : zF} {B9 : zB} (X : zX D ca L aS vS A p s m args meth c prog_15_method_189_code 15 (Option.some Jvm.ClassFile.FieldType.boolean) "StaveHouseModel") {l8 : Int} {l7 : Int} {l6 : Int} {l5 : Int} {l0 : Int} {l2 : Int} {F : zF} {B : zB} {H : Heap} {locs : List Loc} {ls : Array Slot} (hf : f_M_isParallel_133 K l8 l7 l6 l5 l0 l2 F B = some (r, F9, B9)) (hZ : zH D ca ad lnM nM L F B A H) (hS : va_S A s.heap H locs) (hl : lv_has ls 15 [(8, .int (iI l8)), (7, .int (iI l7)), (6, .int (iI l6)), (5, .int (iI l5)), (0, .ref (ad 13 l0 0)), (2, .int (iI l2))]) : W p l e ({ frames := 3, cells := 0, slots := 0, locals := 71 } : Room) s m args below meth c H locs 0 0 (MQ below (Q_M_isParallel D ca ad L r F9 B9 A) args s 0 0 A) (F0 m 133 ls []) := by
  obtain ⟨hx, hb, hr, hml, hown, hts, hlk, hK, hA, hL, hX⟩ := id X
  replace hf : (f_M_isParallel_134 K l8 l7 l6 l5 l0 l2 0 F B) = some (r, F9, B9) := hf
  refine lv_iconst (v := iI 0) hx hb d_15_189_133 rfl ?_
  exact b_M_isParallel_134 X hf hZ hS (lv_sub hl [0, 1, 2, 3, 4, 5] rfl)

def f_M_isParallel_129 (K : Nat) (l8 : Int) (l7 : Int) (l6 : Int) (l5 : Int) (l0 : Int) (l2 : Int) (F : zF) (B : zB) : zO := f_M_isParallel_134 K l8 l7 l6 l5 l0 l2 1 F B
set_option maxHeartbeats 4000000 in
set_option maxRecDepth 100000 in
theorem b_M_isParallel_129 {D : va_G} {ca : Nat → ClassId} {ad : Nat → Int → Nat → Nat} {L : List Nat} {aS vS : Nat → Nat} {A : Nat → Prop} {p : Program} {l : Launch} {e : Env} {s : State} {m : MethodId} {args : Array Value} {below : List Frame} {meth : Method} {c : Code} {K : Nat} {r : Int} {F9 : zF} {B9 : zB} (X : zX D ca L aS vS A p s m args meth c prog_15_method_189_code 15 (Option.some Jvm.ClassFile.FieldType.boolean) "StaveHouseModel") {l8 : Int} {l7 : Int} {l6 : Int} {l5 : Int} {l0 : Int} {l2 : Int} {F : zF} {B : zB} {H : Heap} {locs : List Loc} {ls : Array Slot} (hf : f_M_isParallel_129 K l8 l7 l6 l5 l0 l2 F B = some (r, F9, B9)) (hZ : zH D ca ad lnM nM L F B A H) (hS : va_S A s.heap H locs) (hl : lv_has ls 15 [(8, .int (iI l8)), (7, .int (iI l7)), (6, .int (iI l6)), (5, .int (iI l5)), (0, .ref (ad 13 l0 0)), (2, .int (iI l2))]) : W p l e ({ frames := 3, cells := 0, slots := 0, locals := 71 } : Room) s m args below meth c H locs 0 0 (MQ below (Q_M_isParallel D ca ad L r F9 B9 A) args s 0 0 A) (F0 m 129 ls []) := by
  obtain ⟨hx, hb, hr, hml, hown, hts, hlk, hK, hA, hL, hX⟩ := id X
  replace hf : (f_M_isParallel_134 K l8 l7 l6 l5 l0 l2 1 F B) = some (r, F9, B9) := hf
  refine lv_iconst (v := iI 1) hx hb d_15_189_129 rfl ?_
  refine lv_goto (tgt := 134) hx hb d_15_189_130 (by decide) ?_
  exact b_M_isParallel_134 X hf hZ hS (lv_sub hl [0, 1, 2, 3, 4, 5] rfl)

def f_M_isParallel_119 (K : Nat) (l10 : Int) (l9 : Int) (l8 : Int) (l7 : Int) (l6 : Int) (l5 : Int) (l0 : Int) (l2 : Int) (F : zF) (B : zB) : zO := if r32 l9 then (if 0 ≤ l9 then f_M_isParallel_133 K l8 l7 l6 l5 l0 l2 F B else if r32 l10 then (if 0 ≤ l10 then f_M_isParallel_133 K l8 l7 l6 l5 l0 l2 F B else f_M_isParallel_129 K l8 l7 l6 l5 l0 l2 F B) else none) else none
set_option maxHeartbeats 4000000 in
set_option maxRecDepth 100000 in
theorem b_M_isParallel_119 {D : va_G} {ca : Nat → ClassId} {ad : Nat → Int → Nat → Nat} {L : List Nat} {aS vS : Nat → Nat} {A : Nat → Prop} {p : Program} {l : Launch} {e : Env} {s : State} {m : MethodId} {args : Array Value} {below : List Frame} {meth : Method} {c : Code} {K : Nat} {r : Int} {F9 : zF} {B9 : zB} (X : zX D ca L aS vS A p s m args meth c prog_15_method_189_code 15 (Option.some Jvm.ClassFile.FieldType.boolean) "StaveHouseModel") {l10 : Int} {l9 : Int} {l8 : Int} {l7 : Int} {l6 : Int} {l5 : Int} {l0 : Int} {l2 : Int} {F : zF} {B : zB} {H : Heap} {locs : List Loc} {ls : Array Slot} (hf : f_M_isParallel_119 K l10 l9 l8 l7 l6 l5 l0 l2 F B = some (r, F9, B9)) (hZ : zH D ca ad lnM nM L F B A H) (hS : va_S A s.heap H locs) (hl : lv_has ls 15 [(10, .int (iI l10)), (9, .int (iI l9)), (8, .int (iI l8)), (7, .int (iI l7)), (6, .int (iI l6)), (5, .int (iI l5)), (0, .ref (ad 13 l0 0)), (2, .int (iI l2))]) : W p l e ({ frames := 3, cells := 0, slots := 0, locals := 71 } : Room) s m args below meth c H locs 0 0 (MQ below (Q_M_isParallel D ca ad L r F9 B9 A) args s 0 0 A) (F0 m 119 ls []) := by
  obtain ⟨hx, hb, hr, hml, hown, hts, hlk, hK, hA, hL, hX⟩ := id X
  replace hf : (if r32 l9 then (if 0 ≤ l9 then f_M_isParallel_133 K l8 l7 l6 l5 l0 l2 F B else if r32 l10 then (if 0 ≤ l10 then f_M_isParallel_133 K l8 l7 l6 l5 l0 l2 F B else f_M_isParallel_129 K l8 l7 l6 l5 l0 l2 F B) else none) else none) = some (r, F9, B9) := hf
  refine lv_iload hx hb d_15_189_119 (lv_at hl 1 rfl) ?_
  obtain ⟨g27, hf⟩ := gif hf
  refine z0ge (tgt := 133) hx hb g27 d_15_189_121 (by decide) (fun h28 => ?_) (fun h28 => ?_)
  · replace hf := gpos hf h28
    exact b_M_isParallel_133 X hf hZ hS (lv_sub hl [2, 3, 4, 5, 6, 7] rfl)
  · replace hf := gneg hf h28
    refine lv_iload hx hb d_15_189_124 (lv_at hl 0 rfl) ?_
    obtain ⟨g29, hf⟩ := gif hf
    refine z0ge (tgt := 133) hx hb g29 d_15_189_126 (by decide) (fun h30 => ?_) (fun h30 => ?_)
    · replace hf := gpos hf h30
      exact b_M_isParallel_133 X hf hZ hS (lv_sub hl [2, 3, 4, 5, 6, 7] rfl)
    · replace hf := gneg hf h30
      exact b_M_isParallel_129 X hf hZ hS (lv_sub hl [2, 3, 4, 5, 6, 7] rfl)

def f_M_isParallel_77 (K : Nat)  (F : zF) (B : zB) : zO := some (0, F, B)
set_option maxHeartbeats 4000000 in
set_option maxRecDepth 100000 in
theorem b_M_isParallel_77 {D : va_G} {ca : Nat → ClassId} {ad : Nat → Int → Nat → Nat} {L : List Nat} {aS vS : Nat → Nat} {A : Nat → Prop} {p : Program} {l : Launch} {e : Env} {s : State} {m : MethodId} {args : Array Value} {below : List Frame} {meth : Method} {c : Code} {K : Nat} {r : Int} {F9 : zF} {B9 : zB} (X : zX D ca L aS vS A p s m args meth c prog_15_method_189_code 15 (Option.some Jvm.ClassFile.FieldType.boolean) "StaveHouseModel")  {F : zF} {B : zB} {H : Heap} {locs : List Loc} {ls : Array Slot} (hf : f_M_isParallel_77 K  F B = some (r, F9, B9)) (hZ : zH D ca ad lnM nM L F B A H) (hS : va_S A s.heap H locs) (hl : lv_has ls 15 []) : W p l e ({ frames := 3, cells := 0, slots := 0, locals := 71 } : Room) s m args below meth c H locs 0 0 (MQ below (Q_M_isParallel D ca ad L r F9 B9 A) args s 0 0 A) (F0 m 77 ls []) := by
  obtain ⟨hx, hb, hr, hml, hown, hts, hlk, hK, hA, hL, hX⟩ := id X
  replace hf : (some (0, F, B)) = some (r, F9, B9) := hf
  refine lv_iconst (v := iI 0) hx hb d_15_189_77 rfl ?_
  cases hf
  exact W.zret hx hb hr rfl (fun t ht hW => ⟨⟨_, (), rfl, rfl, by rw [ht]; exact hZ, va_K.moved hW.alike hK⟩, hS.F ht⟩) hS.2.2 d_15_189_78 hlk

def f_M_isParallel (K : Nat) (l0 : Int) (l1 : Int) (l2 : Int) (l3 : Int) (l4 : Int) (F : zF) (B : zB) : zO := zbind (f_M_lineAt K l0 l1 l3 F B) (fun r1 F1 B1 => zbind (f_M_lineAt K l0 l1 l4 F1 B1) (fun r2 F2 B2 => zbind (f_M_lineAt K l0 (l1 - 1) l3 F2 B2) (fun r3 F3 B3 => zbind (f_M_lineAt K l0 (l1 - 1) l4 F3 B3) (fun r4 F4 B4 => if r32 r1 then (if r1 < 0 then f_M_isParallel_77 K F4 B4 else if r32 r2 then (if r2 < 0 then f_M_isParallel_77 K F4 B4 else if r32 r3 then (if r3 < 0 then f_M_isParallel_77 K F4 B4 else if r32 r4 then (if r4 < 0 then f_M_isParallel_77 K F4 B4 else zbind (f_M_beginsAt K l0 l1 l3 F4 B4) (fun r13 F13 B13 => if r32 r13 then (if r13 = 0 then f_M_isParallel_77 K F13 B13 else zbind (f_M_beginsAt K l0 l1 l4 F13 B13) (fun r16 F16 B16 => if r32 r16 then (if r16 = 0 then f_M_isParallel_77 K F16 B16 else zbind (f_M_toneAt K l0 r1 F16 B16) (fun r19 F19 B19 => zbind (f_M_toneAt K l0 r3 F19 B19) (fun r20 F20 B20 => zbind (f_M_toneAt K l0 r2 F20 B20) (fun r21 F21 B21 => zbind (f_M_toneAt K l0 r4 F21 B21) (fun r22 F22 B22 => if r32 (r19 - r20) then (if (r19 - r20) ≤ 0 then f_M_isParallel_119 K (r21 - r22) (r19 - r20) r4 r3 r2 r1 l0 l2 F22 B22 else if r32 (r21 - r22) then (if 0 < (r21 - r22) then f_M_isParallel_129 K r4 r3 r2 r1 l0 l2 F22 B22 else f_M_isParallel_119 K (r21 - r22) (r19 - r20) r4 r3 r2 r1 l0 l2 F22 B22) else none) else none))))) else none)) else none)) else none) else none) else none) else none))))
set_option maxHeartbeats 4000000 in
set_option maxRecDepth 100000 in
theorem c_M_isParallel {l : Launch} {D : va_G} {ca : Nat → ClassId} {ad : Nat → Int → Nat → Nat} {L : List Nat} {aS vS : Nat → Nat} {sz K : Nat} {l0 : Int} {l1 : Int} {l2 : Int} {l3 : Int} {l4 : Int} {F F9 : zF} {B B9 : zB} {r : Int} (hf : f_M_isParallel K l0 l1 l2 l3 l4 F B = some (r, F9, B9)) : Met l ({ cls := "StaveHouseModel", name := "isParallel", desc := "(LStaveHouseModel$Piece;IIII)Z" } : Jvm.MethodName) (Cond.code ({ cls := "StaveHouseModel", name := "isParallel", desc := "(LStaveHouseModel$Piece;IIII)Z" } : Jvm.MethodName) prog_15_method_189_code 15 (Option.some Jvm.ClassFile.FieldType.boolean) :: wAll) ({ frames := 3, cells := 0, slots := 0, locals := 71 } : Room) (va_Pc [.ref (ad 13 l0 0), .int (iI l1), .int (iI l2), .int (iI l3), .int (iI l4)] (zPre D ca ad lnM nM L aS vS F B sz)) (Q_M_isParallel D ca ad L r F9 B9 (zA L sz)) 0 0 (zA L sz) := by
  refine zMet (Qc := Q_M_isParallel D ca ad L r F9 B9) (lv := [(0, .ref (ad 13 l0 0)), (1, .int (iI l1)), (2, .int (iI l2)), (3, .int (iI l3)), (4, .int (iI l4))]) (by decide) (Nat.le_of_ble_eq_true rfl) rfl (fun A p e s m below meth c ls X hZ hS hl => ?_)
  obtain ⟨hx, hb, hr, hml, hown, hts, hlk, hK, hA, hL, hX⟩ := id X
  replace hf : (zbind (f_M_lineAt K l0 l1 l3 F B) (fun r1 F1 B1 => zbind (f_M_lineAt K l0 l1 l4 F1 B1) (fun r2 F2 B2 => zbind (f_M_lineAt K l0 (l1 - 1) l3 F2 B2) (fun r3 F3 B3 => zbind (f_M_lineAt K l0 (l1 - 1) l4 F3 B3) (fun r4 F4 B4 => if r32 r1 then (if r1 < 0 then f_M_isParallel_77 K F4 B4 else if r32 r2 then (if r2 < 0 then f_M_isParallel_77 K F4 B4 else if r32 r3 then (if r3 < 0 then f_M_isParallel_77 K F4 B4 else if r32 r4 then (if r4 < 0 then f_M_isParallel_77 K F4 B4 else zbind (f_M_beginsAt K l0 l1 l3 F4 B4) (fun r13 F13 B13 => if r32 r13 then (if r13 = 0 then f_M_isParallel_77 K F13 B13 else zbind (f_M_beginsAt K l0 l1 l4 F13 B13) (fun r16 F16 B16 => if r32 r16 then (if r16 = 0 then f_M_isParallel_77 K F16 B16 else zbind (f_M_toneAt K l0 r1 F16 B16) (fun r19 F19 B19 => zbind (f_M_toneAt K l0 r3 F19 B19) (fun r20 F20 B20 => zbind (f_M_toneAt K l0 r2 F20 B20) (fun r21 F21 B21 => zbind (f_M_toneAt K l0 r4 F21 B21) (fun r22 F22 B22 => if r32 (r19 - r20) then (if (r19 - r20) ≤ 0 then f_M_isParallel_119 K (r21 - r22) (r19 - r20) r4 r3 r2 r1 l0 l2 F22 B22 else if r32 (r21 - r22) then (if 0 < (r21 - r22) then f_M_isParallel_129 K r4 r3 r2 r1 l0 l2 F22 B22 else f_M_isParallel_119 K (r21 - r22) (r19 - r20) r4 r3 r2 r1 l0 l2 F22 B22) else none) else none))))) else none)) else none)) else none) else none) else none) else none))))) = some (r, F9, B9) := hf
  refine lv_aload_n hx hb d_15_189_0 rfl (lv_at hl 0 rfl) ?_
  refine lv_iload_n hx hb d_15_189_1 rfl (lv_at hl 1 rfl) ?_
  refine lv_iload_n hx hb d_15_189_2 rfl (lv_at hl 3 rfl) ?_
  obtain ⟨r1, F1, B1, hc1, hf⟩ := gbind hf
  refine va_calli (va_runS (As := [.ref (ad 13 l0 0), .int (iI l1), .int (iI l3)]) (rest := []) ⟨hx, hb, hml, hown, hts⟩ (c_M_lineAt (l := l) hc1) (va_cwS 3 hts (gdS k_15_115 k_15_116 k_1_9 k_15_117) rfl rfl rfl (by decide +kernel) ⟨Nat.le_of_ble_eq_true rfl, Nat.le_of_ble_eq_true rfl⟩) (zPS X hZ hS [.ref (ad 13 l0 0), .int (iI l1), .int (iI l3)]) rfl rfl hl.1 rfl (lv_room (Nat.le_of_ble_eq_true rfl)) d_15_189_3 ⟨Nat.le_of_ble_eq_true rfl, Nat.le_of_ble_eq_true rfl⟩) hS (fun q _ h => zAin X hS q h) (zAin X hS) (fun p1 u1 t1 H1 locs1 ht1 hv1 hw1 hB1 hz1 hk1 hS1 => ?_)
  have hZ1 := zBack X ht1 hB1
  subst hw1
  refine lv_istore (lv' := [(5, .int (iI r1)), (0, .ref (ad 13 l0 0)), (1, .int (iI l1)), (2, .int (iI l2)), (3, .int (iI l3)), (4, .int (iI l4))]) hx hb d_15_189_6 hl (by decide) rfl (fun ls hl => ?_)
  refine lv_aload_n hx hb d_15_189_8 rfl (lv_at hl 1 rfl) ?_
  refine lv_iload_n hx hb d_15_189_9 rfl (lv_at hl 2 rfl) ?_
  refine lv_iload hx hb d_15_189_10 (lv_at hl 5 rfl) ?_
  obtain ⟨r2, F2, B2, hc2, hf⟩ := gbind hf
  refine va_calli (va_runS (As := [.ref (ad 13 l0 0), .int (iI l1), .int (iI l4)]) (rest := []) ⟨hx, hb, hml, hown, hts⟩ (c_M_lineAt (l := l) hc2) (va_cwS 3 hts (gdS k_15_115 k_15_116 k_1_9 k_15_117) rfl rfl rfl (by decide +kernel) ⟨Nat.le_of_ble_eq_true rfl, Nat.le_of_ble_eq_true rfl⟩) (zPS X hZ1 hS1 [.ref (ad 13 l0 0), .int (iI l1), .int (iI l4)]) rfl rfl hl.1 rfl (lv_room (Nat.le_of_ble_eq_true rfl)) d_15_189_12 ⟨Nat.le_of_ble_eq_true rfl, Nat.le_of_ble_eq_true rfl⟩) hS1 (fun q _ h => zAin X hS1 q h) (zAin X hS1) (fun p2 u2 t2 H2 locs2 ht2 hv2 hw2 hB2 hz2 hk2 hS2 => ?_)
  have hZ2 := zBack X ht2 hB2
  subst hw2
  refine lv_istore (lv' := [(6, .int (iI r2)), (5, .int (iI r1)), (0, .ref (ad 13 l0 0)), (1, .int (iI l1)), (2, .int (iI l2)), (3, .int (iI l3)), (4, .int (iI l4))]) hx hb d_15_189_15 hl (by decide) rfl (fun ls hl => ?_)
  refine lv_aload_n hx hb d_15_189_17 rfl (lv_at hl 2 rfl) ?_
  refine lv_iload_n hx hb d_15_189_18 rfl (lv_at hl 3 rfl) ?_
  refine lv_iconst (v := iI 1) hx hb d_15_189_19 rfl ?_
  refine zsub hx hb d_15_189_20 ?_
  refine lv_iload_n hx hb d_15_189_21 rfl (lv_at hl 5 rfl) ?_
  obtain ⟨r3, F3, B3, hc3, hf⟩ := gbind hf
  refine va_calli (va_runS (As := [.ref (ad 13 l0 0), .int (iI (l1 - 1)), .int (iI l3)]) (rest := []) ⟨hx, hb, hml, hown, hts⟩ (c_M_lineAt (l := l) hc3) (va_cwS 3 hts (gdS k_15_115 k_15_116 k_1_9 k_15_117) rfl rfl rfl (by decide +kernel) ⟨Nat.le_of_ble_eq_true rfl, Nat.le_of_ble_eq_true rfl⟩) (zPS X hZ2 hS2 [.ref (ad 13 l0 0), .int (iI (l1 - 1)), .int (iI l3)]) rfl rfl hl.1 rfl (lv_room (Nat.le_of_ble_eq_true rfl)) d_15_189_22 ⟨Nat.le_of_ble_eq_true rfl, Nat.le_of_ble_eq_true rfl⟩) hS2 (fun q _ h => zAin X hS2 q h) (zAin X hS2) (fun p3 u3 t3 H3 locs3 ht3 hv3 hw3 hB3 hz3 hk3 hS3 => ?_)
  have hZ3 := zBack X ht3 hB3
  subst hw3
  refine lv_istore (lv' := [(7, .int (iI r3)), (6, .int (iI r2)), (5, .int (iI r1)), (0, .ref (ad 13 l0 0)), (1, .int (iI l1)), (2, .int (iI l2)), (3, .int (iI l3)), (4, .int (iI l4))]) hx hb d_15_189_25 hl (by decide) rfl (fun ls hl => ?_)
  refine lv_aload_n hx hb d_15_189_27 rfl (lv_at hl 3 rfl) ?_
  refine lv_iload_n hx hb d_15_189_28 rfl (lv_at hl 4 rfl) ?_
  refine lv_iconst (v := iI 1) hx hb d_15_189_29 rfl ?_
  refine zsub hx hb d_15_189_30 ?_
  refine lv_iload hx hb d_15_189_31 (lv_at hl 7 rfl) ?_
  obtain ⟨r4, F4, B4, hc4, hf⟩ := gbind hf
  refine va_calli (va_runS (As := [.ref (ad 13 l0 0), .int (iI (l1 - 1)), .int (iI l4)]) (rest := []) ⟨hx, hb, hml, hown, hts⟩ (c_M_lineAt (l := l) hc4) (va_cwS 3 hts (gdS k_15_115 k_15_116 k_1_9 k_15_117) rfl rfl rfl (by decide +kernel) ⟨Nat.le_of_ble_eq_true rfl, Nat.le_of_ble_eq_true rfl⟩) (zPS X hZ3 hS3 [.ref (ad 13 l0 0), .int (iI (l1 - 1)), .int (iI l4)]) rfl rfl hl.1 rfl (lv_room (Nat.le_of_ble_eq_true rfl)) d_15_189_33 ⟨Nat.le_of_ble_eq_true rfl, Nat.le_of_ble_eq_true rfl⟩) hS3 (fun q _ h => zAin X hS3 q h) (zAin X hS3) (fun p4 u4 t4 H4 locs4 ht4 hv4 hw4 hB4 hz4 hk4 hS4 => ?_)
  have hZ4 := zBack X ht4 hB4
  subst hw4
  refine lv_istore (lv' := [(8, .int (iI r4)), (7, .int (iI r3)), (6, .int (iI r2)), (5, .int (iI r1)), (0, .ref (ad 13 l0 0)), (1, .int (iI l1)), (2, .int (iI l2)), (3, .int (iI l3)), (4, .int (iI l4))]) hx hb d_15_189_36 hl (by decide) rfl (fun ls hl => ?_)
  refine lv_iload hx hb d_15_189_38 (lv_at hl 3 rfl) ?_
  obtain ⟨g5, hf⟩ := gif hf
  refine z0lt (tgt := 77) hx hb g5 d_15_189_40 (by decide) (fun h6 => ?_) (fun h6 => ?_)
  · replace hf := gpos hf h6
    exact b_M_isParallel_77 X hf hZ4 hS4 (lv_sub hl [] rfl)
  · replace hf := gneg hf h6
    refine lv_iload hx hb d_15_189_43 (lv_at hl 2 rfl) ?_
    obtain ⟨g7, hf⟩ := gif hf
    refine z0lt (tgt := 77) hx hb g7 d_15_189_45 (by decide) (fun h8 => ?_) (fun h8 => ?_)
    · replace hf := gpos hf h8
      exact b_M_isParallel_77 X hf hZ4 hS4 (lv_sub hl [] rfl)
    · replace hf := gneg hf h8
      refine lv_iload hx hb d_15_189_48 (lv_at hl 1 rfl) ?_
      obtain ⟨g9, hf⟩ := gif hf
      refine z0lt (tgt := 77) hx hb g9 d_15_189_50 (by decide) (fun h10 => ?_) (fun h10 => ?_)
      · replace hf := gpos hf h10
        exact b_M_isParallel_77 X hf hZ4 hS4 (lv_sub hl [] rfl)
      · replace hf := gneg hf h10
        refine lv_iload hx hb d_15_189_53 (lv_at hl 0 rfl) ?_
        obtain ⟨g11, hf⟩ := gif hf
        refine z0lt (tgt := 77) hx hb g11 d_15_189_55 (by decide) (fun h12 => ?_) (fun h12 => ?_)
        · replace hf := gpos hf h12
          exact b_M_isParallel_77 X hf hZ4 hS4 (lv_sub hl [] rfl)
        · replace hf := gneg hf h12
          refine lv_aload_n hx hb d_15_189_58 rfl (lv_at hl 4 rfl) ?_
          refine lv_iload_n hx hb d_15_189_59 rfl (lv_at hl 5 rfl) ?_
          refine lv_iload_n hx hb d_15_189_60 rfl (lv_at hl 7 rfl) ?_
          obtain ⟨r13, F13, B13, hc13, hf⟩ := gbind hf
          refine va_calli (va_runS (As := [.ref (ad 13 l0 0), .int (iI l1), .int (iI l3)]) (rest := []) ⟨hx, hb, hml, hown, hts⟩ (c_M_beginsAt (l := l) hc13) (va_cwS 3 hts (gdS k_15_118 k_15_119 k_1_9 k_15_120) rfl rfl rfl (by decide +kernel) ⟨Nat.le_of_ble_eq_true rfl, Nat.le_of_ble_eq_true rfl⟩) (zPS X hZ4 hS4 [.ref (ad 13 l0 0), .int (iI l1), .int (iI l3)]) rfl rfl hl.1 rfl (lv_room (Nat.le_of_ble_eq_true rfl)) d_15_189_61 ⟨Nat.le_of_ble_eq_true rfl, Nat.le_of_ble_eq_true rfl⟩) hS4 (fun q _ h => zAin X hS4 q h) (zAin X hS4) (fun p13 u13 t13 H13 locs13 ht13 hv13 hw13 hB13 hz13 hk13 hS13 => ?_)
          have hZ13 := zBack X ht13 hB13
          subst hw13
          obtain ⟨g14, hf⟩ := gif hf
          refine z0eq (tgt := 77) hx hb g14 d_15_189_64 (by decide) (fun h15 => ?_) (fun h15 => ?_)
          · replace hf := gpos hf h15
            exact b_M_isParallel_77 X hf hZ13 hS13 (lv_sub hl [] rfl)
          · replace hf := gneg hf h15
            refine lv_aload_n hx hb d_15_189_67 rfl (lv_at hl 4 rfl) ?_
            refine lv_iload_n hx hb d_15_189_68 rfl (lv_at hl 5 rfl) ?_
            refine lv_iload hx hb d_15_189_69 (lv_at hl 8 rfl) ?_
            obtain ⟨r16, F16, B16, hc16, hf⟩ := gbind hf
            refine va_calli (va_runS (As := [.ref (ad 13 l0 0), .int (iI l1), .int (iI l4)]) (rest := []) ⟨hx, hb, hml, hown, hts⟩ (c_M_beginsAt (l := l) hc16) (va_cwS 3 hts (gdS k_15_118 k_15_119 k_1_9 k_15_120) rfl rfl rfl (by decide +kernel) ⟨Nat.le_of_ble_eq_true rfl, Nat.le_of_ble_eq_true rfl⟩) (zPS X hZ13 hS13 [.ref (ad 13 l0 0), .int (iI l1), .int (iI l4)]) rfl rfl hl.1 rfl (lv_room (Nat.le_of_ble_eq_true rfl)) d_15_189_71 ⟨Nat.le_of_ble_eq_true rfl, Nat.le_of_ble_eq_true rfl⟩) hS13 (fun q _ h => zAin X hS13 q h) (zAin X hS13) (fun p16 u16 t16 H16 locs16 ht16 hv16 hw16 hB16 hz16 hk16 hS16 => ?_)
            have hZ16 := zBack X ht16 hB16
            subst hw16
            obtain ⟨g17, hf⟩ := gif hf
            refine z0ne (tgt := 79) hx hb g17 d_15_189_74 (by decide) (fun h18 => ?_) (fun h18 => ?_)
            · replace hf := gneg hf h18
              refine lv_aload_n hx hb d_15_189_79 rfl (lv_at hl 4 rfl) ?_
              refine lv_iload hx hb d_15_189_80 (lv_at hl 3 rfl) ?_
              obtain ⟨r19, F19, B19, hc19, hf⟩ := gbind hf
              refine va_calli (va_runS (As := [.ref (ad 13 l0 0), .int (iI r1)]) (rest := []) ⟨hx, hb, hml, hown, hts⟩ (c_M_toneAt (l := l) hc19) (va_cwS 2 hts (gdS k_15_121 k_15_122 k_1_9 k_15_123) rfl rfl rfl (by decide +kernel) ⟨Nat.le_of_ble_eq_true rfl, Nat.le_of_ble_eq_true rfl⟩) (zPS X hZ16 hS16 [.ref (ad 13 l0 0), .int (iI r1)]) rfl rfl hl.1 rfl (lv_room (Nat.le_of_ble_eq_true rfl)) d_15_189_82 ⟨Nat.le_of_ble_eq_true rfl, Nat.le_of_ble_eq_true rfl⟩) hS16 (fun q _ h => zAin X hS16 q h) (zAin X hS16) (fun p19 u19 t19 H19 locs19 ht19 hv19 hw19 hB19 hz19 hk19 hS19 => ?_)
              have hZ19 := zBack X ht19 hB19
              subst hw19
              refine lv_aload_n hx hb d_15_189_85 rfl (lv_at hl 4 rfl) ?_
              refine lv_iload hx hb d_15_189_86 (lv_at hl 1 rfl) ?_
              obtain ⟨r20, F20, B20, hc20, hf⟩ := gbind hf
              refine va_calli (va_runS (As := [.ref (ad 13 l0 0), .int (iI r3)]) (rest := [.int (iI r19)]) ⟨hx, hb, hml, hown, hts⟩ (c_M_toneAt (l := l) hc20) (va_cwS 2 hts (gdS k_15_121 k_15_122 k_1_9 k_15_123) rfl rfl rfl (by decide +kernel) ⟨Nat.le_of_ble_eq_true rfl, Nat.le_of_ble_eq_true rfl⟩) (zPS X hZ19 hS19 [.ref (ad 13 l0 0), .int (iI r3)]) rfl rfl hl.1 rfl (lv_room (Nat.le_of_ble_eq_true rfl)) d_15_189_88 ⟨Nat.le_of_ble_eq_true rfl, Nat.le_of_ble_eq_true rfl⟩) hS19 (fun q _ h => zAin X hS19 q h) (zAin X hS19) (fun p20 u20 t20 H20 locs20 ht20 hv20 hw20 hB20 hz20 hk20 hS20 => ?_)
              have hZ20 := zBack X ht20 hB20
              subst hw20
              refine zsub hx hb d_15_189_91 ?_
              refine lv_istore (lv' := [(9, .int (iI (r19 - r20))), (8, .int (iI r4)), (7, .int (iI r3)), (6, .int (iI r2)), (5, .int (iI r1)), (0, .ref (ad 13 l0 0)), (1, .int (iI l1)), (2, .int (iI l2)), (3, .int (iI l3)), (4, .int (iI l4))]) hx hb d_15_189_92 hl (by decide) rfl (fun ls hl => ?_)
              refine lv_aload_n hx hb d_15_189_94 rfl (lv_at hl 5 rfl) ?_
              refine lv_iload hx hb d_15_189_95 (lv_at hl 3 rfl) ?_
              obtain ⟨r21, F21, B21, hc21, hf⟩ := gbind hf
              refine va_calli (va_runS (As := [.ref (ad 13 l0 0), .int (iI r2)]) (rest := []) ⟨hx, hb, hml, hown, hts⟩ (c_M_toneAt (l := l) hc21) (va_cwS 2 hts (gdS k_15_121 k_15_122 k_1_9 k_15_123) rfl rfl rfl (by decide +kernel) ⟨Nat.le_of_ble_eq_true rfl, Nat.le_of_ble_eq_true rfl⟩) (zPS X hZ20 hS20 [.ref (ad 13 l0 0), .int (iI r2)]) rfl rfl hl.1 rfl (lv_room (Nat.le_of_ble_eq_true rfl)) d_15_189_97 ⟨Nat.le_of_ble_eq_true rfl, Nat.le_of_ble_eq_true rfl⟩) hS20 (fun q _ h => zAin X hS20 q h) (zAin X hS20) (fun p21 u21 t21 H21 locs21 ht21 hv21 hw21 hB21 hz21 hk21 hS21 => ?_)
              have hZ21 := zBack X ht21 hB21
              subst hw21
              refine lv_aload_n hx hb d_15_189_100 rfl (lv_at hl 5 rfl) ?_
              refine lv_iload hx hb d_15_189_101 (lv_at hl 1 rfl) ?_
              obtain ⟨r22, F22, B22, hc22, hf⟩ := gbind hf
              refine va_calli (va_runS (As := [.ref (ad 13 l0 0), .int (iI r4)]) (rest := [.int (iI r21)]) ⟨hx, hb, hml, hown, hts⟩ (c_M_toneAt (l := l) hc22) (va_cwS 2 hts (gdS k_15_121 k_15_122 k_1_9 k_15_123) rfl rfl rfl (by decide +kernel) ⟨Nat.le_of_ble_eq_true rfl, Nat.le_of_ble_eq_true rfl⟩) (zPS X hZ21 hS21 [.ref (ad 13 l0 0), .int (iI r4)]) rfl rfl hl.1 rfl (lv_room (Nat.le_of_ble_eq_true rfl)) d_15_189_103 ⟨Nat.le_of_ble_eq_true rfl, Nat.le_of_ble_eq_true rfl⟩) hS21 (fun q _ h => zAin X hS21 q h) (zAin X hS21) (fun p22 u22 t22 H22 locs22 ht22 hv22 hw22 hB22 hz22 hk22 hS22 => ?_)
              have hZ22 := zBack X ht22 hB22
              subst hw22
              refine zsub hx hb d_15_189_106 ?_
              refine lv_istore (lv' := [(10, .int (iI (r21 - r22))), (9, .int (iI (r19 - r20))), (8, .int (iI r4)), (7, .int (iI r3)), (6, .int (iI r2)), (5, .int (iI r1)), (0, .ref (ad 13 l0 0)), (1, .int (iI l1)), (2, .int (iI l2)), (3, .int (iI l3)), (4, .int (iI l4))]) hx hb d_15_189_107 hl (by decide) rfl (fun ls hl => ?_)
              refine lv_iload hx hb d_15_189_109 (lv_at hl 1 rfl) ?_
              obtain ⟨g23, hf⟩ := gif hf
              refine z0le (tgt := 119) hx hb g23 d_15_189_111 (by decide) (fun h24 => ?_) (fun h24 => ?_)
              · replace hf := gpos hf h24
                exact b_M_isParallel_119 X hf hZ22 hS22 (lv_sub hl [0, 1, 2, 3, 4, 5, 6, 8] rfl)
              · replace hf := gneg hf h24
                refine lv_iload hx hb d_15_189_114 (lv_at hl 0 rfl) ?_
                obtain ⟨g25, hf⟩ := gif hf
                refine z0gt (tgt := 129) hx hb g25 d_15_189_116 (by decide) (fun h26 => ?_) (fun h26 => ?_)
                · replace hf := gpos hf h26
                  exact b_M_isParallel_129 X hf hZ22 hS22 (lv_sub hl [2, 3, 4, 5, 6, 8] rfl)
                · replace hf := gneg hf h26
                  exact b_M_isParallel_119 X hf hZ22 hS22 (lv_sub hl [0, 1, 2, 3, 4, 5, 6, 8] rfl)
            · replace hf := gpos hf h18
              exact b_M_isParallel_77 X hf hZ16 hS16 (lv_sub hl [] rfl)

abbrev Q_M_trill (D : va_G) (ca : Nat → ClassId) (ad : Nat → Int → Nat → Nat) (L : List Nat) (r : Int) (F : zF) (B : zB) (A : Nat → Prop) : Array Value → State → Outcome → State → Prop := va_Qv (S := Unit) (fun _ => True) (fun _ => zPo D ca ad lnM nM L F B A) A
def f_M_trill_152 (rec88 : Int → Int → Int → Int → Int → Int → Int → Int → Int → zF → zB → zO) (K : Nat) (l12 : Int) (l10 : Int) (l9 : Int) (l8 : Int) (l6 : Int) (l1 : Int) (l2 : Int) (l3 : Int) (s0 : Int) (F : zF) (B : zB) : zO := rec88 (l12 + 12) s0 l10 l9 l8 l6 l1 l2 l3 F B
set_option maxHeartbeats 4000000 in
set_option maxRecDepth 100000 in
theorem b_M_trill_152 {D : va_G} {ca : Nat → ClassId} {ad : Nat → Int → Nat → Nat} {L : List Nat} {aS vS : Nat → Nat} {A : Nat → Prop} {p : Program} {l : Launch} {e : Env} {s : State} {m : MethodId} {args : Array Value} {below : List Frame} {meth : Method} {c : Code} {K : Nat} {r : Int} {F9 : zF} {B9 : zB} (X : zX D ca L aS vS A p s m args meth c prog_15_method_119_code 13 (Option.none : Option Jvm.ClassFile.FieldType) "StaveHouseModel") {rec88 : Int → Int → Int → Int → Int → Int → Int → Int → Int → zF → zB → zO} (hrec88 : ∀ {l12 : Int} {l11 : Int} {l10 : Int} {l9 : Int} {l8 : Int} {l6 : Int} {l1 : Int} {l2 : Int} {l3 : Int} {F : zF} {B : zB} {H : Heap} {locs : List Loc} {ls : Array Slot}, rec88 l12 l11 l10 l9 l8 l6 l1 l2 l3 F B = some (r, F9, B9) → zH D ca ad lnM nM L F B A H → va_S A s.heap H locs → lv_has ls 13 [(12, .int (iI l12)), (11, .int (iI l11)), (10, .int (iI l10)), (9, .int (iI l9)), (8, .int (iI l8)), (6, .int (iI l6)), (0, .ref (ad 14 0 0)), (1, .ref (ad 13 l1 0)), (2, .int (iI l2)), (3, .int (iI l3))] → W p l e ({ frames := 4, cells := 0, slots := 0, locals := 107 } : Room) s m args below meth c H locs 0 0 (MQ below (Q_M_trill D ca ad L r F9 B9 A) args s 0 0 A) (F0 m 88 ls [])) {l12 : Int} {l10 : Int} {l9 : Int} {l8 : Int} {l6 : Int} {l1 : Int} {l2 : Int} {l3 : Int} {s0 : Int} {F : zF} {B : zB} {H : Heap} {locs : List Loc} {ls : Array Slot} (hf : f_M_trill_152 rec88 K l12 l10 l9 l8 l6 l1 l2 l3 s0 F B = some (r, F9, B9)) (hZ : zH D ca ad lnM nM L F B A H) (hS : va_S A s.heap H locs) (hl : lv_has ls 13 [(12, .int (iI l12)), (10, .int (iI l10)), (9, .int (iI l9)), (8, .int (iI l8)), (6, .int (iI l6)), (0, .ref (ad 14 0 0)), (1, .ref (ad 13 l1 0)), (2, .int (iI l2)), (3, .int (iI l3))]) : W p l e ({ frames := 4, cells := 0, slots := 0, locals := 107 } : Room) s m args below meth c H locs 0 0 (MQ below (Q_M_trill D ca ad L r F9 B9 A) args s 0 0 A) (F0 m 152 ls [.int (iI s0)]) := by
  obtain ⟨hx, hb, hr, hml, hown, hts, hlk, hK, hA, hL, hX⟩ := id X
  replace hf : (rec88 (l12 + 12) s0 l10 l9 l8 l6 l1 l2 l3 F B) = some (r, F9, B9) := hf
  refine lv_istore (lv' := [(11, .int (iI s0)), (12, .int (iI l12)), (10, .int (iI l10)), (9, .int (iI l9)), (8, .int (iI l8)), (6, .int (iI l6)), (0, .ref (ad 14 0 0)), (1, .ref (ad 13 l1 0)), (2, .int (iI l2)), (3, .int (iI l3))]) hx hb d_15_119_152 hl (by decide) rfl (fun ls hl => ?_)
  refine lv_iinc (v := iI (l12 + 12)) (lv' := [(12, .int (iI (l12 + 12))), (11, .int (iI s0)), (10, .int (iI l10)), (9, .int (iI l9)), (8, .int (iI l8)), (6, .int (iI l6)), (0, .ref (ad 14 0 0)), (1, .ref (ad 13 l1 0)), (2, .int (iI l2)), (3, .int (iI l3))]) hx hb d_15_119_154 hl (k := 1) rfl (iI_add _ 12) (by decide) rfl (fun ls hl => ?_)
  refine lv_goto (tgt := 88) hx hb d_15_119_157 (by decide) ?_
  exact hrec88 hf hZ hS (lv_sub hl [0, 1, 2, 3, 4, 5, 6, 7, 8, 9] rfl)

def f_M_trill_130 (rec88 : Int → Int → Int → Int → Int → Int → Int → Int → Int → zF → zB → zO) (K : Nat) (l12 : Int) (l11 : Int) (l10 : Int) (l9 : Int) (l8 : Int) (l6 : Int) (l1 : Int) (l2 : Int) (l3 : Int) (s1 : Int) (s2 : Int) (s3 : Int) (F : zF) (B : zB) : zO := zbind (f_M_forceOf K l1 l6 F B) (fun r17 F17 B17 => zbind (f_M_sound_1 K s1 s2 s3 r17 l2 l3 F17 B17) (fun r18 F18 B18 => if r32 l11 then (if l11 = 0 then f_M_trill_152 rec88 K l12 l10 l9 l8 l6 l1 l2 l3 1 F18 B18 else f_M_trill_152 rec88 K l12 l10 l9 l8 l6 l1 l2 l3 0 F18 B18) else none))
set_option maxHeartbeats 4000000 in
set_option maxRecDepth 100000 in
theorem b_M_trill_130 {D : va_G} {ca : Nat → ClassId} {ad : Nat → Int → Nat → Nat} {L : List Nat} {aS vS : Nat → Nat} {A : Nat → Prop} {p : Program} {l : Launch} {e : Env} {s : State} {m : MethodId} {args : Array Value} {below : List Frame} {meth : Method} {c : Code} {K : Nat} {r : Int} {F9 : zF} {B9 : zB} (X : zX D ca L aS vS A p s m args meth c prog_15_method_119_code 13 (Option.none : Option Jvm.ClassFile.FieldType) "StaveHouseModel") {rec88 : Int → Int → Int → Int → Int → Int → Int → Int → Int → zF → zB → zO} (hrec88 : ∀ {l12 : Int} {l11 : Int} {l10 : Int} {l9 : Int} {l8 : Int} {l6 : Int} {l1 : Int} {l2 : Int} {l3 : Int} {F : zF} {B : zB} {H : Heap} {locs : List Loc} {ls : Array Slot}, rec88 l12 l11 l10 l9 l8 l6 l1 l2 l3 F B = some (r, F9, B9) → zH D ca ad lnM nM L F B A H → va_S A s.heap H locs → lv_has ls 13 [(12, .int (iI l12)), (11, .int (iI l11)), (10, .int (iI l10)), (9, .int (iI l9)), (8, .int (iI l8)), (6, .int (iI l6)), (0, .ref (ad 14 0 0)), (1, .ref (ad 13 l1 0)), (2, .int (iI l2)), (3, .int (iI l3))] → W p l e ({ frames := 4, cells := 0, slots := 0, locals := 107 } : Room) s m args below meth c H locs 0 0 (MQ below (Q_M_trill D ca ad L r F9 B9 A) args s 0 0 A) (F0 m 88 ls [])) {l12 : Int} {l11 : Int} {l10 : Int} {l9 : Int} {l8 : Int} {l6 : Int} {l1 : Int} {l2 : Int} {l3 : Int} {s1 : Int} {s2 : Int} {s3 : Int} {F : zF} {B : zB} {H : Heap} {locs : List Loc} {ls : Array Slot} (hf : f_M_trill_130 rec88 K l12 l11 l10 l9 l8 l6 l1 l2 l3 s1 s2 s3 F B = some (r, F9, B9)) (hZ : zH D ca ad lnM nM L F B A H) (hS : va_S A s.heap H locs) (hl : lv_has ls 13 [(12, .int (iI l12)), (11, .int (iI l11)), (10, .int (iI l10)), (9, .int (iI l9)), (8, .int (iI l8)), (6, .int (iI l6)), (0, .ref (ad 14 0 0)), (1, .ref (ad 13 l1 0)), (2, .int (iI l2)), (3, .int (iI l3))]) : W p l e ({ frames := 4, cells := 0, slots := 0, locals := 107 } : Room) s m args below meth c H locs 0 0 (MQ below (Q_M_trill D ca ad L r F9 B9 A) args s 0 0 A) (F0 m 130 ls [.int (iI s3), .int (iI s2), .int (iI s1), .ref (ad 14 0 0)]) := by
  obtain ⟨hx, hb, hr, hml, hown, hts, hlk, hK, hA, hL, hX⟩ := id X
  replace hf : (zbind (f_M_forceOf K l1 l6 F B) (fun r17 F17 B17 => zbind (f_M_sound_1 K s1 s2 s3 r17 l2 l3 F17 B17) (fun r18 F18 B18 => if r32 l11 then (if l11 = 0 then f_M_trill_152 rec88 K l12 l10 l9 l8 l6 l1 l2 l3 1 F18 B18 else f_M_trill_152 rec88 K l12 l10 l9 l8 l6 l1 l2 l3 0 F18 B18) else none))) = some (r, F9, B9) := hf
  refine lv_aload_n hx hb d_15_119_130 rfl (lv_at hl 6 rfl) ?_
  refine lv_aload_n hx hb d_15_119_131 rfl (lv_at hl 7 rfl) ?_
  refine lv_iload hx hb d_15_119_132 (lv_at hl 5 rfl) ?_
  obtain ⟨r17, F17, B17, hc17, hf⟩ := gbind hf
  refine va_calli (va_runV (As := [.ref (ad 13 l1 0), .int (iI l6)]) (rest := [.int (iI s3), .int (iI s2), .int (iI s1), .ref (ad 14 0 0)]) ⟨hx, hb, hml, hown, hts⟩ (c_M_forceOf (l := l) hc17) (cwV 2 hts (gdV k_12_170 k_12_172 ks_137 k_1_9 k_12_173) rfl rfl rfl (by decide +kernel) ⟨Nat.le_of_ble_eq_true rfl, Nat.le_of_ble_eq_true rfl⟩) (zPV X hZ hS (ci := 14) (by decide) (by decide) (r := (RX14, TX14, 107)) rfl [.ref (ad 13 l1 0), .int (iI l6)]) rfl rfl hl.1 rfl (lv_room (Nat.le_of_ble_eq_true rfl)) d_15_119_134 ⟨Nat.le_of_ble_eq_true rfl, Nat.le_of_ble_eq_true rfl⟩) hS (fun q _ h => zAin X hS q h) (zAin X hS) (fun p17 u17 t17 H17 locs17 ht17 hv17 hw17 hB17 hz17 hk17 hS17 => ?_)
  have hZ17 := zBack X ht17 hB17
  subst hw17
  refine lv_iload_n hx hb d_15_119_137 rfl (lv_at hl 8 rfl) ?_
  refine lv_iload_n hx hb d_15_119_138 rfl (lv_at hl 9 rfl) ?_
  obtain ⟨r18, F18, B18, hc18, hf⟩ := gbind hf
  refine va_callv (va_runV (As := [.int (iI s1), .int (iI s2), .int (iI s3), .int (iI r17), .int (iI l2), .int (iI l3)]) (rest := []) ⟨hx, hb, hml, hown, hts⟩ (c_M_sound_1 (l := l) hc18) (cwV 6 hts (gdV k_12_174 k_12_176 ks_138 k_1_9 k_12_177) rfl rfl rfl (by decide +kernel) ⟨Nat.le_of_ble_eq_true rfl, Nat.le_of_ble_eq_true rfl⟩) (zPV X hZ17 hS17 (ci := 14) (by decide) (by decide) (r := (RX14, TX14, 107)) rfl [.int (iI s1), .int (iI s2), .int (iI s3), .int (iI r17), .int (iI l2), .int (iI l3)]) rfl rfl hl.1 rfl (lv_room (Nat.le_of_ble_eq_true rfl)) d_15_119_139 ⟨Nat.le_of_ble_eq_true rfl, Nat.le_of_ble_eq_true rfl⟩) hS17 (fun q _ h => zAin X hS17 q h) (zAin X hS17) (fun u18 t18 H18 locs18 ht18 hv18 hw18 hB18 hz18 hk18 hS18 => ?_)
  have hZ18 := zBack X ht18 hB18
  refine lv_iload hx hb d_15_119_142 (lv_at hl 1 rfl) ?_
  obtain ⟨g19, hf⟩ := gif hf
  refine z0ne (tgt := 151) hx hb g19 d_15_119_144 (by decide) (fun h20 => ?_) (fun h20 => ?_)
  · replace hf := gneg hf h20
    refine lv_iconst (v := iI 0) hx hb d_15_119_151 rfl ?_
    exact b_M_trill_152 X hrec88 hf hZ18 hS18 (lv_sub hl [0, 2, 3, 4, 5, 6, 7, 8, 9] rfl)
  · replace hf := gpos hf h20
    refine lv_iconst (v := iI 1) hx hb d_15_119_147 rfl ?_
    refine lv_goto (tgt := 152) hx hb d_15_119_148 (by decide) ?_
    exact b_M_trill_152 X hrec88 hf hZ18 hS18 (lv_sub hl [0, 2, 3, 4, 5, 6, 7, 8, 9] rfl)

def f_M_trill_118 (rec88 : Int → Int → Int → Int → Int → Int → Int → Int → Int → zF → zB → zO) (K : Nat) (l12 : Int) (l11 : Int) (l10 : Int) (l9 : Int) (l8 : Int) (l6 : Int) (l1 : Int) (l2 : Int) (l3 : Int) (s1 : Int) (s2 : Int) (F : zF) (B : zB) : zO := if r32 l11 then (if l11 = 0 then f_M_trill_130 rec88 K l12 l11 l10 l9 l8 l6 l1 l2 l3 s1 s2 l9 F B else f_M_trill_130 rec88 K l12 l11 l10 l9 l8 l6 l1 l2 l3 s1 s2 l10 F B) else none
set_option maxHeartbeats 4000000 in
set_option maxRecDepth 100000 in
theorem b_M_trill_118 {D : va_G} {ca : Nat → ClassId} {ad : Nat → Int → Nat → Nat} {L : List Nat} {aS vS : Nat → Nat} {A : Nat → Prop} {p : Program} {l : Launch} {e : Env} {s : State} {m : MethodId} {args : Array Value} {below : List Frame} {meth : Method} {c : Code} {K : Nat} {r : Int} {F9 : zF} {B9 : zB} (X : zX D ca L aS vS A p s m args meth c prog_15_method_119_code 13 (Option.none : Option Jvm.ClassFile.FieldType) "StaveHouseModel") {rec88 : Int → Int → Int → Int → Int → Int → Int → Int → Int → zF → zB → zO} (hrec88 : ∀ {l12 : Int} {l11 : Int} {l10 : Int} {l9 : Int} {l8 : Int} {l6 : Int} {l1 : Int} {l2 : Int} {l3 : Int} {F : zF} {B : zB} {H : Heap} {locs : List Loc} {ls : Array Slot}, rec88 l12 l11 l10 l9 l8 l6 l1 l2 l3 F B = some (r, F9, B9) → zH D ca ad lnM nM L F B A H → va_S A s.heap H locs → lv_has ls 13 [(12, .int (iI l12)), (11, .int (iI l11)), (10, .int (iI l10)), (9, .int (iI l9)), (8, .int (iI l8)), (6, .int (iI l6)), (0, .ref (ad 14 0 0)), (1, .ref (ad 13 l1 0)), (2, .int (iI l2)), (3, .int (iI l3))] → W p l e ({ frames := 4, cells := 0, slots := 0, locals := 107 } : Room) s m args below meth c H locs 0 0 (MQ below (Q_M_trill D ca ad L r F9 B9 A) args s 0 0 A) (F0 m 88 ls [])) {l12 : Int} {l11 : Int} {l10 : Int} {l9 : Int} {l8 : Int} {l6 : Int} {l1 : Int} {l2 : Int} {l3 : Int} {s1 : Int} {s2 : Int} {F : zF} {B : zB} {H : Heap} {locs : List Loc} {ls : Array Slot} (hf : f_M_trill_118 rec88 K l12 l11 l10 l9 l8 l6 l1 l2 l3 s1 s2 F B = some (r, F9, B9)) (hZ : zH D ca ad lnM nM L F B A H) (hS : va_S A s.heap H locs) (hl : lv_has ls 13 [(12, .int (iI l12)), (11, .int (iI l11)), (10, .int (iI l10)), (9, .int (iI l9)), (8, .int (iI l8)), (6, .int (iI l6)), (0, .ref (ad 14 0 0)), (1, .ref (ad 13 l1 0)), (2, .int (iI l2)), (3, .int (iI l3))]) : W p l e ({ frames := 4, cells := 0, slots := 0, locals := 107 } : Room) s m args below meth c H locs 0 0 (MQ below (Q_M_trill D ca ad L r F9 B9 A) args s 0 0 A) (F0 m 118 ls [.int (iI s2), .int (iI s1), .ref (ad 14 0 0)]) := by
  obtain ⟨hx, hb, hr, hml, hown, hts, hlk, hK, hA, hL, hX⟩ := id X
  replace hf : (if r32 l11 then (if l11 = 0 then f_M_trill_130 rec88 K l12 l11 l10 l9 l8 l6 l1 l2 l3 s1 s2 l9 F B else f_M_trill_130 rec88 K l12 l11 l10 l9 l8 l6 l1 l2 l3 s1 s2 l10 F B) else none) = some (r, F9, B9) := hf
  refine lv_iload hx hb d_15_119_118 (lv_at hl 1 rfl) ?_
  obtain ⟨g15, hf⟩ := gif hf
  refine z0eq (tgt := 128) hx hb g15 d_15_119_120 (by decide) (fun h16 => ?_) (fun h16 => ?_)
  · replace hf := gpos hf h16
    refine lv_iload hx hb d_15_119_128 (lv_at hl 3 rfl) ?_
    exact b_M_trill_130 X hrec88 hf hZ hS (lv_sub hl [0, 1, 2, 3, 4, 5, 6, 7, 8, 9] rfl)
  · replace hf := gneg hf h16
    refine lv_iload hx hb d_15_119_123 (lv_at hl 2 rfl) ?_
    refine lv_goto (tgt := 130) hx hb d_15_119_125 (by decide) ?_
    exact b_M_trill_130 X hrec88 hf hZ hS (lv_sub hl [0, 1, 2, 3, 4, 5, 6, 7, 8, 9] rfl)

def f_M_trill_88 (K : Nat) : Nat → Int → Int → Int → Int → Int → Int → Int → Int → Int → zF → zB → zO
  | 0, _, _, _, _, _, _, _, _, _, _, _ => none
  | n + 1, l12, l11, l10, l9, l8, l6, l1, l2, l3, F, B => if r32 l12 then if r32 l8 then (if l8 ≤ l12 then some (0, F, B) else if r32 (l12 + 12) then (if l8 ≤ (l12 + 12) then f_M_trill_118 (f_M_trill_88 K n) K l12 l11 l10 l9 l8 l6 l1 l2 l3 l12 l8 F B else f_M_trill_118 (f_M_trill_88 K n) K l12 l11 l10 l9 l8 l6 l1 l2 l3 l12 (l12 + 12) F B) else none) else none else none
set_option maxHeartbeats 4000000 in
set_option maxRecDepth 100000 in
theorem b_M_trill_88 {D : va_G} {ca : Nat → ClassId} {ad : Nat → Int → Nat → Nat} {L : List Nat} {aS vS : Nat → Nat} {A : Nat → Prop} {p : Program} {l : Launch} {e : Env} {s : State} {m : MethodId} {args : Array Value} {below : List Frame} {meth : Method} {c : Code} {K : Nat} {r : Int} {F9 : zF} {B9 : zB} (X : zX D ca L aS vS A p s m args meth c prog_15_method_119_code 13 (Option.none : Option Jvm.ClassFile.FieldType) "StaveHouseModel") : ∀ {n : Nat} {l12 : Int} {l11 : Int} {l10 : Int} {l9 : Int} {l8 : Int} {l6 : Int} {l1 : Int} {l2 : Int} {l3 : Int} {F : zF} {B : zB} {H : Heap} {locs : List Loc} {ls : Array Slot}, f_M_trill_88 K n l12 l11 l10 l9 l8 l6 l1 l2 l3 F B = some (r, F9, B9) → zH D ca ad lnM nM L F B A H → va_S A s.heap H locs → lv_has ls 13 [(12, .int (iI l12)), (11, .int (iI l11)), (10, .int (iI l10)), (9, .int (iI l9)), (8, .int (iI l8)), (6, .int (iI l6)), (0, .ref (ad 14 0 0)), (1, .ref (ad 13 l1 0)), (2, .int (iI l2)), (3, .int (iI l3))] → W p l e ({ frames := 4, cells := 0, slots := 0, locals := 107 } : Room) s m args below meth c H locs 0 0 (MQ below (Q_M_trill D ca ad L r F9 B9 A) args s 0 0 A) (F0 m 88 ls []) := by
  obtain ⟨hx, hb, hr, hml, hown, hts, hlk, hK, hA, hL, hX⟩ := id X
  intro n
  induction n with
  | zero =>
    intros
    rename_i hf _ _ _
    cases hf
  | succ n ih =>
    intro l12 l11 l10 l9 l8 l6 l1 l2 l3 F B H locs ls hf hZ hS hl
    replace hf : (if r32 l12 then if r32 l8 then (if l8 ≤ l12 then some (0, F, B) else if r32 (l12 + 12) then (if l8 ≤ (l12 + 12) then f_M_trill_118 (f_M_trill_88 K n) K l12 l11 l10 l9 l8 l6 l1 l2 l3 l12 l8 F B else f_M_trill_118 (f_M_trill_88 K n) K l12 l11 l10 l9 l8 l6 l1 l2 l3 l12 (l12 + 12) F B) else none) else none else none) = some (r, F9, B9) := hf
    refine lv_iload hx hb d_15_119_88 (lv_at hl 0 rfl) ?_
    refine lv_iload hx hb d_15_119_90 (lv_at hl 4 rfl) ?_
    obtain ⟨g10, hf⟩ := gif hf
    obtain ⟨g11, hf⟩ := gif hf
    refine zge (tgt := 160) hx hb g10 g11 d_15_119_92 (by decide) (fun h12 => ?_) (fun h12 => ?_)
    · replace hf := gpos hf h12
      cases hf
      exact W.vret hx hb hr (fun t ht hW => ⟨⟨(), rfl, trivial, by rw [ht]; exact hZ, va_K.moved hW.alike hK⟩, hS.F ht⟩) hS.2.2 d_15_119_160 hlk
    · replace hf := gneg hf h12
      refine lv_aload_n hx hb d_15_119_95 rfl (lv_at hl 6 rfl) ?_
      refine lv_iload hx hb d_15_119_96 (lv_at hl 0 rfl) ?_
      refine lv_iload hx hb d_15_119_98 (lv_at hl 0 rfl) ?_
      refine lv_bipush (v := iI 12) hx hb d_15_119_100 (by decide) ?_
      refine zadd hx hb d_15_119_102 ?_
      refine lv_iload hx hb d_15_119_103 (lv_at hl 4 rfl) ?_
      obtain ⟨g13, hf⟩ := gif hf
      refine zge (tgt := 116) hx hb g13 g11 d_15_119_105 (by decide) (fun h14 => ?_) (fun h14 => ?_)
      · replace hf := gpos hf h14
        refine lv_iload hx hb d_15_119_116 (lv_at hl 4 rfl) ?_
        exact b_M_trill_118 X ih hf hZ hS (lv_sub hl [0, 1, 2, 3, 4, 5, 6, 7, 8, 9] rfl)
      · replace hf := gneg hf h14
        refine lv_iload hx hb d_15_119_108 (lv_at hl 0 rfl) ?_
        refine lv_bipush (v := iI 12) hx hb d_15_119_110 (by decide) ?_
        refine zadd hx hb d_15_119_112 ?_
        refine lv_goto (tgt := 118) hx hb d_15_119_113 (by decide) ?_
        exact b_M_trill_118 X ih hf hZ hS (lv_sub hl [0, 1, 2, 3, 4, 5, 6, 7, 8, 9] rfl)

def f_M_trill_79 (K : Nat) (l9 : Int) (l8 : Int) (l7 : Int) (l6 : Int) (l1 : Int) (l2 : Int) (l3 : Int) (s0 : Int) (F : zF) (B : zB) : zO := f_M_trill_88 K K l7 0 s0 l9 l8 l6 l1 l2 l3 F B
set_option maxHeartbeats 4000000 in
set_option maxRecDepth 100000 in
theorem b_M_trill_79 {D : va_G} {ca : Nat → ClassId} {ad : Nat → Int → Nat → Nat} {L : List Nat} {aS vS : Nat → Nat} {A : Nat → Prop} {p : Program} {l : Launch} {e : Env} {s : State} {m : MethodId} {args : Array Value} {below : List Frame} {meth : Method} {c : Code} {K : Nat} {r : Int} {F9 : zF} {B9 : zB} (X : zX D ca L aS vS A p s m args meth c prog_15_method_119_code 13 (Option.none : Option Jvm.ClassFile.FieldType) "StaveHouseModel") {l9 : Int} {l8 : Int} {l7 : Int} {l6 : Int} {l1 : Int} {l2 : Int} {l3 : Int} {s0 : Int} {F : zF} {B : zB} {H : Heap} {locs : List Loc} {ls : Array Slot} (hf : f_M_trill_79 K l9 l8 l7 l6 l1 l2 l3 s0 F B = some (r, F9, B9)) (hZ : zH D ca ad lnM nM L F B A H) (hS : va_S A s.heap H locs) (hl : lv_has ls 13 [(9, .int (iI l9)), (8, .int (iI l8)), (7, .int (iI l7)), (6, .int (iI l6)), (0, .ref (ad 14 0 0)), (1, .ref (ad 13 l1 0)), (2, .int (iI l2)), (3, .int (iI l3))]) : W p l e ({ frames := 4, cells := 0, slots := 0, locals := 107 } : Room) s m args below meth c H locs 0 0 (MQ below (Q_M_trill D ca ad L r F9 B9 A) args s 0 0 A) (F0 m 79 ls [.int (iI s0)]) := by
  obtain ⟨hx, hb, hr, hml, hown, hts, hlk, hK, hA, hL, hX⟩ := id X
  replace hf : (f_M_trill_88 K K l7 0 s0 l9 l8 l6 l1 l2 l3 F B) = some (r, F9, B9) := hf
  refine lv_istore (lv' := [(10, .int (iI s0)), (9, .int (iI l9)), (8, .int (iI l8)), (7, .int (iI l7)), (6, .int (iI l6)), (0, .ref (ad 14 0 0)), (1, .ref (ad 13 l1 0)), (2, .int (iI l2)), (3, .int (iI l3))]) hx hb d_15_119_79 hl (by decide) rfl (fun ls hl => ?_)
  refine lv_iconst (v := iI 0) hx hb d_15_119_81 rfl ?_
  refine lv_istore (lv' := [(11, .int (iI 0)), (10, .int (iI s0)), (9, .int (iI l9)), (8, .int (iI l8)), (7, .int (iI l7)), (6, .int (iI l6)), (0, .ref (ad 14 0 0)), (1, .ref (ad 13 l1 0)), (2, .int (iI l2)), (3, .int (iI l3))]) hx hb d_15_119_82 hl (by decide) rfl (fun ls hl => ?_)
  refine lv_iload hx hb d_15_119_84 (lv_at hl 4 rfl) ?_
  refine lv_istore (lv' := [(12, .int (iI l7)), (11, .int (iI 0)), (10, .int (iI s0)), (9, .int (iI l9)), (8, .int (iI l8)), (7, .int (iI l7)), (6, .int (iI l6)), (0, .ref (ad 14 0 0)), (1, .ref (ad 13 l1 0)), (2, .int (iI l2)), (3, .int (iI l3))]) hx hb d_15_119_86 hl (by decide) rfl (fun ls hl => ?_)
  exact b_M_trill_88 X hf hZ hS (lv_sub hl [0, 1, 2, 3, 4, 6, 7, 8, 9, 10] rfl)

def f_M_trill (K : Nat) (l1 : Int) (l2 : Int) (l3 : Int) (l4 : Int) (l5 : Int) (F : zF) (B : zB) : zO := if 0 ≤ l1 ∧ l1 < 3 then if 0 ≤ ((1000 * l2) + l3) ∧ ((1000 * l2) + l3) < 4000 then zbind (f_M_tick K (B 13 l1 14 ((1000 * l2) + l3)) (B 13 l1 15 ((1000 * l2) + l3)) F B) (fun r3 F3 B3 => zbind (f_M_endTick K l1 ((1000 * l2) + l3) F3 B3) (fun r4 F4 B4 => zbind (f_M_tone K l4 l5 F4 B4) (fun r5 F5 B5 => if r32 l4 then (if l4 = 62 then f_M_trill_79 K r5 r4 r3 ((1000 * l2) + l3) l1 l2 l3 r5 F5 B5 else zbind (f_M_inKey K (F5 13 l1 2) (zrm (l4 + 1) 7) F5 B5) (fun r8 F8 B8 => zbind (f_M_tone K (l4 + 1) r8 F8 B8) (fun r9 F9 B9 => f_M_trill_79 K r5 r4 r3 ((1000 * l2) + l3) l1 l2 l3 r9 F9 B9))) else none))) else none else none
set_option maxHeartbeats 4000000 in
set_option maxRecDepth 100000 in
theorem c_M_trill {l : Launch} {D : va_G} {ca : Nat → ClassId} {ad : Nat → Int → Nat → Nat} {L : List Nat} {aS vS : Nat → Nat} {sz K : Nat} {l1 : Int} {l2 : Int} {l3 : Int} {l4 : Int} {l5 : Int} {F F9 : zF} {B B9 : zB} {r : Int} (hf : f_M_trill K l1 l2 l3 l4 l5 F B = some (r, F9, B9)) : Met l ({ cls := "StaveHouseModel", name := "trill", desc := "(LStaveHouseModel$Piece;IIII)V" } : Jvm.MethodName) (Cond.code ({ cls := "StaveHouseModel", name := "trill", desc := "(LStaveHouseModel$Piece;IIII)V" } : Jvm.MethodName) prog_15_method_119_code 13 (Option.none : Option Jvm.ClassFile.FieldType) :: wAll) ({ frames := 4, cells := 0, slots := 0, locals := 107 } : Room) (va_Pc [.ref (ad 14 0 0), .ref (ad 13 l1 0), .int (iI l2), .int (iI l3), .int (iI l4), .int (iI l5)] (zPre D ca ad lnM nM L aS vS F B sz)) (Q_M_trill D ca ad L r F9 B9 (zA L sz)) 0 0 (zA L sz) := by
  refine zMet (Qc := Q_M_trill D ca ad L r F9 B9) (lv := [(0, .ref (ad 14 0 0)), (1, .ref (ad 13 l1 0)), (2, .int (iI l2)), (3, .int (iI l3)), (4, .int (iI l4)), (5, .int (iI l5))]) (by decide) (Nat.le_of_ble_eq_true rfl) rfl (fun A p e s m below meth c ls X hZ hS hl => ?_)
  obtain ⟨hx, hb, hr, hml, hown, hts, hlk, hK, hA, hL, hX⟩ := id X
  replace hf : (if 0 ≤ l1 ∧ l1 < 3 then if 0 ≤ ((1000 * l2) + l3) ∧ ((1000 * l2) + l3) < 4000 then zbind (f_M_tick K (B 13 l1 14 ((1000 * l2) + l3)) (B 13 l1 15 ((1000 * l2) + l3)) F B) (fun r3 F3 B3 => zbind (f_M_endTick K l1 ((1000 * l2) + l3) F3 B3) (fun r4 F4 B4 => zbind (f_M_tone K l4 l5 F4 B4) (fun r5 F5 B5 => if r32 l4 then (if l4 = 62 then f_M_trill_79 K r5 r4 r3 ((1000 * l2) + l3) l1 l2 l3 r5 F5 B5 else zbind (f_M_inKey K (F5 13 l1 2) (zrm (l4 + 1) 7) F5 B5) (fun r8 F8 B8 => zbind (f_M_tone K (l4 + 1) r8 F8 B8) (fun r9 F9 B9 => f_M_trill_79 K r5 r4 r3 ((1000 * l2) + l3) l1 l2 l3 r9 F9 B9))) else none))) else none else none) = some (r, F9, B9) := hf
  refine lv_sipush (v := iI 1000) hx hb d_15_119_0 (by decide) ?_
  refine lv_iload_n hx hb d_15_119_3 rfl (lv_at hl 2 rfl) ?_
  refine zmul hx hb d_15_119_4 ?_
  refine lv_iload_n hx hb d_15_119_5 rfl (lv_at hl 3 rfl) ?_
  refine zadd hx hb d_15_119_6 ?_
  refine lv_istore (lv' := [(6, .int (iI ((1000 * l2) + l3))), (0, .ref (ad 14 0 0)), (1, .ref (ad 13 l1 0)), (2, .int (iI l2)), (3, .int (iI l3)), (4, .int (iI l4)), (5, .int (iI l5))]) hx hb d_15_119_7 hl (by decide) rfl (fun ls hl => ?_)
  refine lv_aload_n hx hb d_15_119_9 rfl (lv_at hl 2 rfl) ?_
  obtain ⟨g1, hf⟩ := gif hf
  refine zget (ci := 13) (C := RX13) (T := TX13) (v := .ref (ad 13 l1 (14 + 1))) (k := 14) hx hb hts inW_13 hown hK hZ g1.1 g1.2 rfl (by decide) k_9_146 rfl d_15_119_10 ?_
  refine lv_iload hx hb d_15_119_13 (lv_at hl 0 rfl) ?_
  obtain ⟨g2, hf⟩ := gif hf
  refine zlald (ci := 13) (k := 14) hx hb hK rfl hZ g1.1 g1.2 rfl (Nat.le_of_ble_eq_true rfl) g2.1 g2.2 d_15_119_15 ?_
  refine lv_aload_n hx hb d_15_119_16 rfl (lv_at hl 2 rfl) ?_
  refine zget (ci := 13) (C := RX13) (T := TX13) (v := .ref (ad 13 l1 (15 + 1))) (k := 15) hx hb hts inW_13 hown hK hZ g1.1 g1.2 rfl (by decide) k_9_148 rfl d_15_119_17 ?_
  refine lv_iload hx hb d_15_119_20 (lv_at hl 0 rfl) ?_
  refine zlald (ci := 13) (k := 15) hx hb hK rfl hZ g1.1 g1.2 rfl (Nat.le_of_ble_eq_true rfl) g2.1 g2.2 d_15_119_22 ?_
  obtain ⟨r3, F3, B3, hc3, hf⟩ := gbind hf
  refine va_calli (va_runS (As := [.long (lI (B 13 l1 14 ((1000 * l2) + l3))), .long (lI (B 13 l1 15 ((1000 * l2) + l3)))]) (rest := []) ⟨hx, hb, hml, hown, hts⟩ (c_M_tick (l := l) hc3) (va_cwS 2 hts (gdS k_12_139 k_12_140 k_1_9 k_12_141) rfl rfl rfl (by decide +kernel) ⟨Nat.le_of_ble_eq_true rfl, Nat.le_of_ble_eq_true rfl⟩) (zPS X hZ hS [.long (lI (B 13 l1 14 ((1000 * l2) + l3))), .long (lI (B 13 l1 15 ((1000 * l2) + l3)))]) rfl rfl hl.1 rfl (lv_room (Nat.le_of_ble_eq_true rfl)) d_15_119_23 ⟨Nat.le_of_ble_eq_true rfl, Nat.le_of_ble_eq_true rfl⟩) hS (fun q _ h => zAin X hS q h) (zAin X hS) (fun p3 u3 t3 H3 locs3 ht3 hv3 hw3 hB3 hz3 hk3 hS3 => ?_)
  have hZ3 := zBack X ht3 hB3
  subst hw3
  refine lv_istore (lv' := [(7, .int (iI r3)), (6, .int (iI ((1000 * l2) + l3))), (0, .ref (ad 14 0 0)), (1, .ref (ad 13 l1 0)), (2, .int (iI l2)), (3, .int (iI l3)), (4, .int (iI l4)), (5, .int (iI l5))]) hx hb d_15_119_26 hl (by decide) rfl (fun ls hl => ?_)
  refine lv_aload_n hx hb d_15_119_28 rfl (lv_at hl 2 rfl) ?_
  refine lv_aload_n hx hb d_15_119_29 rfl (lv_at hl 3 rfl) ?_
  refine lv_iload hx hb d_15_119_30 (lv_at hl 1 rfl) ?_
  obtain ⟨r4, F4, B4, hc4, hf⟩ := gbind hf
  refine va_calli (va_runV (As := [.ref (ad 13 l1 0), .int (iI ((1000 * l2) + l3))]) (rest := []) ⟨hx, hb, hml, hown, hts⟩ (c_M_endTick (l := l) hc4) (cwV 2 hts (gdV k_12_143 k_12_145 ks_134 k_1_9 k_12_146) rfl rfl rfl (by decide +kernel) ⟨Nat.le_of_ble_eq_true rfl, Nat.le_of_ble_eq_true rfl⟩) (zPV X hZ3 hS3 (ci := 14) (by decide) (by decide) (r := (RX14, TX14, 107)) rfl [.ref (ad 13 l1 0), .int (iI ((1000 * l2) + l3))]) rfl rfl hl.1 rfl (lv_room (Nat.le_of_ble_eq_true rfl)) d_15_119_32 ⟨Nat.le_of_ble_eq_true rfl, Nat.le_of_ble_eq_true rfl⟩) hS3 (fun q _ h => zAin X hS3 q h) (zAin X hS3) (fun p4 u4 t4 H4 locs4 ht4 hv4 hw4 hB4 hz4 hk4 hS4 => ?_)
  have hZ4 := zBack X ht4 hB4
  subst hw4
  refine lv_istore (lv' := [(8, .int (iI r4)), (7, .int (iI r3)), (6, .int (iI ((1000 * l2) + l3))), (0, .ref (ad 14 0 0)), (1, .ref (ad 13 l1 0)), (2, .int (iI l2)), (3, .int (iI l3)), (4, .int (iI l4)), (5, .int (iI l5))]) hx hb d_15_119_35 hl (by decide) rfl (fun ls hl => ?_)
  refine lv_iload hx hb d_15_119_37 (lv_at hl 7 rfl) ?_
  refine lv_iload hx hb d_15_119_39 (lv_at hl 8 rfl) ?_
  obtain ⟨r5, F5, B5, hc5, hf⟩ := gbind hf
  refine va_calli (va_runS (As := [.int (iI l4), .int (iI l5)]) (rest := []) ⟨hx, hb, hml, hown, hts⟩ (c_M_tone (l := l) hc5) (va_cwS 2 hts (gdS k_12_158 k_12_159 k_1_9 k_12_160) rfl rfl rfl (by decide +kernel) ⟨Nat.le_of_ble_eq_true rfl, Nat.le_of_ble_eq_true rfl⟩) (zPS X hZ4 hS4 [.int (iI l4), .int (iI l5)]) rfl rfl hl.1 rfl (lv_room (Nat.le_of_ble_eq_true rfl)) d_15_119_41 ⟨Nat.le_of_ble_eq_true rfl, Nat.le_of_ble_eq_true rfl⟩) hS4 (fun q _ h => zAin X hS4 q h) (zAin X hS4) (fun p5 u5 t5 H5 locs5 ht5 hv5 hw5 hB5 hz5 hk5 hS5 => ?_)
  have hZ5 := zBack X ht5 hB5
  subst hw5
  refine lv_istore (lv' := [(9, .int (iI r5)), (8, .int (iI r4)), (7, .int (iI r3)), (6, .int (iI ((1000 * l2) + l3))), (0, .ref (ad 14 0 0)), (1, .ref (ad 13 l1 0)), (2, .int (iI l2)), (3, .int (iI l3)), (4, .int (iI l4)), (5, .int (iI l5))]) hx hb d_15_119_44 hl (by decide) rfl (fun ls hl => ?_)
  refine lv_iload hx hb d_15_119_46 (lv_at hl 8 rfl) ?_
  refine lv_bipush (v := iI 62) hx hb d_15_119_48 (by decide) ?_
  obtain ⟨g6, hf⟩ := gif hf
  refine zne (tgt := 58) hx hb g6 (by decide) d_15_119_50 (by decide) (fun h7 => ?_) (fun h7 => ?_)
  · replace hf := gneg hf h7
    refine lv_iload hx hb d_15_119_58 (lv_at hl 8 rfl) ?_
    refine lv_iconst (v := iI 1) hx hb d_15_119_60 rfl ?_
    refine zadd hx hb d_15_119_61 ?_
    refine lv_aload_n hx hb d_15_119_62 rfl (lv_at hl 5 rfl) ?_
    refine zget (ci := 13) (C := RX13) (T := TX13) (v := .int (iI (F5 13 l1 2))) (k := 2) hx hb hts inW_13 hown hK hZ5 g1.1 g1.2 rfl (by decide) k_9_127 rfl d_15_119_63 ?_
    refine lv_iload hx hb d_15_119_66 (lv_at hl 8 rfl) ?_
    refine lv_iconst (v := iI 1) hx hb d_15_119_68 rfl ?_
    refine zadd hx hb d_15_119_69 ?_
    refine lv_bipush (v := iI 7) hx hb d_15_119_70 (by decide) ?_
    refine zrm_r hx hb (by decide) d_15_119_72 ?_
    obtain ⟨r8, F8, B8, hc8, hf⟩ := gbind hf
    refine va_calli (va_runS (As := [.int (iI (F5 13 l1 2)), .int (iI (zrm (l4 + 1) 7))]) (rest := [.int (iI (l4 + 1))]) ⟨hx, hb, hml, hown, hts⟩ (c_M_inKey (l := l) hc8) (va_cwS 2 hts (gdS k_12_161 k_12_162 k_1_9 k_12_163) rfl rfl rfl (by decide +kernel) ⟨Nat.le_of_ble_eq_true rfl, Nat.le_of_ble_eq_true rfl⟩) (zPS X hZ5 hS5 [.int (iI (F5 13 l1 2)), .int (iI (zrm (l4 + 1) 7))]) rfl rfl hl.1 rfl (lv_room (Nat.le_of_ble_eq_true rfl)) d_15_119_73 ⟨Nat.le_of_ble_eq_true rfl, Nat.le_of_ble_eq_true rfl⟩) hS5 (fun q _ h => zAin X hS5 q h) (zAin X hS5) (fun p8 u8 t8 H8 locs8 ht8 hv8 hw8 hB8 hz8 hk8 hS8 => ?_)
    have hZ8 := zBack X ht8 hB8
    subst hw8
    obtain ⟨r9, F9, B9, hc9, hf⟩ := gbind hf
    refine va_calli (va_runS (As := [.int (iI (l4 + 1)), .int (iI r8)]) (rest := []) ⟨hx, hb, hml, hown, hts⟩ (c_M_tone (l := l) hc9) (va_cwS 2 hts (gdS k_12_158 k_12_159 k_1_9 k_12_160) rfl rfl rfl (by decide +kernel) ⟨Nat.le_of_ble_eq_true rfl, Nat.le_of_ble_eq_true rfl⟩) (zPS X hZ8 hS8 [.int (iI (l4 + 1)), .int (iI r8)]) rfl rfl hl.1 rfl (lv_room (Nat.le_of_ble_eq_true rfl)) d_15_119_76 ⟨Nat.le_of_ble_eq_true rfl, Nat.le_of_ble_eq_true rfl⟩) hS8 (fun q _ h => zAin X hS8 q h) (zAin X hS8) (fun p9 u9 t9 H9 locs9 ht9 hv9 hw9 hB9 hz9 hk9 hS9 => ?_)
    have hZ9 := zBack X ht9 hB9
    subst hw9
    exact b_M_trill_79 X hf hZ9 hS9 (lv_sub hl [0, 1, 2, 3, 4, 5, 6, 7] rfl)
  · replace hf := gpos hf h7
    refine lv_iload hx hb d_15_119_53 (lv_at hl 0 rfl) ?_
    refine lv_goto (tgt := 79) hx hb d_15_119_55 (by decide) ?_
    exact b_M_trill_79 X hf hZ5 hS5 (lv_sub hl [0, 1, 2, 3, 4, 5, 6, 7] rfl)

abbrev Q_M_track0 (D : va_G) (ca : Nat → ClassId) (ad : Nat → Int → Nat → Nat) (L : List Nat) (r : Int) (F : zF) (B : zB) (A : Nat → Prop) : Array Value → State → Outcome → State → Prop := va_Qv (S := Unit) (fun _ => True) (fun _ => zPo D ca ad lnM nM L F B A) A
def f_M_track0_321 (K : Nat)  (F : zF) (B : zB) : zO := some (0, F, B)
set_option maxHeartbeats 4000000 in
set_option maxRecDepth 100000 in
theorem b_M_track0_321 {D : va_G} {ca : Nat → ClassId} {ad : Nat → Int → Nat → Nat} {L : List Nat} {aS vS : Nat → Nat} {A : Nat → Prop} {p : Program} {l : Launch} {e : Env} {s : State} {m : MethodId} {args : Array Value} {below : List Frame} {meth : Method} {c : Code} {K : Nat} {r : Int} {F9 : zF} {B9 : zB} (X : zX D ca L aS vS A p s m args meth c prog_15_method_145_code 11 (Option.none : Option Jvm.ClassFile.FieldType) "StaveHouseModel")  {F : zF} {B : zB} {H : Heap} {locs : List Loc} {ls : Array Slot} (hf : f_M_track0_321 K  F B = some (r, F9, B9)) (hZ : zH D ca ad lnM nM L F B A H) (hS : va_S A s.heap H locs) (hl : lv_has ls 11 []) : W p l e ({ frames := 4, cells := 0, slots := 0, locals := 92 } : Room) s m args below meth c H locs 0 0 (MQ below (Q_M_track0 D ca ad L r F9 B9 A) args s 0 0 A) (F0 m 321 ls []) := by
  obtain ⟨hx, hb, hr, hml, hown, hts, hlk, hK, hA, hL, hX⟩ := id X
  replace hf : (some (0, F, B)) = some (r, F9, B9) := hf
  cases hf
  exact W.vret hx hb hr (fun t ht hW => ⟨⟨(), rfl, trivial, by rw [ht]; exact hZ, va_K.moved hW.alike hK⟩, hS.F ht⟩) hS.2.2 d_15_145_321 hlk

def f_M_track0_299 (rec270 : Int → Int → Int → zF → zB → zO) (K : Nat) (l7 : Int) (l2 : Int) (l1 : Int) (F : zF) (B : zB) : zO := rec270 (l7 + 1) l2 l1 F B
set_option maxHeartbeats 4000000 in
set_option maxRecDepth 100000 in
theorem b_M_track0_299 {D : va_G} {ca : Nat → ClassId} {ad : Nat → Int → Nat → Nat} {L : List Nat} {aS vS : Nat → Nat} {A : Nat → Prop} {p : Program} {l : Launch} {e : Env} {s : State} {m : MethodId} {args : Array Value} {below : List Frame} {meth : Method} {c : Code} {K : Nat} {r : Int} {F9 : zF} {B9 : zB} (X : zX D ca L aS vS A p s m args meth c prog_15_method_145_code 11 (Option.none : Option Jvm.ClassFile.FieldType) "StaveHouseModel") {rec270 : Int → Int → Int → zF → zB → zO} (hrec270 : ∀ {l7 : Int} {l2 : Int} {l1 : Int} {F : zF} {B : zB} {H : Heap} {locs : List Loc} {ls : Array Slot}, rec270 l7 l2 l1 F B = some (r, F9, B9) → zH D ca ad lnM nM L F B A H → va_S A s.heap H locs → lv_has ls 11 [(7, .int (iI l7)), (2, .long (lI l2)), (0, .ref (ad 14 0 0)), (1, .int (iI l1))] → W p l e ({ frames := 4, cells := 0, slots := 0, locals := 92 } : Room) s m args below meth c H locs 0 0 (MQ below (Q_M_track0 D ca ad L r F9 B9 A) args s 0 0 A) (F0 m 270 ls [])) {l7 : Int} {l2 : Int} {l1 : Int} {F : zF} {B : zB} {H : Heap} {locs : List Loc} {ls : Array Slot} (hf : f_M_track0_299 rec270 K l7 l2 l1 F B = some (r, F9, B9)) (hZ : zH D ca ad lnM nM L F B A H) (hS : va_S A s.heap H locs) (hl : lv_has ls 11 [(7, .int (iI l7)), (2, .long (lI l2)), (0, .ref (ad 14 0 0)), (1, .int (iI l1))]) : W p l e ({ frames := 4, cells := 0, slots := 0, locals := 92 } : Room) s m args below meth c H locs 0 0 (MQ below (Q_M_track0 D ca ad L r F9 B9 A) args s 0 0 A) (F0 m 299 ls []) := by
  obtain ⟨hx, hb, hr, hml, hown, hts, hlk, hK, hA, hL, hX⟩ := id X
  replace hf : (rec270 (l7 + 1) l2 l1 F B) = some (r, F9, B9) := hf
  refine lv_iinc (v := iI (l7 + 1)) (lv' := [(7, .int (iI (l7 + 1))), (2, .long (lI l2)), (0, .ref (ad 14 0 0)), (1, .int (iI l1))]) hx hb d_15_145_299 hl (k := 0) rfl (iI_add _ 1) (by decide) rfl (fun ls hl => ?_)
  refine lv_goto (tgt := 270) hx hb d_15_145_302 (by decide) ?_
  exact hrec270 hf hZ hS (lv_sub hl [0, 1, 2, 3] rfl)

def f_M_track0_270 (K : Nat) : Nat → Int → Int → Int → zF → zB → zO
  | 0, _, _, _, _, _ => none
  | n + 1, l7, l2, l1, F, B => if r32 l7 then if r32 (F 14 0 94) then (if (F 14 0 94) ≤ l7 then if 0 ≤ l1 ∧ l1 < 8 then if r32 (B 14 0 88 l1) then (if 0 ≤ (B 14 0 88 l1) then f_M_track0_321 K F B else f_M_track0_321 K F (zup4 B 14 0 88 l1 0)) else none else none else if 0 ≤ l7 ∧ l7 < 400 then if r64 (B 14 0 87 l7) then (if 0 ≤ (zcmp (B 14 0 87 l7) 0) then f_M_track0_299 (f_M_track0_270 K n) K l7 l2 l1 F B else f_M_track0_299 (f_M_track0_270 K n) K l7 l2 l1 F (zup4 B 14 0 87 l7 l2)) else none else none) else none else none
set_option maxHeartbeats 4000000 in
set_option maxRecDepth 100000 in
theorem b_M_track0_270 {D : va_G} {ca : Nat → ClassId} {ad : Nat → Int → Nat → Nat} {L : List Nat} {aS vS : Nat → Nat} {A : Nat → Prop} {p : Program} {l : Launch} {e : Env} {s : State} {m : MethodId} {args : Array Value} {below : List Frame} {meth : Method} {c : Code} {K : Nat} {r : Int} {F9 : zF} {B9 : zB} (X : zX D ca L aS vS A p s m args meth c prog_15_method_145_code 11 (Option.none : Option Jvm.ClassFile.FieldType) "StaveHouseModel") : ∀ {n : Nat} {l7 : Int} {l2 : Int} {l1 : Int} {F : zF} {B : zB} {H : Heap} {locs : List Loc} {ls : Array Slot}, f_M_track0_270 K n l7 l2 l1 F B = some (r, F9, B9) → zH D ca ad lnM nM L F B A H → va_S A s.heap H locs → lv_has ls 11 [(7, .int (iI l7)), (2, .long (lI l2)), (0, .ref (ad 14 0 0)), (1, .int (iI l1))] → W p l e ({ frames := 4, cells := 0, slots := 0, locals := 92 } : Room) s m args below meth c H locs 0 0 (MQ below (Q_M_track0 D ca ad L r F9 B9 A) args s 0 0 A) (F0 m 270 ls []) := by
  obtain ⟨hx, hb, hr, hml, hown, hts, hlk, hK, hA, hL, hX⟩ := id X
  intro n
  induction n with
  | zero =>
    intros
    rename_i hf _ _ _
    cases hf
  | succ n ih =>
    intro l7 l2 l1 F B H locs ls hf hZ hS hl
    replace hf : (if r32 l7 then if r32 (F 14 0 94) then (if (F 14 0 94) ≤ l7 then if 0 ≤ l1 ∧ l1 < 8 then if r32 (B 14 0 88 l1) then (if 0 ≤ (B 14 0 88 l1) then f_M_track0_321 K F B else f_M_track0_321 K F (zup4 B 14 0 88 l1 0)) else none else none else if 0 ≤ l7 ∧ l7 < 400 then if r64 (B 14 0 87 l7) then (if 0 ≤ (zcmp (B 14 0 87 l7) 0) then f_M_track0_299 (f_M_track0_270 K n) K l7 l2 l1 F B else f_M_track0_299 (f_M_track0_270 K n) K l7 l2 l1 F (zup4 B 14 0 87 l7 l2)) else none else none) else none else none) = some (r, F9, B9) := hf
    refine lv_iload hx hb d_15_145_270 (lv_at hl 0 rfl) ?_
    refine lv_aload_n hx hb d_15_145_272 rfl (lv_at hl 2 rfl) ?_
    refine zget (ci := 14) (C := RX14) (T := TX14) (v := .int (iI (F 14 0 94))) (k := 94) hx hb hts inW_14 hown hK hZ (by decide) (by decide) rfl (by decide) k_11_92 rfl d_15_145_273 ?_
    obtain ⟨g27, hf⟩ := gif hf
    obtain ⟨g28, hf⟩ := gif hf
    refine zge (tgt := 305) hx hb g27 g28 d_15_145_276 (by decide) (fun h29 => ?_) (fun h29 => ?_)
    · replace hf := gpos hf h29
      refine lv_aload_n hx hb d_15_145_305 rfl (lv_at hl 2 rfl) ?_
      refine zget (ci := 14) (C := RX14) (T := TX14) (v := .ref (ad 14 0 (88 + 1))) (k := 88) hx hb hts inW_14 hown hK hZ (by decide) (by decide) rfl (by decide) k_11_86 rfl d_15_145_306 ?_
      refine lv_iload_n hx hb d_15_145_309 rfl (lv_at hl 3 rfl) ?_
      obtain ⟨g30, hf⟩ := gif hf
      refine zald (ci := 14) (k := 88) hx hb hK rfl hZ (by decide) (by decide) rfl (Nat.le_of_ble_eq_true rfl) g30.1 g30.2 d_15_145_310 ?_
      obtain ⟨g31, hf⟩ := gif hf
      refine z0ge (tgt := 321) hx hb g31 d_15_145_311 (by decide) (fun h32 => ?_) (fun h32 => ?_)
      · replace hf := gpos hf h32
        exact b_M_track0_321 X hf hZ hS (lv_sub hl [] rfl)
      · replace hf := gneg hf h32
        refine lv_aload_n hx hb d_15_145_314 rfl (lv_at hl 2 rfl) ?_
        refine zget (ci := 14) (C := RX14) (T := TX14) (v := .ref (ad 14 0 (88 + 1))) (k := 88) hx hb hts inW_14 hown hK hZ (by decide) (by decide) rfl (by decide) k_11_86 rfl d_15_145_315 ?_
        refine lv_iload_n hx hb d_15_145_318 rfl (lv_at hl 3 rfl) ?_
        refine lv_iconst (v := iI 0) hx hb d_15_145_319 rfl ?_
        refine zast (ci := 14) (k := 88) hx hb hK rfl hZ hS (by decide) (by decide) rfl (Nat.le_of_ble_eq_true rfl) g30.1 g30.2 d_15_145_320 (fun H33 locs33 hZ33 hS33 => ?_)
        exact b_M_track0_321 X hf hZ33 hS33 (lv_sub hl [] rfl)
    · replace hf := gneg hf h29
      refine lv_aload_n hx hb d_15_145_279 rfl (lv_at hl 2 rfl) ?_
      refine zget (ci := 14) (C := RX14) (T := TX14) (v := .ref (ad 14 0 (87 + 1))) (k := 87) hx hb hts inW_14 hown hK hZ (by decide) (by decide) rfl (by decide) k_11_85 rfl d_15_145_280 ?_
      refine lv_iload hx hb d_15_145_283 (lv_at hl 0 rfl) ?_
      obtain ⟨g34, hf⟩ := gif hf
      refine zlald (ci := 14) (k := 87) hx hb hK rfl hZ (by decide) (by decide) rfl (Nat.le_of_ble_eq_true rfl) g34.1 g34.2 d_15_145_285 ?_
      refine lv_lconst (v := lI 0) hx hb d_15_145_286 (by decide) ?_
      obtain ⟨g35, hf⟩ := gif hf
      refine zcmp_r hx hb g35 (by decide) d_15_145_287 ?_
      refine z0ge (tgt := 299) hx hb zcmp_32 d_15_145_288 (by decide) (fun h36 => ?_) (fun h36 => ?_)
      · replace hf := gpos hf h36
        exact b_M_track0_299 X ih hf hZ hS (lv_sub hl [0, 1, 2, 3] rfl)
      · replace hf := gneg hf h36
        refine lv_aload_n hx hb d_15_145_291 rfl (lv_at hl 2 rfl) ?_
        refine zget (ci := 14) (C := RX14) (T := TX14) (v := .ref (ad 14 0 (87 + 1))) (k := 87) hx hb hts inW_14 hown hK hZ (by decide) (by decide) rfl (by decide) k_11_85 rfl d_15_145_292 ?_
        refine lv_iload hx hb d_15_145_295 (lv_at hl 0 rfl) ?_
        refine lv_lload_n hx hb d_15_145_297 rfl (lv_at hl 1 rfl) ?_
        refine zlast (ci := 14) (k := 87) hx hb hK rfl hZ hS (by decide) (by decide) rfl (Nat.le_of_ble_eq_true rfl) g34.1 g34.2 d_15_145_298 (fun H37 locs37 hZ37 hS37 => ?_)
        exact b_M_track0_299 X ih hf hZ37 hS37 (lv_sub hl [0, 1, 2, 3] rfl)

def f_M_track0_266 (K : Nat) (l6 : Int) (l2 : Int) (l1 : Int) (F : zF) (B : zB) : zO := f_M_track0_270 K K l6 l2 l1 F B
set_option maxHeartbeats 4000000 in
set_option maxRecDepth 100000 in
theorem b_M_track0_266 {D : va_G} {ca : Nat → ClassId} {ad : Nat → Int → Nat → Nat} {L : List Nat} {aS vS : Nat → Nat} {A : Nat → Prop} {p : Program} {l : Launch} {e : Env} {s : State} {m : MethodId} {args : Array Value} {below : List Frame} {meth : Method} {c : Code} {K : Nat} {r : Int} {F9 : zF} {B9 : zB} (X : zX D ca L aS vS A p s m args meth c prog_15_method_145_code 11 (Option.none : Option Jvm.ClassFile.FieldType) "StaveHouseModel") {l6 : Int} {l2 : Int} {l1 : Int} {F : zF} {B : zB} {H : Heap} {locs : List Loc} {ls : Array Slot} (hf : f_M_track0_266 K l6 l2 l1 F B = some (r, F9, B9)) (hZ : zH D ca ad lnM nM L F B A H) (hS : va_S A s.heap H locs) (hl : lv_has ls 11 [(6, .int (iI l6)), (2, .long (lI l2)), (0, .ref (ad 14 0 0)), (1, .int (iI l1))]) : W p l e ({ frames := 4, cells := 0, slots := 0, locals := 92 } : Room) s m args below meth c H locs 0 0 (MQ below (Q_M_track0 D ca ad L r F9 B9 A) args s 0 0 A) (F0 m 266 ls []) := by
  obtain ⟨hx, hb, hr, hml, hown, hts, hlk, hK, hA, hL, hX⟩ := id X
  replace hf : (f_M_track0_270 K K l6 l2 l1 F B) = some (r, F9, B9) := hf
  refine lv_iload hx hb d_15_145_266 (lv_at hl 0 rfl) ?_
  refine lv_istore (lv' := [(7, .int (iI l6)), (6, .int (iI l6)), (2, .long (lI l2)), (0, .ref (ad 14 0 0)), (1, .int (iI l1))]) hx hb d_15_145_268 hl (by decide) rfl (fun ls hl => ?_)
  exact b_M_track0_270 X hf hZ hS (lv_sub hl [0, 2, 3, 4] rfl)

def f_M_track0_263 (rec21 : Int → Int → Int → Int → Int → zF → zB → zO) (K : Nat) (l4 : Int) (l5 : Int) (l2 : Int) (l6 : Int) (l1 : Int) (F : zF) (B : zB) : zO := rec21 l6 l5 l4 l2 l1 F B
set_option maxHeartbeats 4000000 in
set_option maxRecDepth 100000 in
theorem b_M_track0_263 {D : va_G} {ca : Nat → ClassId} {ad : Nat → Int → Nat → Nat} {L : List Nat} {aS vS : Nat → Nat} {A : Nat → Prop} {p : Program} {l : Launch} {e : Env} {s : State} {m : MethodId} {args : Array Value} {below : List Frame} {meth : Method} {c : Code} {K : Nat} {r : Int} {F9 : zF} {B9 : zB} (X : zX D ca L aS vS A p s m args meth c prog_15_method_145_code 11 (Option.none : Option Jvm.ClassFile.FieldType) "StaveHouseModel") {rec21 : Int → Int → Int → Int → Int → zF → zB → zO} (hrec21 : ∀ {l6 : Int} {l5 : Int} {l4 : Int} {l2 : Int} {l1 : Int} {F : zF} {B : zB} {H : Heap} {locs : List Loc} {ls : Array Slot}, rec21 l6 l5 l4 l2 l1 F B = some (r, F9, B9) → zH D ca ad lnM nM L F B A H → va_S A s.heap H locs → lv_has ls 11 [(6, .int (iI l6)), (5, .int (iI l5)), (4, .int (iI l4)), (2, .long (lI l2)), (0, .ref (ad 14 0 0)), (1, .int (iI l1))] → W p l e ({ frames := 4, cells := 0, slots := 0, locals := 92 } : Room) s m args below meth c H locs 0 0 (MQ below (Q_M_track0 D ca ad L r F9 B9 A) args s 0 0 A) (F0 m 21 ls [])) {l4 : Int} {l5 : Int} {l2 : Int} {l6 : Int} {l1 : Int} {F : zF} {B : zB} {H : Heap} {locs : List Loc} {ls : Array Slot} (hf : f_M_track0_263 rec21 K l4 l5 l2 l6 l1 F B = some (r, F9, B9)) (hZ : zH D ca ad lnM nM L F B A H) (hS : va_S A s.heap H locs) (hl : lv_has ls 11 [(4, .int (iI l4)), (5, .int (iI l5)), (2, .long (lI l2)), (6, .int (iI l6)), (0, .ref (ad 14 0 0)), (1, .int (iI l1))]) : W p l e ({ frames := 4, cells := 0, slots := 0, locals := 92 } : Room) s m args below meth c H locs 0 0 (MQ below (Q_M_track0 D ca ad L r F9 B9 A) args s 0 0 A) (F0 m 263 ls []) := by
  obtain ⟨hx, hb, hr, hml, hown, hts, hlk, hK, hA, hL, hX⟩ := id X
  replace hf : (rec21 l6 l5 l4 l2 l1 F B) = some (r, F9, B9) := hf
  refine lv_goto (tgt := 21) hx hb d_15_145_263 (by decide) ?_
  exact hrec21 hf hZ hS (lv_sub hl [3, 1, 0, 2, 4, 5] rfl)

def f_M_track0_238 (rec21 : Int → Int → Int → Int → Int → zF → zB → zO) (K : Nat) (l9 : Int) (l7 : Int) (l2 : Int) (l6 : Int) (l5 : Int) (l4 : Int) (l1 : Int) (s0 : Int) (F : zF) (B : zB) : zO := zbind (f_M_good K F B) (fun r55 F55 B55 => if r32 r55 then (if r55 = 0 then f_M_track0_263 rec21 K l4 l5 l2 l6 l1 F55 B55 else zbind (f_M_event_2 K l1 l6 l4 l9 s0 l2 l7 F55 B55) (fun r58 F58 B58 => f_M_track0_263 rec21 K l4 l5 l2 l6 l1 F58 B58)) else none)
set_option maxHeartbeats 4000000 in
set_option maxRecDepth 100000 in
theorem b_M_track0_238 {D : va_G} {ca : Nat → ClassId} {ad : Nat → Int → Nat → Nat} {L : List Nat} {aS vS : Nat → Nat} {A : Nat → Prop} {p : Program} {l : Launch} {e : Env} {s : State} {m : MethodId} {args : Array Value} {below : List Frame} {meth : Method} {c : Code} {K : Nat} {r : Int} {F9 : zF} {B9 : zB} (X : zX D ca L aS vS A p s m args meth c prog_15_method_145_code 11 (Option.none : Option Jvm.ClassFile.FieldType) "StaveHouseModel") {rec21 : Int → Int → Int → Int → Int → zF → zB → zO} (hrec21 : ∀ {l6 : Int} {l5 : Int} {l4 : Int} {l2 : Int} {l1 : Int} {F : zF} {B : zB} {H : Heap} {locs : List Loc} {ls : Array Slot}, rec21 l6 l5 l4 l2 l1 F B = some (r, F9, B9) → zH D ca ad lnM nM L F B A H → va_S A s.heap H locs → lv_has ls 11 [(6, .int (iI l6)), (5, .int (iI l5)), (4, .int (iI l4)), (2, .long (lI l2)), (0, .ref (ad 14 0 0)), (1, .int (iI l1))] → W p l e ({ frames := 4, cells := 0, slots := 0, locals := 92 } : Room) s m args below meth c H locs 0 0 (MQ below (Q_M_track0 D ca ad L r F9 B9 A) args s 0 0 A) (F0 m 21 ls [])) {l9 : Int} {l7 : Int} {l2 : Int} {l6 : Int} {l5 : Int} {l4 : Int} {l1 : Int} {s0 : Int} {F : zF} {B : zB} {H : Heap} {locs : List Loc} {ls : Array Slot} (hf : f_M_track0_238 rec21 K l9 l7 l2 l6 l5 l4 l1 s0 F B = some (r, F9, B9)) (hZ : zH D ca ad lnM nM L F B A H) (hS : va_S A s.heap H locs) (hl : lv_has ls 11 [(9, .int (iI l9)), (7, .int (iI l7)), (2, .long (lI l2)), (6, .int (iI l6)), (5, .int (iI l5)), (4, .int (iI l4)), (0, .ref (ad 14 0 0)), (1, .int (iI l1))]) : W p l e ({ frames := 4, cells := 0, slots := 0, locals := 92 } : Room) s m args below meth c H locs 0 0 (MQ below (Q_M_track0 D ca ad L r F9 B9 A) args s 0 0 A) (F0 m 238 ls [.int (iI s0)]) := by
  obtain ⟨hx, hb, hr, hml, hown, hts, hlk, hK, hA, hL, hX⟩ := id X
  replace hf : (zbind (f_M_good K F B) (fun r55 F55 B55 => if r32 r55 then (if r55 = 0 then f_M_track0_263 rec21 K l4 l5 l2 l6 l1 F55 B55 else zbind (f_M_event_2 K l1 l6 l4 l9 s0 l2 l7 F55 B55) (fun r58 F58 B58 => f_M_track0_263 rec21 K l4 l5 l2 l6 l1 F58 B58)) else none)) = some (r, F9, B9) := hf
  refine lv_istore (lv' := [(10, .int (iI s0)), (9, .int (iI l9)), (7, .int (iI l7)), (2, .long (lI l2)), (6, .int (iI l6)), (5, .int (iI l5)), (4, .int (iI l4)), (0, .ref (ad 14 0 0)), (1, .int (iI l1))]) hx hb d_15_145_238 hl (by decide) rfl (fun ls hl => ?_)
  refine lv_aload_n hx hb d_15_145_240 rfl (lv_at hl 7 rfl) ?_
  obtain ⟨r55, F55, B55, hc55, hf⟩ := gbind hf
  refine va_calli (va_runV (As := []) (rest := []) ⟨hx, hb, hml, hown, hts⟩ (c_M_good (l := l) hc55) (cwV 0 hts (gdV k_13_15 k_13_17 ks_152 k_1_9 k_13_18) rfl rfl rfl (by decide +kernel) ⟨Nat.le_of_ble_eq_true rfl, Nat.le_of_ble_eq_true rfl⟩) (zPV X hZ hS (ci := 14) (by decide) (by decide) (r := (RX14, TX14, 107)) rfl []) rfl rfl hl.1 rfl (lv_room (Nat.le_of_ble_eq_true rfl)) d_15_145_241 ⟨Nat.le_of_ble_eq_true rfl, Nat.le_of_ble_eq_true rfl⟩) hS (fun q _ h => zAin X hS q h) (zAin X hS) (fun p55 u55 t55 H55 locs55 ht55 hv55 hw55 hB55 hz55 hk55 hS55 => ?_)
  have hZ55 := zBack X ht55 hB55
  subst hw55
  obtain ⟨g56, hf⟩ := gif hf
  refine z0eq (tgt := 263) hx hb g56 d_15_145_244 (by decide) (fun h57 => ?_) (fun h57 => ?_)
  · replace hf := gpos hf h57
    exact b_M_track0_263 X hrec21 hf hZ55 hS55 (lv_sub hl [6, 5, 3, 4, 7, 8] rfl)
  · replace hf := gneg hf h57
    refine lv_aload_n hx hb d_15_145_247 rfl (lv_at hl 7 rfl) ?_
    refine lv_iload_n hx hb d_15_145_248 rfl (lv_at hl 8 rfl) ?_
    refine lv_iload hx hb d_15_145_249 (lv_at hl 4 rfl) ?_
    refine lv_iload hx hb d_15_145_251 (lv_at hl 6 rfl) ?_
    refine lv_iload hx hb d_15_145_253 (lv_at hl 1 rfl) ?_
    refine lv_iload hx hb d_15_145_255 (lv_at hl 0 rfl) ?_
    refine lv_lload_n hx hb d_15_145_257 rfl (lv_at hl 3 rfl) ?_
    refine lv_iload hx hb d_15_145_258 (lv_at hl 2 rfl) ?_
    obtain ⟨r58, F58, B58, hc58, hf⟩ := gbind hf
    refine va_callv (va_runV (As := [.int (iI l1), .int (iI l6), .int (iI l4), .int (iI l9), .int (iI s0), .long (lI l2), .int (iI l7)]) (rest := []) ⟨hx, hb, hml, hown, hts⟩ (c_M_event_2 (l := l) hc58) (cwV 7 hts (gdV k_13_56 k_13_58 ks_162 k_1_9 k_13_59) rfl rfl rfl (by decide +kernel) ⟨Nat.le_of_ble_eq_true rfl, Nat.le_of_ble_eq_true rfl⟩) (zPV X hZ55 hS55 (ci := 14) (by decide) (by decide) (r := (RX14, TX14, 107)) rfl [.int (iI l1), .int (iI l6), .int (iI l4), .int (iI l9), .int (iI s0), .long (lI l2), .int (iI l7)]) rfl rfl hl.1 rfl (lv_room (Nat.le_of_ble_eq_true rfl)) d_15_145_260 ⟨Nat.le_of_ble_eq_true rfl, Nat.le_of_ble_eq_true rfl⟩) hS55 (fun q _ h => zAin X hS55 q h) (zAin X hS55) (fun u58 t58 H58 locs58 ht58 hv58 hw58 hB58 hz58 hk58 hS58 => ?_)
    have hZ58 := zBack X ht58 hB58
    exact b_M_track0_263 X hrec21 hf hZ58 hS58 (lv_sub hl [6, 5, 3, 4, 7, 8] rfl)

def f_M_track0_234 (rec21 : Int → Int → Int → Int → Int → zF → zB → zO) (K : Nat) (l9 : Int) (l7 : Int) (l2 : Int) (l6 : Int) (l5 : Int) (l4 : Int) (l1 : Int) (F : zF) (B : zB) : zO := zbind (f_M_below K F B) (fun r59 F59 B59 => f_M_track0_238 rec21 K l9 l7 l2 l6 l5 l4 l1 r59 F59 B59)
set_option maxHeartbeats 4000000 in
set_option maxRecDepth 100000 in
theorem b_M_track0_234 {D : va_G} {ca : Nat → ClassId} {ad : Nat → Int → Nat → Nat} {L : List Nat} {aS vS : Nat → Nat} {A : Nat → Prop} {p : Program} {l : Launch} {e : Env} {s : State} {m : MethodId} {args : Array Value} {below : List Frame} {meth : Method} {c : Code} {K : Nat} {r : Int} {F9 : zF} {B9 : zB} (X : zX D ca L aS vS A p s m args meth c prog_15_method_145_code 11 (Option.none : Option Jvm.ClassFile.FieldType) "StaveHouseModel") {rec21 : Int → Int → Int → Int → Int → zF → zB → zO} (hrec21 : ∀ {l6 : Int} {l5 : Int} {l4 : Int} {l2 : Int} {l1 : Int} {F : zF} {B : zB} {H : Heap} {locs : List Loc} {ls : Array Slot}, rec21 l6 l5 l4 l2 l1 F B = some (r, F9, B9) → zH D ca ad lnM nM L F B A H → va_S A s.heap H locs → lv_has ls 11 [(6, .int (iI l6)), (5, .int (iI l5)), (4, .int (iI l4)), (2, .long (lI l2)), (0, .ref (ad 14 0 0)), (1, .int (iI l1))] → W p l e ({ frames := 4, cells := 0, slots := 0, locals := 92 } : Room) s m args below meth c H locs 0 0 (MQ below (Q_M_track0 D ca ad L r F9 B9 A) args s 0 0 A) (F0 m 21 ls [])) {l9 : Int} {l7 : Int} {l2 : Int} {l6 : Int} {l5 : Int} {l4 : Int} {l1 : Int} {F : zF} {B : zB} {H : Heap} {locs : List Loc} {ls : Array Slot} (hf : f_M_track0_234 rec21 K l9 l7 l2 l6 l5 l4 l1 F B = some (r, F9, B9)) (hZ : zH D ca ad lnM nM L F B A H) (hS : va_S A s.heap H locs) (hl : lv_has ls 11 [(9, .int (iI l9)), (7, .int (iI l7)), (2, .long (lI l2)), (6, .int (iI l6)), (5, .int (iI l5)), (4, .int (iI l4)), (0, .ref (ad 14 0 0)), (1, .int (iI l1))]) : W p l e ({ frames := 4, cells := 0, slots := 0, locals := 92 } : Room) s m args below meth c H locs 0 0 (MQ below (Q_M_track0 D ca ad L r F9 B9 A) args s 0 0 A) (F0 m 234 ls []) := by
  obtain ⟨hx, hb, hr, hml, hown, hts, hlk, hK, hA, hL, hX⟩ := id X
  replace hf : (zbind (f_M_below K F B) (fun r59 F59 B59 => f_M_track0_238 rec21 K l9 l7 l2 l6 l5 l4 l1 r59 F59 B59)) = some (r, F9, B9) := hf
  refine lv_aload_n hx hb d_15_145_234 rfl (lv_at hl 6 rfl) ?_
  obtain ⟨r59, F59, B59, hc59, hf⟩ := gbind hf
  refine va_calli (va_runV (As := []) (rest := []) ⟨hx, hb, hml, hown, hts⟩ (c_M_below (l := l) hc59) (cwV 0 hts (gdV k_13_52 k_13_54 ks_161 k_1_9 k_13_55) rfl rfl rfl (by decide +kernel) ⟨Nat.le_of_ble_eq_true rfl, Nat.le_of_ble_eq_true rfl⟩) (zPV X hZ hS (ci := 14) (by decide) (by decide) (r := (RX14, TX14, 107)) rfl []) rfl rfl hl.1 rfl (lv_room (Nat.le_of_ble_eq_true rfl)) d_15_145_235 ⟨Nat.le_of_ble_eq_true rfl, Nat.le_of_ble_eq_true rfl⟩) hS (fun q _ h => zAin X hS q h) (zAin X hS) (fun p59 u59 t59 H59 locs59 ht59 hv59 hw59 hB59 hz59 hk59 hS59 => ?_)
  have hZ59 := zBack X ht59 hB59
  subst hw59
  exact b_M_track0_238 X hrec21 hf hZ59 hS59 (lv_sub hl [0, 1, 2, 3, 4, 5, 6, 7] rfl)

def f_M_track0_212 (rec21 : Int → Int → Int → Int → Int → zF → zB → zO) (K : Nat) (l7 : Int) (l2 : Int) (l6 : Int) (l5 : Int) (l4 : Int) (l1 : Int) (s0 : Int) (F : zF) (B : zB) : zO := if r32 l4 then (if l4 < 192 then f_M_track0_234 rec21 K s0 l7 l2 l6 l5 l4 l1 F B else (if 224 ≤ l4 then f_M_track0_234 rec21 K s0 l7 l2 l6 l5 l4 l1 F B else f_M_track0_238 rec21 K s0 l7 l2 l6 l5 l4 l1 0 F B)) else none
set_option maxHeartbeats 4000000 in
set_option maxRecDepth 100000 in
theorem b_M_track0_212 {D : va_G} {ca : Nat → ClassId} {ad : Nat → Int → Nat → Nat} {L : List Nat} {aS vS : Nat → Nat} {A : Nat → Prop} {p : Program} {l : Launch} {e : Env} {s : State} {m : MethodId} {args : Array Value} {below : List Frame} {meth : Method} {c : Code} {K : Nat} {r : Int} {F9 : zF} {B9 : zB} (X : zX D ca L aS vS A p s m args meth c prog_15_method_145_code 11 (Option.none : Option Jvm.ClassFile.FieldType) "StaveHouseModel") {rec21 : Int → Int → Int → Int → Int → zF → zB → zO} (hrec21 : ∀ {l6 : Int} {l5 : Int} {l4 : Int} {l2 : Int} {l1 : Int} {F : zF} {B : zB} {H : Heap} {locs : List Loc} {ls : Array Slot}, rec21 l6 l5 l4 l2 l1 F B = some (r, F9, B9) → zH D ca ad lnM nM L F B A H → va_S A s.heap H locs → lv_has ls 11 [(6, .int (iI l6)), (5, .int (iI l5)), (4, .int (iI l4)), (2, .long (lI l2)), (0, .ref (ad 14 0 0)), (1, .int (iI l1))] → W p l e ({ frames := 4, cells := 0, slots := 0, locals := 92 } : Room) s m args below meth c H locs 0 0 (MQ below (Q_M_track0 D ca ad L r F9 B9 A) args s 0 0 A) (F0 m 21 ls [])) {l7 : Int} {l2 : Int} {l6 : Int} {l5 : Int} {l4 : Int} {l1 : Int} {s0 : Int} {F : zF} {B : zB} {H : Heap} {locs : List Loc} {ls : Array Slot} (hf : f_M_track0_212 rec21 K l7 l2 l6 l5 l4 l1 s0 F B = some (r, F9, B9)) (hZ : zH D ca ad lnM nM L F B A H) (hS : va_S A s.heap H locs) (hl : lv_has ls 11 [(7, .int (iI l7)), (2, .long (lI l2)), (6, .int (iI l6)), (5, .int (iI l5)), (4, .int (iI l4)), (0, .ref (ad 14 0 0)), (1, .int (iI l1))]) : W p l e ({ frames := 4, cells := 0, slots := 0, locals := 92 } : Room) s m args below meth c H locs 0 0 (MQ below (Q_M_track0 D ca ad L r F9 B9 A) args s 0 0 A) (F0 m 212 ls [.int (iI s0)]) := by
  obtain ⟨hx, hb, hr, hml, hown, hts, hlk, hK, hA, hL, hX⟩ := id X
  replace hf : (if r32 l4 then (if l4 < 192 then f_M_track0_234 rec21 K s0 l7 l2 l6 l5 l4 l1 F B else (if 224 ≤ l4 then f_M_track0_234 rec21 K s0 l7 l2 l6 l5 l4 l1 F B else f_M_track0_238 rec21 K s0 l7 l2 l6 l5 l4 l1 0 F B)) else none) = some (r, F9, B9) := hf
  refine lv_istore (lv' := [(9, .int (iI s0)), (7, .int (iI l7)), (2, .long (lI l2)), (6, .int (iI l6)), (5, .int (iI l5)), (4, .int (iI l4)), (0, .ref (ad 14 0 0)), (1, .int (iI l1))]) hx hb d_15_145_212 hl (by decide) rfl (fun ls hl => ?_)
  refine lv_iload hx hb d_15_145_214 (lv_at hl 5 rfl) ?_
  refine lv_sipush (v := iI 192) hx hb d_15_145_216 (by decide) ?_
  obtain ⟨g52, hf⟩ := gif hf
  refine zlt (tgt := 234) hx hb g52 (by decide) d_15_145_219 (by decide) (fun h53 => ?_) (fun h53 => ?_)
  · replace hf := gpos hf h53
    exact b_M_track0_234 X hrec21 hf hZ hS (lv_sub hl [0, 1, 2, 3, 4, 5, 6, 7] rfl)
  · replace hf := gneg hf h53
    refine lv_iload hx hb d_15_145_222 (lv_at hl 5 rfl) ?_
    refine lv_sipush (v := iI 224) hx hb d_15_145_224 (by decide) ?_
    refine zge (tgt := 234) hx hb g52 (by decide) d_15_145_227 (by decide) (fun h54 => ?_) (fun h54 => ?_)
    · replace hf := gpos hf h54
      exact b_M_track0_234 X hrec21 hf hZ hS (lv_sub hl [0, 1, 2, 3, 4, 5, 6, 7] rfl)
    · replace hf := gneg hf h54
      refine lv_iconst (v := iI 0) hx hb d_15_145_230 rfl ?_
      refine lv_goto (tgt := 238) hx hb d_15_145_231 (by decide) ?_
      exact b_M_track0_238 X hrec21 hf hZ hS (lv_sub hl [0, 1, 2, 3, 4, 5, 6, 7] rfl)

def f_M_track0_195 (rec21 : Int → Int → Int → Int → Int → zF → zB → zO) (K : Nat) (l8 : Int) (l7 : Int) (l2 : Int) (l6 : Int) (l5 : Int) (l4 : Int) (l1 : Int) (F : zF) (B : zB) : zO := if r32 l8 then (if 128 ≤ l8 then zbind (f_M_below K F B) (fun r51 F51 B51 => f_M_track0_212 rec21 K l7 l2 l6 l5 l4 l1 r51 F51 B51) else f_M_track0_212 rec21 K l7 l2 l6 l5 l4 l1 l8 F B) else none
set_option maxHeartbeats 4000000 in
set_option maxRecDepth 100000 in
theorem b_M_track0_195 {D : va_G} {ca : Nat → ClassId} {ad : Nat → Int → Nat → Nat} {L : List Nat} {aS vS : Nat → Nat} {A : Nat → Prop} {p : Program} {l : Launch} {e : Env} {s : State} {m : MethodId} {args : Array Value} {below : List Frame} {meth : Method} {c : Code} {K : Nat} {r : Int} {F9 : zF} {B9 : zB} (X : zX D ca L aS vS A p s m args meth c prog_15_method_145_code 11 (Option.none : Option Jvm.ClassFile.FieldType) "StaveHouseModel") {rec21 : Int → Int → Int → Int → Int → zF → zB → zO} (hrec21 : ∀ {l6 : Int} {l5 : Int} {l4 : Int} {l2 : Int} {l1 : Int} {F : zF} {B : zB} {H : Heap} {locs : List Loc} {ls : Array Slot}, rec21 l6 l5 l4 l2 l1 F B = some (r, F9, B9) → zH D ca ad lnM nM L F B A H → va_S A s.heap H locs → lv_has ls 11 [(6, .int (iI l6)), (5, .int (iI l5)), (4, .int (iI l4)), (2, .long (lI l2)), (0, .ref (ad 14 0 0)), (1, .int (iI l1))] → W p l e ({ frames := 4, cells := 0, slots := 0, locals := 92 } : Room) s m args below meth c H locs 0 0 (MQ below (Q_M_track0 D ca ad L r F9 B9 A) args s 0 0 A) (F0 m 21 ls [])) {l8 : Int} {l7 : Int} {l2 : Int} {l6 : Int} {l5 : Int} {l4 : Int} {l1 : Int} {F : zF} {B : zB} {H : Heap} {locs : List Loc} {ls : Array Slot} (hf : f_M_track0_195 rec21 K l8 l7 l2 l6 l5 l4 l1 F B = some (r, F9, B9)) (hZ : zH D ca ad lnM nM L F B A H) (hS : va_S A s.heap H locs) (hl : lv_has ls 11 [(8, .int (iI l8)), (7, .int (iI l7)), (2, .long (lI l2)), (6, .int (iI l6)), (5, .int (iI l5)), (4, .int (iI l4)), (0, .ref (ad 14 0 0)), (1, .int (iI l1))]) : W p l e ({ frames := 4, cells := 0, slots := 0, locals := 92 } : Room) s m args below meth c H locs 0 0 (MQ below (Q_M_track0 D ca ad L r F9 B9 A) args s 0 0 A) (F0 m 195 ls []) := by
  obtain ⟨hx, hb, hr, hml, hown, hts, hlk, hK, hA, hL, hX⟩ := id X
  replace hf : (if r32 l8 then (if 128 ≤ l8 then zbind (f_M_below K F B) (fun r51 F51 B51 => f_M_track0_212 rec21 K l7 l2 l6 l5 l4 l1 r51 F51 B51) else f_M_track0_212 rec21 K l7 l2 l6 l5 l4 l1 l8 F B) else none) = some (r, F9, B9) := hf
  refine lv_iload hx hb d_15_145_195 (lv_at hl 0 rfl) ?_
  refine lv_sipush (v := iI 128) hx hb d_15_145_197 (by decide) ?_
  obtain ⟨g49, hf⟩ := gif hf
  refine zge (tgt := 208) hx hb g49 (by decide) d_15_145_200 (by decide) (fun h50 => ?_) (fun h50 => ?_)
  · replace hf := gpos hf h50
    refine lv_aload_n hx hb d_15_145_208 rfl (lv_at hl 6 rfl) ?_
    obtain ⟨r51, F51, B51, hc51, hf⟩ := gbind hf
    refine va_calli (va_runV (As := []) (rest := []) ⟨hx, hb, hml, hown, hts⟩ (c_M_below (l := l) hc51) (cwV 0 hts (gdV k_13_52 k_13_54 ks_161 k_1_9 k_13_55) rfl rfl rfl (by decide +kernel) ⟨Nat.le_of_ble_eq_true rfl, Nat.le_of_ble_eq_true rfl⟩) (zPV X hZ hS (ci := 14) (by decide) (by decide) (r := (RX14, TX14, 107)) rfl []) rfl rfl hl.1 rfl (lv_room (Nat.le_of_ble_eq_true rfl)) d_15_145_209 ⟨Nat.le_of_ble_eq_true rfl, Nat.le_of_ble_eq_true rfl⟩) hS (fun q _ h => zAin X hS q h) (zAin X hS) (fun p51 u51 t51 H51 locs51 ht51 hv51 hw51 hB51 hz51 hk51 hS51 => ?_)
    have hZ51 := zBack X ht51 hB51
    subst hw51
    exact b_M_track0_212 X hrec21 hf hZ51 hS51 (lv_sub hl [1, 2, 3, 4, 5, 6, 7] rfl)
  · replace hf := gneg hf h50
    refine lv_iload hx hb d_15_145_203 (lv_at hl 0 rfl) ?_
    refine lv_goto (tgt := 212) hx hb d_15_145_205 (by decide) ?_
    exact b_M_track0_212 X hrec21 hf hZ hS (lv_sub hl [1, 2, 3, 4, 5, 6, 7] rfl)

def f_M_track0_183 (rec21 : Int → Int → Int → Int → Int → zF → zB → zO) (K : Nat) (l8 : Int) (l7 : Int) (l2 : Int) (l6 : Int) (l5 : Int) (l4 : Int) (l1 : Int) (F : zF) (B : zB) : zO := if r32 l8 then (if l8 < 128 then f_M_track0_195 rec21 K l8 l7 l2 l6 l5 l4 l1 F B else f_M_track0_195 rec21 K l8 l7 l2 l6 l5 l8 l1 F B) else none
set_option maxHeartbeats 4000000 in
set_option maxRecDepth 100000 in
theorem b_M_track0_183 {D : va_G} {ca : Nat → ClassId} {ad : Nat → Int → Nat → Nat} {L : List Nat} {aS vS : Nat → Nat} {A : Nat → Prop} {p : Program} {l : Launch} {e : Env} {s : State} {m : MethodId} {args : Array Value} {below : List Frame} {meth : Method} {c : Code} {K : Nat} {r : Int} {F9 : zF} {B9 : zB} (X : zX D ca L aS vS A p s m args meth c prog_15_method_145_code 11 (Option.none : Option Jvm.ClassFile.FieldType) "StaveHouseModel") {rec21 : Int → Int → Int → Int → Int → zF → zB → zO} (hrec21 : ∀ {l6 : Int} {l5 : Int} {l4 : Int} {l2 : Int} {l1 : Int} {F : zF} {B : zB} {H : Heap} {locs : List Loc} {ls : Array Slot}, rec21 l6 l5 l4 l2 l1 F B = some (r, F9, B9) → zH D ca ad lnM nM L F B A H → va_S A s.heap H locs → lv_has ls 11 [(6, .int (iI l6)), (5, .int (iI l5)), (4, .int (iI l4)), (2, .long (lI l2)), (0, .ref (ad 14 0 0)), (1, .int (iI l1))] → W p l e ({ frames := 4, cells := 0, slots := 0, locals := 92 } : Room) s m args below meth c H locs 0 0 (MQ below (Q_M_track0 D ca ad L r F9 B9 A) args s 0 0 A) (F0 m 21 ls [])) {l8 : Int} {l7 : Int} {l2 : Int} {l6 : Int} {l5 : Int} {l4 : Int} {l1 : Int} {F : zF} {B : zB} {H : Heap} {locs : List Loc} {ls : Array Slot} (hf : f_M_track0_183 rec21 K l8 l7 l2 l6 l5 l4 l1 F B = some (r, F9, B9)) (hZ : zH D ca ad lnM nM L F B A H) (hS : va_S A s.heap H locs) (hl : lv_has ls 11 [(8, .int (iI l8)), (7, .int (iI l7)), (2, .long (lI l2)), (6, .int (iI l6)), (5, .int (iI l5)), (4, .int (iI l4)), (0, .ref (ad 14 0 0)), (1, .int (iI l1))]) : W p l e ({ frames := 4, cells := 0, slots := 0, locals := 92 } : Room) s m args below meth c H locs 0 0 (MQ below (Q_M_track0 D ca ad L r F9 B9 A) args s 0 0 A) (F0 m 183 ls []) := by
  obtain ⟨hx, hb, hr, hml, hown, hts, hlk, hK, hA, hL, hX⟩ := id X
  replace hf : (if r32 l8 then (if l8 < 128 then f_M_track0_195 rec21 K l8 l7 l2 l6 l5 l4 l1 F B else f_M_track0_195 rec21 K l8 l7 l2 l6 l5 l8 l1 F B) else none) = some (r, F9, B9) := hf
  refine lv_iload hx hb d_15_145_183 (lv_at hl 0 rfl) ?_
  refine lv_sipush (v := iI 128) hx hb d_15_145_185 (by decide) ?_
  obtain ⟨g47, hf⟩ := gif hf
  refine zlt (tgt := 195) hx hb g47 (by decide) d_15_145_188 (by decide) (fun h48 => ?_) (fun h48 => ?_)
  · replace hf := gpos hf h48
    exact b_M_track0_195 X hrec21 hf hZ hS (lv_sub hl [0, 1, 2, 3, 4, 5, 6, 7] rfl)
  · replace hf := gneg hf h48
    refine lv_iload hx hb d_15_145_191 (lv_at hl 0 rfl) ?_
    refine lv_istore (lv' := [(4, .int (iI l8)), (8, .int (iI l8)), (7, .int (iI l7)), (2, .long (lI l2)), (6, .int (iI l6)), (5, .int (iI l5)), (0, .ref (ad 14 0 0)), (1, .int (iI l1))]) hx hb d_15_145_193 hl (by decide) rfl (fun ls hl => ?_)
    exact b_M_track0_195 X hrec21 hf hZ hS (lv_sub hl [1, 2, 3, 4, 5, 0, 6, 7] rfl)

def f_M_track0_173 (rec21 : Int → Int → Int → Int → Int → zF → zB → zO) (K : Nat) (l7 : Int) (l2 : Int) (l6 : Int) (l5 : Int) (l4 : Int) (l1 : Int) (F : zF) (B : zB) : zO := zbind (f_M_failByte K 1 l7 F B) (fun r46 F46 B46 => f_M_track0_263 rec21 K l4 l5 l2 l6 l1 F46 B46)
set_option maxHeartbeats 4000000 in
set_option maxRecDepth 100000 in
theorem b_M_track0_173 {D : va_G} {ca : Nat → ClassId} {ad : Nat → Int → Nat → Nat} {L : List Nat} {aS vS : Nat → Nat} {A : Nat → Prop} {p : Program} {l : Launch} {e : Env} {s : State} {m : MethodId} {args : Array Value} {below : List Frame} {meth : Method} {c : Code} {K : Nat} {r : Int} {F9 : zF} {B9 : zB} (X : zX D ca L aS vS A p s m args meth c prog_15_method_145_code 11 (Option.none : Option Jvm.ClassFile.FieldType) "StaveHouseModel") {rec21 : Int → Int → Int → Int → Int → zF → zB → zO} (hrec21 : ∀ {l6 : Int} {l5 : Int} {l4 : Int} {l2 : Int} {l1 : Int} {F : zF} {B : zB} {H : Heap} {locs : List Loc} {ls : Array Slot}, rec21 l6 l5 l4 l2 l1 F B = some (r, F9, B9) → zH D ca ad lnM nM L F B A H → va_S A s.heap H locs → lv_has ls 11 [(6, .int (iI l6)), (5, .int (iI l5)), (4, .int (iI l4)), (2, .long (lI l2)), (0, .ref (ad 14 0 0)), (1, .int (iI l1))] → W p l e ({ frames := 4, cells := 0, slots := 0, locals := 92 } : Room) s m args below meth c H locs 0 0 (MQ below (Q_M_track0 D ca ad L r F9 B9 A) args s 0 0 A) (F0 m 21 ls [])) {l7 : Int} {l2 : Int} {l6 : Int} {l5 : Int} {l4 : Int} {l1 : Int} {F : zF} {B : zB} {H : Heap} {locs : List Loc} {ls : Array Slot} (hf : f_M_track0_173 rec21 K l7 l2 l6 l5 l4 l1 F B = some (r, F9, B9)) (hZ : zH D ca ad lnM nM L F B A H) (hS : va_S A s.heap H locs) (hl : lv_has ls 11 [(7, .int (iI l7)), (2, .long (lI l2)), (6, .int (iI l6)), (5, .int (iI l5)), (4, .int (iI l4)), (0, .ref (ad 14 0 0)), (1, .int (iI l1))]) : W p l e ({ frames := 4, cells := 0, slots := 0, locals := 92 } : Room) s m args below meth c H locs 0 0 (MQ below (Q_M_track0 D ca ad L r F9 B9 A) args s 0 0 A) (F0 m 173 ls []) := by
  obtain ⟨hx, hb, hr, hml, hown, hts, hlk, hK, hA, hL, hX⟩ := id X
  replace hf : (zbind (f_M_failByte K 1 l7 F B) (fun r46 F46 B46 => f_M_track0_263 rec21 K l4 l5 l2 l6 l1 F46 B46)) = some (r, F9, B9) := hf
  refine lv_aload_n hx hb d_15_145_173 rfl (lv_at hl 5 rfl) ?_
  refine lv_iconst (v := iI 1) hx hb d_15_145_174 rfl ?_
  refine lv_iload hx hb d_15_145_175 (lv_at hl 0 rfl) ?_
  obtain ⟨r46, F46, B46, hc46, hf⟩ := gbind hf
  refine va_callv (va_runV (As := [.int (iI 1), .int (iI l7)]) (rest := []) ⟨hx, hb, hml, hown, hts⟩ (c_M_failByte (l := l) hc46) (cwV 2 hts (gdV k_13_19 k_13_21 ks_153 k_1_9 k_13_22) rfl rfl rfl (by decide +kernel) ⟨Nat.le_of_ble_eq_true rfl, Nat.le_of_ble_eq_true rfl⟩) (zPV X hZ hS (ci := 14) (by decide) (by decide) (r := (RX14, TX14, 107)) rfl [.int (iI 1), .int (iI l7)]) rfl rfl hl.1 rfl (lv_room (Nat.le_of_ble_eq_true rfl)) d_15_145_177 ⟨Nat.le_of_ble_eq_true rfl, Nat.le_of_ble_eq_true rfl⟩) hS (fun q _ h => zAin X hS q h) (zAin X hS) (fun u46 t46 H46 locs46 ht46 hv46 hw46 hB46 hz46 hk46 hS46 => ?_)
  have hZ46 := zBack X ht46 hB46
  refine lv_goto (tgt := 263) hx hb d_15_145_180 (by decide) ?_
  exact b_M_track0_263 X hrec21 hf hZ46 hS46 (lv_sub hl [4, 3, 1, 2, 5, 6] rfl)

def f_M_track0_146 (rec21 : Int → Int → Int → Int → Int → zF → zB → zO) (K : Nat) (l2 : Int) (l6 : Int) (l5 : Int) (l1 : Int) (F : zF) (B : zB) : zO := f_M_track0_263 rec21 K 0 l5 l2 l6 l1 F B
set_option maxHeartbeats 4000000 in
set_option maxRecDepth 100000 in
theorem b_M_track0_146 {D : va_G} {ca : Nat → ClassId} {ad : Nat → Int → Nat → Nat} {L : List Nat} {aS vS : Nat → Nat} {A : Nat → Prop} {p : Program} {l : Launch} {e : Env} {s : State} {m : MethodId} {args : Array Value} {below : List Frame} {meth : Method} {c : Code} {K : Nat} {r : Int} {F9 : zF} {B9 : zB} (X : zX D ca L aS vS A p s m args meth c prog_15_method_145_code 11 (Option.none : Option Jvm.ClassFile.FieldType) "StaveHouseModel") {rec21 : Int → Int → Int → Int → Int → zF → zB → zO} (hrec21 : ∀ {l6 : Int} {l5 : Int} {l4 : Int} {l2 : Int} {l1 : Int} {F : zF} {B : zB} {H : Heap} {locs : List Loc} {ls : Array Slot}, rec21 l6 l5 l4 l2 l1 F B = some (r, F9, B9) → zH D ca ad lnM nM L F B A H → va_S A s.heap H locs → lv_has ls 11 [(6, .int (iI l6)), (5, .int (iI l5)), (4, .int (iI l4)), (2, .long (lI l2)), (0, .ref (ad 14 0 0)), (1, .int (iI l1))] → W p l e ({ frames := 4, cells := 0, slots := 0, locals := 92 } : Room) s m args below meth c H locs 0 0 (MQ below (Q_M_track0 D ca ad L r F9 B9 A) args s 0 0 A) (F0 m 21 ls [])) {l2 : Int} {l6 : Int} {l5 : Int} {l1 : Int} {F : zF} {B : zB} {H : Heap} {locs : List Loc} {ls : Array Slot} (hf : f_M_track0_146 rec21 K l2 l6 l5 l1 F B = some (r, F9, B9)) (hZ : zH D ca ad lnM nM L F B A H) (hS : va_S A s.heap H locs) (hl : lv_has ls 11 [(2, .long (lI l2)), (6, .int (iI l6)), (5, .int (iI l5)), (0, .ref (ad 14 0 0)), (1, .int (iI l1))]) : W p l e ({ frames := 4, cells := 0, slots := 0, locals := 92 } : Room) s m args below meth c H locs 0 0 (MQ below (Q_M_track0 D ca ad L r F9 B9 A) args s 0 0 A) (F0 m 146 ls []) := by
  obtain ⟨hx, hb, hr, hml, hown, hts, hlk, hK, hA, hL, hX⟩ := id X
  replace hf : (f_M_track0_263 rec21 K 0 l5 l2 l6 l1 F B) = some (r, F9, B9) := hf
  refine lv_iconst (v := iI 0) hx hb d_15_145_146 rfl ?_
  refine lv_istore (lv' := [(4, .int (iI 0)), (2, .long (lI l2)), (6, .int (iI l6)), (5, .int (iI l5)), (0, .ref (ad 14 0 0)), (1, .int (iI l1))]) hx hb d_15_145_147 hl (by decide) rfl (fun ls hl => ?_)
  refine lv_goto (tgt := 263) hx hb d_15_145_149 (by decide) ?_
  exact b_M_track0_263 X hrec21 hf hZ hS (lv_sub hl [0, 3, 1, 2, 4, 5] rfl)

def f_M_track0_121 (rec21 : Int → Int → Int → Int → Int → zF → zB → zO) (K : Nat) : Nat → Int → Int → Int → Int → Int → Int → zF → zB → zO
  | 0, _, _, _, _, _, _, _, _ => none
  | n + 1, l10, l9, l2, l6, l5, l1, F, B => if r32 l10 then if r32 l9 then (if l9 ≤ l10 then f_M_track0_146 rec21 K l2 l6 l5 l1 F B else zbind (f_M_good K F B) (fun r42 F42 B42 => if r32 r42 then (if r42 = 0 then f_M_track0_146 rec21 K l2 l6 l5 l1 F42 B42 else zbind (f_M_next K F42 B42) (fun r45 F45 B45 => f_M_track0_121 rec21 K n (l10 + 1) l9 l2 l6 l5 l1 F45 B45)) else none)) else none else none
set_option maxHeartbeats 4000000 in
set_option maxRecDepth 100000 in
theorem b_M_track0_121 {D : va_G} {ca : Nat → ClassId} {ad : Nat → Int → Nat → Nat} {L : List Nat} {aS vS : Nat → Nat} {A : Nat → Prop} {p : Program} {l : Launch} {e : Env} {s : State} {m : MethodId} {args : Array Value} {below : List Frame} {meth : Method} {c : Code} {K : Nat} {r : Int} {F9 : zF} {B9 : zB} (X : zX D ca L aS vS A p s m args meth c prog_15_method_145_code 11 (Option.none : Option Jvm.ClassFile.FieldType) "StaveHouseModel") {rec21 : Int → Int → Int → Int → Int → zF → zB → zO} (hrec21 : ∀ {l6 : Int} {l5 : Int} {l4 : Int} {l2 : Int} {l1 : Int} {F : zF} {B : zB} {H : Heap} {locs : List Loc} {ls : Array Slot}, rec21 l6 l5 l4 l2 l1 F B = some (r, F9, B9) → zH D ca ad lnM nM L F B A H → va_S A s.heap H locs → lv_has ls 11 [(6, .int (iI l6)), (5, .int (iI l5)), (4, .int (iI l4)), (2, .long (lI l2)), (0, .ref (ad 14 0 0)), (1, .int (iI l1))] → W p l e ({ frames := 4, cells := 0, slots := 0, locals := 92 } : Room) s m args below meth c H locs 0 0 (MQ below (Q_M_track0 D ca ad L r F9 B9 A) args s 0 0 A) (F0 m 21 ls [])) : ∀ {n : Nat} {l10 : Int} {l9 : Int} {l2 : Int} {l6 : Int} {l5 : Int} {l1 : Int} {F : zF} {B : zB} {H : Heap} {locs : List Loc} {ls : Array Slot}, f_M_track0_121 rec21 K n l10 l9 l2 l6 l5 l1 F B = some (r, F9, B9) → zH D ca ad lnM nM L F B A H → va_S A s.heap H locs → lv_has ls 11 [(10, .int (iI l10)), (9, .int (iI l9)), (2, .long (lI l2)), (6, .int (iI l6)), (5, .int (iI l5)), (0, .ref (ad 14 0 0)), (1, .int (iI l1))] → W p l e ({ frames := 4, cells := 0, slots := 0, locals := 92 } : Room) s m args below meth c H locs 0 0 (MQ below (Q_M_track0 D ca ad L r F9 B9 A) args s 0 0 A) (F0 m 121 ls []) := by
  obtain ⟨hx, hb, hr, hml, hown, hts, hlk, hK, hA, hL, hX⟩ := id X
  intro n
  induction n with
  | zero =>
    intros
    rename_i hf _ _ _
    cases hf
  | succ n ih =>
    intro l10 l9 l2 l6 l5 l1 F B H locs ls hf hZ hS hl
    replace hf : (if r32 l10 then if r32 l9 then (if l9 ≤ l10 then f_M_track0_146 rec21 K l2 l6 l5 l1 F B else zbind (f_M_good K F B) (fun r42 F42 B42 => if r32 r42 then (if r42 = 0 then f_M_track0_146 rec21 K l2 l6 l5 l1 F42 B42 else zbind (f_M_next K F42 B42) (fun r45 F45 B45 => f_M_track0_121 rec21 K n (l10 + 1) l9 l2 l6 l5 l1 F45 B45)) else none)) else none else none) = some (r, F9, B9) := hf
    refine lv_iload hx hb d_15_145_121 (lv_at hl 0 rfl) ?_
    refine lv_iload hx hb d_15_145_123 (lv_at hl 1 rfl) ?_
    obtain ⟨g39, hf⟩ := gif hf
    obtain ⟨g40, hf⟩ := gif hf
    refine zge (tgt := 146) hx hb g39 g40 d_15_145_125 (by decide) (fun h41 => ?_) (fun h41 => ?_)
    · replace hf := gpos hf h41
      exact b_M_track0_146 X hrec21 hf hZ hS (lv_sub hl [2, 3, 4, 5, 6] rfl)
    · replace hf := gneg hf h41
      refine lv_aload_n hx hb d_15_145_128 rfl (lv_at hl 5 rfl) ?_
      obtain ⟨r42, F42, B42, hc42, hf⟩ := gbind hf
      refine va_calli (va_runV (As := []) (rest := []) ⟨hx, hb, hml, hown, hts⟩ (c_M_good (l := l) hc42) (cwV 0 hts (gdV k_13_15 k_13_17 ks_152 k_1_9 k_13_18) rfl rfl rfl (by decide +kernel) ⟨Nat.le_of_ble_eq_true rfl, Nat.le_of_ble_eq_true rfl⟩) (zPV X hZ hS (ci := 14) (by decide) (by decide) (r := (RX14, TX14, 107)) rfl []) rfl rfl hl.1 rfl (lv_room (Nat.le_of_ble_eq_true rfl)) d_15_145_129 ⟨Nat.le_of_ble_eq_true rfl, Nat.le_of_ble_eq_true rfl⟩) hS (fun q _ h => zAin X hS q h) (zAin X hS) (fun p42 u42 t42 H42 locs42 ht42 hv42 hw42 hB42 hz42 hk42 hS42 => ?_)
      have hZ42 := zBack X ht42 hB42
      subst hw42
      obtain ⟨g43, hf⟩ := gif hf
      refine z0eq (tgt := 146) hx hb g43 d_15_145_132 (by decide) (fun h44 => ?_) (fun h44 => ?_)
      · replace hf := gpos hf h44
        exact b_M_track0_146 X hrec21 hf hZ42 hS42 (lv_sub hl [2, 3, 4, 5, 6] rfl)
      · replace hf := gneg hf h44
        refine lv_aload_n hx hb d_15_145_135 rfl (lv_at hl 5 rfl) ?_
        obtain ⟨r45, F45, B45, hc45, hf⟩ := gbind hf
        refine va_calli (va_runV (As := []) (rest := []) ⟨hx, hb, hml, hown, hts⟩ (c_M_next (l := l) hc45) (cwV 0 hts (gdV k_13_11 k_13_13 ks_151 k_1_9 k_13_14) rfl rfl rfl (by decide +kernel) ⟨Nat.le_of_ble_eq_true rfl, Nat.le_of_ble_eq_true rfl⟩) (zPV X hZ42 hS42 (ci := 14) (by decide) (by decide) (r := (RX14, TX14, 107)) rfl []) rfl rfl hl.1 rfl (lv_room (Nat.le_of_ble_eq_true rfl)) d_15_145_136 ⟨Nat.le_of_ble_eq_true rfl, Nat.le_of_ble_eq_true rfl⟩) hS42 (fun q _ h => zAin X hS42 q h) (zAin X hS42) (fun p45 u45 t45 H45 locs45 ht45 hv45 hw45 hB45 hz45 hk45 hS45 => ?_)
        have hZ45 := zBack X ht45 hB45
        subst hw45
        refine lv_pop hx hb d_15_145_139 rfl ?_
        refine lv_iinc (v := iI (l10 + 1)) (lv' := [(10, .int (iI (l10 + 1))), (9, .int (iI l9)), (2, .long (lI l2)), (6, .int (iI l6)), (5, .int (iI l5)), (0, .ref (ad 14 0 0)), (1, .int (iI l1))]) hx hb d_15_145_140 hl (k := 0) rfl (iI_add _ 1) (by decide) rfl (fun ls hl => ?_)
        refine lv_goto (tgt := 121) hx hb d_15_145_143 (by decide) ?_
        exact ih hf hZ45 hS45 (lv_sub hl [0, 1, 2, 3, 4, 5, 6] rfl)

def f_M_track0_112 (rec21 : Int → Int → Int → Int → Int → zF → zB → zO) (K : Nat) (l2 : Int) (l6 : Int) (l5 : Int) (l1 : Int) (F : zF) (B : zB) : zO := zbind (f_M_seven K F B) (fun r38 F38 B38 => f_M_track0_121 rec21 K K 0 r38 l2 l6 l5 l1 F38 B38)
set_option maxHeartbeats 4000000 in
set_option maxRecDepth 100000 in
theorem b_M_track0_112 {D : va_G} {ca : Nat → ClassId} {ad : Nat → Int → Nat → Nat} {L : List Nat} {aS vS : Nat → Nat} {A : Nat → Prop} {p : Program} {l : Launch} {e : Env} {s : State} {m : MethodId} {args : Array Value} {below : List Frame} {meth : Method} {c : Code} {K : Nat} {r : Int} {F9 : zF} {B9 : zB} (X : zX D ca L aS vS A p s m args meth c prog_15_method_145_code 11 (Option.none : Option Jvm.ClassFile.FieldType) "StaveHouseModel") {rec21 : Int → Int → Int → Int → Int → zF → zB → zO} (hrec21 : ∀ {l6 : Int} {l5 : Int} {l4 : Int} {l2 : Int} {l1 : Int} {F : zF} {B : zB} {H : Heap} {locs : List Loc} {ls : Array Slot}, rec21 l6 l5 l4 l2 l1 F B = some (r, F9, B9) → zH D ca ad lnM nM L F B A H → va_S A s.heap H locs → lv_has ls 11 [(6, .int (iI l6)), (5, .int (iI l5)), (4, .int (iI l4)), (2, .long (lI l2)), (0, .ref (ad 14 0 0)), (1, .int (iI l1))] → W p l e ({ frames := 4, cells := 0, slots := 0, locals := 92 } : Room) s m args below meth c H locs 0 0 (MQ below (Q_M_track0 D ca ad L r F9 B9 A) args s 0 0 A) (F0 m 21 ls [])) {l2 : Int} {l6 : Int} {l5 : Int} {l1 : Int} {F : zF} {B : zB} {H : Heap} {locs : List Loc} {ls : Array Slot} (hf : f_M_track0_112 rec21 K l2 l6 l5 l1 F B = some (r, F9, B9)) (hZ : zH D ca ad lnM nM L F B A H) (hS : va_S A s.heap H locs) (hl : lv_has ls 11 [(2, .long (lI l2)), (6, .int (iI l6)), (5, .int (iI l5)), (0, .ref (ad 14 0 0)), (1, .int (iI l1))]) : W p l e ({ frames := 4, cells := 0, slots := 0, locals := 92 } : Room) s m args below meth c H locs 0 0 (MQ below (Q_M_track0 D ca ad L r F9 B9 A) args s 0 0 A) (F0 m 112 ls []) := by
  obtain ⟨hx, hb, hr, hml, hown, hts, hlk, hK, hA, hL, hX⟩ := id X
  replace hf : (zbind (f_M_seven K F B) (fun r38 F38 B38 => f_M_track0_121 rec21 K K 0 r38 l2 l6 l5 l1 F38 B38)) = some (r, F9, B9) := hf
  refine lv_aload_n hx hb d_15_145_112 rfl (lv_at hl 3 rfl) ?_
  obtain ⟨r38, F38, B38, hc38, hf⟩ := gbind hf
  refine va_calli (va_runV (As := []) (rest := []) ⟨hx, hb, hml, hown, hts⟩ (c_M_seven (l := l) hc38) (cwV 0 hts (gdV k_13_44 k_13_46 ks_159 k_1_9 k_13_47) rfl rfl rfl (by decide +kernel) ⟨Nat.le_of_ble_eq_true rfl, Nat.le_of_ble_eq_true rfl⟩) (zPV X hZ hS (ci := 14) (by decide) (by decide) (r := (RX14, TX14, 107)) rfl []) rfl rfl hl.1 rfl (lv_room (Nat.le_of_ble_eq_true rfl)) d_15_145_113 ⟨Nat.le_of_ble_eq_true rfl, Nat.le_of_ble_eq_true rfl⟩) hS (fun q _ h => zAin X hS q h) (zAin X hS) (fun p38 u38 t38 H38 locs38 ht38 hv38 hw38 hB38 hz38 hk38 hS38 => ?_)
  have hZ38 := zBack X ht38 hB38
  subst hw38
  refine lv_istore (lv' := [(9, .int (iI r38)), (2, .long (lI l2)), (6, .int (iI l6)), (5, .int (iI l5)), (0, .ref (ad 14 0 0)), (1, .int (iI l1))]) hx hb d_15_145_116 hl (by decide) rfl (fun ls hl => ?_)
  refine lv_iconst (v := iI 0) hx hb d_15_145_118 rfl ?_
  refine lv_istore (lv' := [(10, .int (iI 0)), (9, .int (iI r38)), (2, .long (lI l2)), (6, .int (iI l6)), (5, .int (iI l5)), (0, .ref (ad 14 0 0)), (1, .int (iI l1))]) hx hb d_15_145_119 hl (by decide) rfl (fun ls hl => ?_)
  exact b_M_track0_121 X hrec21 hf hZ38 hS38 (lv_sub hl [0, 1, 2, 3, 4, 5, 6] rfl)

def f_M_track0_21 (K : Nat) : Nat → Int → Int → Int → Int → Int → zF → zB → zO
  | 0, _, _, _, _, _, _, _ => none
  | n + 1, l6, l5, l4, l2, l1, F, B => zbind (f_M_good K F B) (fun r3 F3 B3 => if r32 r3 then (if r3 = 0 then f_M_track0_266 K l6 l2 l1 F3 B3 else if r32 l5 then (if l5 = 0 then if r32 (F3 14 0 89) then if r64 (F3 14 0 89) then if r64 (F3 14 0 90) then (if 0 ≤ (zcmp (F3 14 0 89) (F3 14 0 90)) then f_M_track0_266 K l6 l2 l1 F3 B3 else zbind (f_M_seven K F3 B3) (fun r12 F12 B12 => if r32 r12 then zbind (f_M_next K F12 B12) (fun r14 F14 B14 => zbind (f_M_good K F14 B14) (fun r15 F15 B15 => if r32 r15 then (if r15 = 0 then f_M_track0_266 K l6 (l2 + r12) l1 F15 B15 else if r32 r14 then (if r14 = 255 then zbind (f_M_meta K F15 B15) (fun r26 F26 B26 => f_M_track0_263 (f_M_track0_21 K n) K 0 r26 (l2 + r12) l6 l1 F26 B26) else (if r14 = 240 then f_M_track0_112 (f_M_track0_21 K n) K (l2 + r12) l6 l5 l1 F15 B15 else (if r14 = 247 then f_M_track0_112 (f_M_track0_21 K n) K (l2 + r12) l6 l5 l1 F15 B15 else (if 240 ≤ r14 then f_M_track0_173 (f_M_track0_21 K n) K (F12 14 0 89) (l2 + r12) l6 l5 l4 l1 F15 B15 else (if 128 ≤ r14 then f_M_track0_183 (f_M_track0_21 K n) K r14 (F12 14 0 89) (l2 + r12) l6 l5 l4 l1 F15 B15 else if r32 l4 then (if l4 = 0 then f_M_track0_173 (f_M_track0_21 K n) K (F12 14 0 89) (l2 + r12) l6 l5 l4 l1 F15 B15 else f_M_track0_183 (f_M_track0_21 K n) K r14 (F12 14 0 89) (l2 + r12) l6 l5 l4 l1 F15 B15) else none))))) else none) else none)) else none)) else none else none else none else f_M_track0_266 K l6 l2 l1 F3 B3) else none) else none)
set_option maxHeartbeats 4000000 in
set_option maxRecDepth 100000 in
theorem b_M_track0_21 {D : va_G} {ca : Nat → ClassId} {ad : Nat → Int → Nat → Nat} {L : List Nat} {aS vS : Nat → Nat} {A : Nat → Prop} {p : Program} {l : Launch} {e : Env} {s : State} {m : MethodId} {args : Array Value} {below : List Frame} {meth : Method} {c : Code} {K : Nat} {r : Int} {F9 : zF} {B9 : zB} (X : zX D ca L aS vS A p s m args meth c prog_15_method_145_code 11 (Option.none : Option Jvm.ClassFile.FieldType) "StaveHouseModel") : ∀ {n : Nat} {l6 : Int} {l5 : Int} {l4 : Int} {l2 : Int} {l1 : Int} {F : zF} {B : zB} {H : Heap} {locs : List Loc} {ls : Array Slot}, f_M_track0_21 K n l6 l5 l4 l2 l1 F B = some (r, F9, B9) → zH D ca ad lnM nM L F B A H → va_S A s.heap H locs → lv_has ls 11 [(6, .int (iI l6)), (5, .int (iI l5)), (4, .int (iI l4)), (2, .long (lI l2)), (0, .ref (ad 14 0 0)), (1, .int (iI l1))] → W p l e ({ frames := 4, cells := 0, slots := 0, locals := 92 } : Room) s m args below meth c H locs 0 0 (MQ below (Q_M_track0 D ca ad L r F9 B9 A) args s 0 0 A) (F0 m 21 ls []) := by
  obtain ⟨hx, hb, hr, hml, hown, hts, hlk, hK, hA, hL, hX⟩ := id X
  intro n
  induction n with
  | zero =>
    intros
    rename_i hf _ _ _
    cases hf
  | succ n ih =>
    intro l6 l5 l4 l2 l1 F B H locs ls hf hZ hS hl
    replace hf : (zbind (f_M_good K F B) (fun r3 F3 B3 => if r32 r3 then (if r3 = 0 then f_M_track0_266 K l6 l2 l1 F3 B3 else if r32 l5 then (if l5 = 0 then if r32 (F3 14 0 89) then if r64 (F3 14 0 89) then if r64 (F3 14 0 90) then (if 0 ≤ (zcmp (F3 14 0 89) (F3 14 0 90)) then f_M_track0_266 K l6 l2 l1 F3 B3 else zbind (f_M_seven K F3 B3) (fun r12 F12 B12 => if r32 r12 then zbind (f_M_next K F12 B12) (fun r14 F14 B14 => zbind (f_M_good K F14 B14) (fun r15 F15 B15 => if r32 r15 then (if r15 = 0 then f_M_track0_266 K l6 (l2 + r12) l1 F15 B15 else if r32 r14 then (if r14 = 255 then zbind (f_M_meta K F15 B15) (fun r26 F26 B26 => f_M_track0_263 (f_M_track0_21 K n) K 0 r26 (l2 + r12) l6 l1 F26 B26) else (if r14 = 240 then f_M_track0_112 (f_M_track0_21 K n) K (l2 + r12) l6 l5 l1 F15 B15 else (if r14 = 247 then f_M_track0_112 (f_M_track0_21 K n) K (l2 + r12) l6 l5 l1 F15 B15 else (if 240 ≤ r14 then f_M_track0_173 (f_M_track0_21 K n) K (F12 14 0 89) (l2 + r12) l6 l5 l4 l1 F15 B15 else (if 128 ≤ r14 then f_M_track0_183 (f_M_track0_21 K n) K r14 (F12 14 0 89) (l2 + r12) l6 l5 l4 l1 F15 B15 else if r32 l4 then (if l4 = 0 then f_M_track0_173 (f_M_track0_21 K n) K (F12 14 0 89) (l2 + r12) l6 l5 l4 l1 F15 B15 else f_M_track0_183 (f_M_track0_21 K n) K r14 (F12 14 0 89) (l2 + r12) l6 l5 l4 l1 F15 B15) else none))))) else none) else none)) else none)) else none else none else none else f_M_track0_266 K l6 l2 l1 F3 B3) else none) else none)) = some (r, F9, B9) := hf
    refine lv_aload_n hx hb d_15_145_21 rfl (lv_at hl 4 rfl) ?_
    obtain ⟨r3, F3, B3, hc3, hf⟩ := gbind hf
    refine va_calli (va_runV (As := []) (rest := []) ⟨hx, hb, hml, hown, hts⟩ (c_M_good (l := l) hc3) (cwV 0 hts (gdV k_13_15 k_13_17 ks_152 k_1_9 k_13_18) rfl rfl rfl (by decide +kernel) ⟨Nat.le_of_ble_eq_true rfl, Nat.le_of_ble_eq_true rfl⟩) (zPV X hZ hS (ci := 14) (by decide) (by decide) (r := (RX14, TX14, 107)) rfl []) rfl rfl hl.1 rfl (lv_room (Nat.le_of_ble_eq_true rfl)) d_15_145_22 ⟨Nat.le_of_ble_eq_true rfl, Nat.le_of_ble_eq_true rfl⟩) hS (fun q _ h => zAin X hS q h) (zAin X hS) (fun p3 u3 t3 H3 locs3 ht3 hv3 hw3 hB3 hz3 hk3 hS3 => ?_)
    have hZ3 := zBack X ht3 hB3
    subst hw3
    obtain ⟨g4, hf⟩ := gif hf
    refine z0eq (tgt := 266) hx hb g4 d_15_145_25 (by decide) (fun h5 => ?_) (fun h5 => ?_)
    · replace hf := gpos hf h5
      exact b_M_track0_266 X hf hZ3 hS3 (lv_sub hl [0, 3, 4, 5] rfl)
    · replace hf := gneg hf h5
      refine lv_iload hx hb d_15_145_28 (lv_at hl 1 rfl) ?_
      obtain ⟨g6, hf⟩ := gif hf
      refine z0ne (tgt := 266) hx hb g6 d_15_145_30 (by decide) (fun h7 => ?_) (fun h7 => ?_)
      · replace hf := gneg hf h7
        exact b_M_track0_266 X hf hZ3 hS3 (lv_sub hl [0, 3, 4, 5] rfl)
      · replace hf := gpos hf h7
        refine lv_aload_n hx hb d_15_145_33 rfl (lv_at hl 4 rfl) ?_
        refine zget (ci := 14) (C := RX14) (T := TX14) (v := .int (iI (F3 14 0 89))) (k := 89) hx hb hts inW_14 hown hK hZ3 (by decide) (by decide) rfl (by decide) k_11_87 rfl d_15_145_34 ?_
        obtain ⟨g8, hf⟩ := gif hf
        refine zi2l hx hb g8 d_15_145_37 ?_
        refine lv_aload_n hx hb d_15_145_38 rfl (lv_at hl 4 rfl) ?_
        refine zget (ci := 14) (C := RX14) (T := TX14) (v := .long (lI (F3 14 0 90))) (k := 90) hx hb hts inW_14 hown hK hZ3 (by decide) (by decide) rfl (by decide) k_11_88 rfl d_15_145_39 ?_
        obtain ⟨g9, hf⟩ := gif hf
        obtain ⟨g10, hf⟩ := gif hf
        refine zcmp_r hx hb g9 g10 d_15_145_42 ?_
        refine z0ge (tgt := 266) hx hb zcmp_32 d_15_145_43 (by decide) (fun h11 => ?_) (fun h11 => ?_)
        · replace hf := gpos hf h11
          exact b_M_track0_266 X hf hZ3 hS3 (lv_sub hl [0, 3, 4, 5] rfl)
        · replace hf := gneg hf h11
          refine lv_lload_n hx hb d_15_145_46 rfl (lv_at hl 3 rfl) ?_
          refine lv_aload_n hx hb d_15_145_47 rfl (lv_at hl 4 rfl) ?_
          obtain ⟨r12, F12, B12, hc12, hf⟩ := gbind hf
          refine va_calli (va_runV (As := []) (rest := [.long (lI l2)]) ⟨hx, hb, hml, hown, hts⟩ (c_M_seven (l := l) hc12) (cwV 0 hts (gdV k_13_44 k_13_46 ks_159 k_1_9 k_13_47) rfl rfl rfl (by decide +kernel) ⟨Nat.le_of_ble_eq_true rfl, Nat.le_of_ble_eq_true rfl⟩) (zPV X hZ3 hS3 (ci := 14) (by decide) (by decide) (r := (RX14, TX14, 107)) rfl []) rfl rfl hl.1 rfl (lv_room (Nat.le_of_ble_eq_true rfl)) d_15_145_48 ⟨Nat.le_of_ble_eq_true rfl, Nat.le_of_ble_eq_true rfl⟩) hS3 (fun q _ h => zAin X hS3 q h) (zAin X hS3) (fun p12 u12 t12 H12 locs12 ht12 hv12 hw12 hB12 hz12 hk12 hS12 => ?_)
          have hZ12 := zBack X ht12 hB12
          subst hw12
          obtain ⟨g13, hf⟩ := gif hf
          refine zi2l hx hb g13 d_15_145_51 ?_
          refine zladd hx hb d_15_145_52 ?_
          refine lv_lstore_n (lv' := [(2, .long (lI (l2 + r12))), (6, .int (iI l6)), (5, .int (iI l5)), (4, .int (iI l4)), (0, .ref (ad 14 0 0)), (1, .int (iI l1))]) hx hb d_15_145_53 rfl hl (by decide) rfl (fun ls hl => ?_)
          refine lv_aload_n hx hb d_15_145_54 rfl (lv_at hl 4 rfl) ?_
          refine zget (ci := 14) (C := RX14) (T := TX14) (v := .int (iI (F12 14 0 89))) (k := 89) hx hb hts inW_14 hown hK hZ12 (by decide) (by decide) rfl (by decide) k_11_87 rfl d_15_145_55 ?_
          refine lv_istore (lv' := [(7, .int (iI (F12 14 0 89))), (2, .long (lI (l2 + r12))), (6, .int (iI l6)), (5, .int (iI l5)), (4, .int (iI l4)), (0, .ref (ad 14 0 0)), (1, .int (iI l1))]) hx hb d_15_145_58 hl (by decide) rfl (fun ls hl => ?_)
          refine lv_aload_n hx hb d_15_145_60 rfl (lv_at hl 5 rfl) ?_
          obtain ⟨r14, F14, B14, hc14, hf⟩ := gbind hf
          refine va_calli (va_runV (As := []) (rest := []) ⟨hx, hb, hml, hown, hts⟩ (c_M_next (l := l) hc14) (cwV 0 hts (gdV k_13_11 k_13_13 ks_151 k_1_9 k_13_14) rfl rfl rfl (by decide +kernel) ⟨Nat.le_of_ble_eq_true rfl, Nat.le_of_ble_eq_true rfl⟩) (zPV X hZ12 hS12 (ci := 14) (by decide) (by decide) (r := (RX14, TX14, 107)) rfl []) rfl rfl hl.1 rfl (lv_room (Nat.le_of_ble_eq_true rfl)) d_15_145_61 ⟨Nat.le_of_ble_eq_true rfl, Nat.le_of_ble_eq_true rfl⟩) hS12 (fun q _ h => zAin X hS12 q h) (zAin X hS12) (fun p14 u14 t14 H14 locs14 ht14 hv14 hw14 hB14 hz14 hk14 hS14 => ?_)
          have hZ14 := zBack X ht14 hB14
          subst hw14
          refine lv_istore (lv' := [(8, .int (iI r14)), (7, .int (iI (F12 14 0 89))), (2, .long (lI (l2 + r12))), (6, .int (iI l6)), (5, .int (iI l5)), (4, .int (iI l4)), (0, .ref (ad 14 0 0)), (1, .int (iI l1))]) hx hb d_15_145_64 hl (by decide) rfl (fun ls hl => ?_)
          refine lv_aload_n hx hb d_15_145_66 rfl (lv_at hl 6 rfl) ?_
          obtain ⟨r15, F15, B15, hc15, hf⟩ := gbind hf
          refine va_calli (va_runV (As := []) (rest := []) ⟨hx, hb, hml, hown, hts⟩ (c_M_good (l := l) hc15) (cwV 0 hts (gdV k_13_15 k_13_17 ks_152 k_1_9 k_13_18) rfl rfl rfl (by decide +kernel) ⟨Nat.le_of_ble_eq_true rfl, Nat.le_of_ble_eq_true rfl⟩) (zPV X hZ14 hS14 (ci := 14) (by decide) (by decide) (r := (RX14, TX14, 107)) rfl []) rfl rfl hl.1 rfl (lv_room (Nat.le_of_ble_eq_true rfl)) d_15_145_67 ⟨Nat.le_of_ble_eq_true rfl, Nat.le_of_ble_eq_true rfl⟩) hS14 (fun q _ h => zAin X hS14 q h) (zAin X hS14) (fun p15 u15 t15 H15 locs15 ht15 hv15 hw15 hB15 hz15 hk15 hS15 => ?_)
          have hZ15 := zBack X ht15 hB15
          subst hw15
          obtain ⟨g16, hf⟩ := gif hf
          refine z0ne (tgt := 76) hx hb g16 d_15_145_70 (by decide) (fun h17 => ?_) (fun h17 => ?_)
          · replace hf := gneg hf h17
            refine lv_iload hx hb d_15_145_76 (lv_at hl 0 rfl) ?_
            refine lv_sipush (v := iI 255) hx hb d_15_145_78 (by decide) ?_
            obtain ⟨g18, hf⟩ := gif hf
            refine zne (tgt := 96) hx hb g18 (by decide) d_15_145_81 (by decide) (fun h19 => ?_) (fun h19 => ?_)
            · replace hf := gneg hf h19
              refine lv_iload hx hb d_15_145_96 (lv_at hl 0 rfl) ?_
              refine lv_sipush (v := iI 240) hx hb d_15_145_98 (by decide) ?_
              refine zeq (tgt := 112) hx hb g18 (by decide) d_15_145_101 (by decide) (fun h20 => ?_) (fun h20 => ?_)
              · replace hf := gpos hf h20
                exact b_M_track0_112 X ih hf hZ15 hS15 (lv_sub hl [2, 3, 4, 6, 7] rfl)
              · replace hf := gneg hf h20
                refine lv_iload hx hb d_15_145_104 (lv_at hl 0 rfl) ?_
                refine lv_sipush (v := iI 247) hx hb d_15_145_106 (by decide) ?_
                refine zne (tgt := 152) hx hb g18 (by decide) d_15_145_109 (by decide) (fun h21 => ?_) (fun h21 => ?_)
                · replace hf := gneg hf h21
                  refine lv_iload hx hb d_15_145_152 (lv_at hl 0 rfl) ?_
                  refine lv_sipush (v := iI 240) hx hb d_15_145_154 (by decide) ?_
                  refine zge (tgt := 173) hx hb g18 (by decide) d_15_145_157 (by decide) (fun h22 => ?_) (fun h22 => ?_)
                  · replace hf := gpos hf h22
                    exact b_M_track0_173 X ih hf hZ15 hS15 (lv_sub hl [1, 2, 3, 4, 5, 6, 7] rfl)
                  · replace hf := gneg hf h22
                    refine lv_iload hx hb d_15_145_160 (lv_at hl 0 rfl) ?_
                    refine lv_sipush (v := iI 128) hx hb d_15_145_162 (by decide) ?_
                    refine zge (tgt := 183) hx hb g18 (by decide) d_15_145_165 (by decide) (fun h23 => ?_) (fun h23 => ?_)
                    · replace hf := gpos hf h23
                      exact b_M_track0_183 X ih hf hZ15 hS15 (lv_sub hl [0, 1, 2, 3, 4, 5, 6, 7] rfl)
                    · replace hf := gneg hf h23
                      refine lv_iload hx hb d_15_145_168 (lv_at hl 5 rfl) ?_
                      obtain ⟨g24, hf⟩ := gif hf
                      refine z0ne (tgt := 183) hx hb g24 d_15_145_170 (by decide) (fun h25 => ?_) (fun h25 => ?_)
                      · replace hf := gneg hf h25
                        exact b_M_track0_183 X ih hf hZ15 hS15 (lv_sub hl [0, 1, 2, 3, 4, 5, 6, 7] rfl)
                      · replace hf := gpos hf h25
                        exact b_M_track0_173 X ih hf hZ15 hS15 (lv_sub hl [1, 2, 3, 4, 5, 6, 7] rfl)
                · replace hf := gpos hf h21
                  exact b_M_track0_112 X ih hf hZ15 hS15 (lv_sub hl [2, 3, 4, 6, 7] rfl)
            · replace hf := gpos hf h19
              refine lv_aload_n hx hb d_15_145_84 rfl (lv_at hl 6 rfl) ?_
              obtain ⟨r26, F26, B26, hc26, hf⟩ := gbind hf
              refine va_calli (va_runV (As := []) (rest := []) ⟨hx, hb, hml, hown, hts⟩ (c_M_meta (l := l) hc26) (cwV 0 hts (gdV k_13_48 k_13_50 ks_160 k_1_9 k_13_51) rfl rfl rfl (by decide +kernel) ⟨Nat.le_of_ble_eq_true rfl, Nat.le_of_ble_eq_true rfl⟩) (zPV X hZ15 hS15 (ci := 14) (by decide) (by decide) (r := (RX14, TX14, 107)) rfl []) rfl rfl hl.1 rfl (lv_room (Nat.le_of_ble_eq_true rfl)) d_15_145_85 ⟨Nat.le_of_ble_eq_true rfl, Nat.le_of_ble_eq_true rfl⟩) hS15 (fun q _ h => zAin X hS15 q h) (zAin X hS15) (fun p26 u26 t26 H26 locs26 ht26 hv26 hw26 hB26 hz26 hk26 hS26 => ?_)
              have hZ26 := zBack X ht26 hB26
              subst hw26
              refine lv_istore (lv' := [(5, .int (iI r26)), (8, .int (iI r14)), (7, .int (iI (F12 14 0 89))), (2, .long (lI (l2 + r12))), (6, .int (iI l6)), (4, .int (iI l4)), (0, .ref (ad 14 0 0)), (1, .int (iI l1))]) hx hb d_15_145_88 hl (by decide) rfl (fun ls hl => ?_)
              refine lv_iconst (v := iI 0) hx hb d_15_145_90 rfl ?_
              refine lv_istore (lv' := [(4, .int (iI 0)), (5, .int (iI r26)), (8, .int (iI r14)), (7, .int (iI (F12 14 0 89))), (2, .long (lI (l2 + r12))), (6, .int (iI l6)), (0, .ref (ad 14 0 0)), (1, .int (iI l1))]) hx hb d_15_145_91 hl (by decide) rfl (fun ls hl => ?_)
              refine lv_goto (tgt := 263) hx hb d_15_145_93 (by decide) ?_
              exact b_M_track0_263 X ih hf hZ26 hS26 (lv_sub hl [0, 1, 4, 5, 6, 7] rfl)
          · replace hf := gpos hf h17
            refine lv_goto (tgt := 266) hx hb d_15_145_73 (by decide) ?_
            exact b_M_track0_266 X hf hZ15 hS15 (lv_sub hl [3, 2, 6, 7] rfl)

def f_M_track0 (K : Nat) (l1 : Int) (F : zF) (B : zB) : zO := if 0 ≤ l1 ∧ l1 < 8 then f_M_track0_21 K K (F 14 0 94) 0 0 0 l1 F (zup4 B 14 0 88 l1 (-1)) else none
set_option maxHeartbeats 4000000 in
set_option maxRecDepth 100000 in
theorem c_M_track0 {l : Launch} {D : va_G} {ca : Nat → ClassId} {ad : Nat → Int → Nat → Nat} {L : List Nat} {aS vS : Nat → Nat} {sz K : Nat} {l1 : Int} {F F9 : zF} {B B9 : zB} {r : Int} (hf : f_M_track0 K l1 F B = some (r, F9, B9)) : Met l ({ cls := "StaveHouseModel", name := "track0", desc := "(I)V" } : Jvm.MethodName) (Cond.code ({ cls := "StaveHouseModel", name := "track0", desc := "(I)V" } : Jvm.MethodName) prog_15_method_145_code 11 (Option.none : Option Jvm.ClassFile.FieldType) :: wAll) ({ frames := 4, cells := 0, slots := 0, locals := 92 } : Room) (va_Pc [.ref (ad 14 0 0), .int (iI l1)] (zPre D ca ad lnM nM L aS vS F B sz)) (Q_M_track0 D ca ad L r F9 B9 (zA L sz)) 0 0 (zA L sz) := by
  refine zMet (Qc := Q_M_track0 D ca ad L r F9 B9) (lv := [(0, .ref (ad 14 0 0)), (1, .int (iI l1))]) (by decide) (Nat.le_of_ble_eq_true rfl) rfl (fun A p e s m below meth c ls X hZ hS hl => ?_)
  obtain ⟨hx, hb, hr, hml, hown, hts, hlk, hK, hA, hL, hX⟩ := id X
  replace hf : (if 0 ≤ l1 ∧ l1 < 8 then f_M_track0_21 K K (F 14 0 94) 0 0 0 l1 F (zup4 B 14 0 88 l1 (-1)) else none) = some (r, F9, B9) := hf
  refine lv_lconst (v := lI 0) hx hb d_15_145_0 (by decide) ?_
  refine lv_lstore_n (lv' := [(2, .long (lI 0)), (0, .ref (ad 14 0 0)), (1, .int (iI l1))]) hx hb d_15_145_1 rfl hl (by decide) rfl (fun ls hl => ?_)
  refine lv_iconst (v := iI 0) hx hb d_15_145_2 rfl ?_
  refine lv_istore (lv' := [(4, .int (iI 0)), (2, .long (lI 0)), (0, .ref (ad 14 0 0)), (1, .int (iI l1))]) hx hb d_15_145_3 hl (by decide) rfl (fun ls hl => ?_)
  refine lv_iconst (v := iI 0) hx hb d_15_145_5 rfl ?_
  refine lv_istore (lv' := [(5, .int (iI 0)), (4, .int (iI 0)), (2, .long (lI 0)), (0, .ref (ad 14 0 0)), (1, .int (iI l1))]) hx hb d_15_145_6 hl (by decide) rfl (fun ls hl => ?_)
  refine lv_aload_n hx hb d_15_145_8 rfl (lv_at hl 3 rfl) ?_
  refine zget (ci := 14) (C := RX14) (T := TX14) (v := .int (iI (F 14 0 94))) (k := 94) hx hb hts inW_14 hown hK hZ (by decide) (by decide) rfl (by decide) k_11_92 rfl d_15_145_9 ?_
  refine lv_istore (lv' := [(6, .int (iI (F 14 0 94))), (5, .int (iI 0)), (4, .int (iI 0)), (2, .long (lI 0)), (0, .ref (ad 14 0 0)), (1, .int (iI l1))]) hx hb d_15_145_12 hl (by decide) rfl (fun ls hl => ?_)
  refine lv_aload_n hx hb d_15_145_14 rfl (lv_at hl 4 rfl) ?_
  refine zget (ci := 14) (C := RX14) (T := TX14) (v := .ref (ad 14 0 (88 + 1))) (k := 88) hx hb hts inW_14 hown hK hZ (by decide) (by decide) rfl (by decide) k_11_86 rfl d_15_145_15 ?_
  refine lv_iload_n hx hb d_15_145_18 rfl (lv_at hl 5 rfl) ?_
  refine lv_iconst (v := iI (-1)) hx hb d_15_145_19 rfl ?_
  obtain ⟨g1, hf⟩ := gif hf
  refine zast (ci := 14) (k := 88) hx hb hK rfl hZ hS (by decide) (by decide) rfl (Nat.le_of_ble_eq_true rfl) g1.1 g1.2 d_15_145_20 (fun H2 locs2 hZ2 hS2 => ?_)
  exact b_M_track0_21 X hf hZ2 hS2 (lv_sub hl [0, 1, 2, 3, 4, 5] rfl)

