theorem k_11_10 : (Jvm.Cond.fieldLink "StaveHouseModel" (333 : Nat) "StaveHouseModel" "tokens" "I") ∈ wAll := wA_11 (j := 10) rfl rfl
theorem k_11_1 : (Jvm.Cond.fieldLink "StaveHouseModel" (296 : Nat) "StaveHouseModel" "size" "I") ∈ wAll := wA_11 (j := 1) rfl rfl
theorem k_14_86 : (Jvm.Cond.code ({ cls := "StaveHouseModel", name := "cut", desc := "()V" } : Jvm.MethodName) prog_15_method_25_code (3 : Nat) (Option.none : Option Jvm.ClassFile.FieldType)) ∈ wAll := wA_14 (j := 86) rfl rfl
theorem k_14_83 : (Jvm.Cond.methodLink "StaveHouseModel" (1299 : Nat) ({ cls := "StaveHouseModel", name := "cut", desc := "()V" } : Jvm.MethodName)) ∈ wAll := wA_14 (j := 83) rfl rfl
theorem k_14_85 : (Jvm.Cond.instanceMethod ({ cls := "StaveHouseModel", name := "cut", desc := "()V" } : Jvm.MethodName)) ∈ wAll := wA_14 (j := 85) rfl rfl
theorem ks_196 : (Jvm.Cond.selects "StaveHouseModel" ({ cls := "StaveHouseModel", name := "cut", desc := "()V" } : Jvm.MethodName) ({ cls := "StaveHouseModel", name := "cut", desc := "()V" } : Jvm.MethodName)) ∈ wAll := wA_s (j := 196) rfl rfl
theorem k_11_14 : (Jvm.Cond.fieldLink "StaveHouseModel" (362 : Nat) "StaveHouseModel" "t" "I") ∈ wAll := wA_11 (j := 14) rfl rfl
theorem k_11_15 : (Jvm.Cond.fieldLink "StaveHouseModel" (356 : Nat) "StaveHouseModel" "fault" "I") ∈ wAll := wA_11 (j := 15) rfl rfl
theorem k_11_17 : (Jvm.Cond.fieldLink "StaveHouseModel" (386 : Nat) "StaveHouseModel" "openMany" "I") ∈ wAll := wA_11 (j := 17) rfl rfl
theorem k_11_25 : (Jvm.Cond.fieldLink "StaveHouseModel" (392 : Nat) "StaveHouseModel" "lets" "I") ∈ wAll := wA_11 (j := 25) rfl rfl
theorem k_11_20 : (Jvm.Cond.fieldLink "StaveHouseModel" (395 : Nat) "StaveHouseModel" "hadKey" "Z") ∈ wAll := wA_11 (j := 20) rfl rfl
theorem k_11_21 : (Jvm.Cond.fieldLink "StaveHouseModel" (398 : Nat) "StaveHouseModel" "hadTime" "Z") ∈ wAll := wA_11 (j := 21) rfl rfl
theorem k_11_22 : (Jvm.Cond.fieldLink "StaveHouseModel" (401 : Nat) "StaveHouseModel" "hadTempo" "Z") ∈ wAll := wA_11 (j := 22) rfl rfl
theorem k_9_126 : (Jvm.Cond.fieldLink "StaveHouseModel" (304 : Nat) "StaveHouseModel$Piece" "voices" "I") ∈ wAll := wA_9 (j := 126) rfl rfl
theorem k_9_127 : (Jvm.Cond.fieldLink "StaveHouseModel" (310 : Nat) "StaveHouseModel$Piece" "fifths" "I") ∈ wAll := wA_9 (j := 127) rfl rfl
theorem k_9_128 : (Jvm.Cond.fieldLink "StaveHouseModel" (313 : Nat) "StaveHouseModel$Piece" "minor" "Z") ∈ wAll := wA_9 (j := 128) rfl rfl
theorem k_9_129 : (Jvm.Cond.fieldLink "StaveHouseModel" (404 : Nat) "StaveHouseModel$Piece" "n" "I") ∈ wAll := wA_9 (j := 129) rfl rfl
theorem k_9_130 : (Jvm.Cond.fieldLink "StaveHouseModel" (407 : Nat) "StaveHouseModel$Piece" "d" "I") ∈ wAll := wA_9 (j := 130) rfl rfl
theorem k_9_131 : (Jvm.Cond.fieldLink "StaveHouseModel" (410 : Nat) "StaveHouseModel$Piece" "tempo" "I") ∈ wAll := wA_9 (j := 131) rfl rfl
theorem k_13_18 : (Jvm.Cond.code ({ cls := "StaveHouseModel", name := "good", desc := "()Z" } : Jvm.MethodName) prog_15_method_28_code (1 : Nat) (Option.some Jvm.ClassFile.FieldType.boolean)) ∈ wAll := wA_13 (j := 18) rfl rfl
theorem k_13_15 : (Jvm.Cond.methodLink "StaveHouseModel" (376 : Nat) ({ cls := "StaveHouseModel", name := "good", desc := "()Z" } : Jvm.MethodName)) ∈ wAll := wA_13 (j := 15) rfl rfl
theorem k_13_17 : (Jvm.Cond.instanceMethod ({ cls := "StaveHouseModel", name := "good", desc := "()Z" } : Jvm.MethodName)) ∈ wAll := wA_13 (j := 17) rfl rfl
theorem ks_152 : (Jvm.Cond.selects "StaveHouseModel" ({ cls := "StaveHouseModel", name := "good", desc := "()Z" } : Jvm.MethodName) ({ cls := "StaveHouseModel", name := "good", desc := "()Z" } : Jvm.MethodName)) ∈ wAll := wA_s (j := 152) rfl rfl
theorem k_14_115 : (Jvm.Cond.code ({ cls := "StaveHouseModel", name := "isWord", desc := "(J)Z" } : Jvm.MethodName) prog_15_method_33_code (3 : Nat) (Option.some Jvm.ClassFile.FieldType.boolean)) ∈ wAll := wA_14 (j := 115) rfl rfl
theorem k_14_112 : (Jvm.Cond.methodLink "StaveHouseModel" (413 : Nat) ({ cls := "StaveHouseModel", name := "isWord", desc := "(J)Z" } : Jvm.MethodName)) ∈ wAll := wA_14 (j := 112) rfl rfl
theorem k_14_114 : (Jvm.Cond.instanceMethod ({ cls := "StaveHouseModel", name := "isWord", desc := "(J)Z" } : Jvm.MethodName)) ∈ wAll := wA_14 (j := 114) rfl rfl
theorem ks_200 : (Jvm.Cond.selects "StaveHouseModel" ({ cls := "StaveHouseModel", name := "isWord", desc := "(J)Z" } : Jvm.MethodName) ({ cls := "StaveHouseModel", name := "isWord", desc := "(J)Z" } : Jvm.MethodName)) ∈ wAll := wA_s (j := 200) rfl rfl
theorem k_11_16 : (Jvm.Cond.fieldLink "StaveHouseModel" (359 : Nat) "StaveHouseModel" "place" "I") ∈ wAll := wA_11 (j := 16) rfl rfl
theorem k_14_135 : (Jvm.Cond.code ({ cls := "StaveHouseModel", name := "failAt", desc := "(II)V" } : Jvm.MethodName) prog_15_method_29_code (3 : Nat) (Option.none : Option Jvm.ClassFile.FieldType)) ∈ wAll := wA_14 (j := 135) rfl rfl
theorem k_14_132 : (Jvm.Cond.methodLink "StaveHouseModel" (365 : Nat) ({ cls := "StaveHouseModel", name := "failAt", desc := "(II)V" } : Jvm.MethodName)) ∈ wAll := wA_14 (j := 132) rfl rfl
theorem k_14_134 : (Jvm.Cond.instanceMethod ({ cls := "StaveHouseModel", name := "failAt", desc := "(II)V" } : Jvm.MethodName)) ∈ wAll := wA_14 (j := 134) rfl rfl
theorem ks_205 : (Jvm.Cond.selects "StaveHouseModel" ({ cls := "StaveHouseModel", name := "failAt", desc := "(II)V" } : Jvm.MethodName) ({ cls := "StaveHouseModel", name := "failAt", desc := "(II)V" } : Jvm.MethodName)) ∈ wAll := wA_s (j := 205) rfl rfl
theorem k_14_131 : (Jvm.Cond.code ({ cls := "StaveHouseModel", name := "fail", desc := "(I)V" } : Jvm.MethodName) prog_15_method_30_code (2 : Nat) (Option.none : Option Jvm.ClassFile.FieldType)) ∈ wAll := wA_14 (j := 131) rfl rfl
theorem k_14_128 : (Jvm.Cond.methodLink "StaveHouseModel" (368 : Nat) ({ cls := "StaveHouseModel", name := "fail", desc := "(I)V" } : Jvm.MethodName)) ∈ wAll := wA_14 (j := 128) rfl rfl
theorem k_14_130 : (Jvm.Cond.instanceMethod ({ cls := "StaveHouseModel", name := "fail", desc := "(I)V" } : Jvm.MethodName)) ∈ wAll := wA_14 (j := 130) rfl rfl
theorem ks_204 : (Jvm.Cond.selects "StaveHouseModel" ({ cls := "StaveHouseModel", name := "fail", desc := "(I)V" } : Jvm.MethodName) ({ cls := "StaveHouseModel", name := "fail", desc := "(I)V" } : Jvm.MethodName)) ∈ wAll := wA_s (j := 204) rfl rfl
theorem k_14_127 : (Jvm.Cond.code ({ cls := "StaveHouseModel", name := "wrong", desc := "()V" } : Jvm.MethodName) prog_15_method_31_code (1 : Nat) (Option.none : Option Jvm.ClassFile.FieldType)) ∈ wAll := wA_14 (j := 127) rfl rfl
theorem k_14_124 : (Jvm.Cond.methodLink "StaveHouseModel" (383 : Nat) ({ cls := "StaveHouseModel", name := "wrong", desc := "()V" } : Jvm.MethodName)) ∈ wAll := wA_14 (j := 124) rfl rfl
theorem k_14_126 : (Jvm.Cond.instanceMethod ({ cls := "StaveHouseModel", name := "wrong", desc := "()V" } : Jvm.MethodName)) ∈ wAll := wA_14 (j := 126) rfl rfl
theorem ks_203 : (Jvm.Cond.selects "StaveHouseModel" ({ cls := "StaveHouseModel", name := "wrong", desc := "()V" } : Jvm.MethodName) ({ cls := "StaveHouseModel", name := "wrong", desc := "()V" } : Jvm.MethodName)) ∈ wAll := wA_s (j := 203) rfl rfl
theorem k_14_111 : (Jvm.Cond.code ({ cls := "StaveHouseModel", name := "text", desc := "()V" } : Jvm.MethodName) prog_15_method_40_code (2 : Nat) (Option.none : Option Jvm.ClassFile.FieldType)) ∈ wAll := wA_14 (j := 111) rfl rfl
theorem k_14_108 : (Jvm.Cond.methodLink "StaveHouseModel" (1302 : Nat) ({ cls := "StaveHouseModel", name := "text", desc := "()V" } : Jvm.MethodName)) ∈ wAll := wA_14 (j := 108) rfl rfl
theorem k_14_110 : (Jvm.Cond.instanceMethod ({ cls := "StaveHouseModel", name := "text", desc := "()V" } : Jvm.MethodName)) ∈ wAll := wA_14 (j := 110) rfl rfl
theorem ks_199 : (Jvm.Cond.selects "StaveHouseModel" ({ cls := "StaveHouseModel", name := "text", desc := "()V" } : Jvm.MethodName) ({ cls := "StaveHouseModel", name := "text", desc := "()V" } : Jvm.MethodName)) ∈ wAll := wA_s (j := 199) rfl rfl
theorem d_15_202_0 : decode prog_15_method_202_code 0 = .ok (.iload_n 1, 1) := by decide +kernel
theorem d_15_202_1 : decode prog_15_method_202_code 1 = .ok (.ifCond .lt 8, 3) := by decide +kernel
theorem d_15_202_9 : decode prog_15_method_202_code 9 = .ok (.iconst (-1), 1) := by decide +kernel
theorem d_15_202_10 : decode prog_15_method_202_code 10 = .ok (.ireturn, 1) := by decide +kernel
theorem d_15_202_4 : decode prog_15_method_202_code 4 = .ok (.iload_n 1, 1) := by decide +kernel
theorem d_15_202_5 : decode prog_15_method_202_code 5 = .ok (.iconst 1, 1) := by decide +kernel
theorem d_15_202_6 : decode prog_15_method_202_code 6 = .ok (.if_icmp .le 5, 3) := by decide +kernel
theorem d_15_202_11 : decode prog_15_method_202_code 11 = .ok (.aload_n 0, 1) := by decide +kernel
theorem d_15_202_12 : decode prog_15_method_202_code 12 = .ok (.invokevirtual 1299, 3) := by decide +kernel
theorem d_15_25_0 : decode prog_15_method_25_code 0 = .ok (.aload_n 0, 1) := by decide +kernel
theorem d_15_25_1 : decode prog_15_method_25_code 1 = .ok (.iconst 0, 1) := by decide +kernel
theorem d_15_25_2 : decode prog_15_method_25_code 2 = .ok (.putfield 333, 3) := by decide +kernel
theorem d_15_25_5 : decode prog_15_method_25_code 5 = .ok (.iconst 0, 1) := by decide +kernel
theorem d_15_25_6 : decode prog_15_method_25_code 6 = .ok (.istore_n 1, 1) := by decide +kernel
theorem d_15_25_7 : decode prog_15_method_25_code 7 = .ok (.iload_n 1, 1) := by decide +kernel
theorem d_15_25_8 : decode prog_15_method_25_code 8 = .ok (.aload_n 0, 1) := by decide +kernel
theorem d_15_25_9 : decode prog_15_method_25_code 9 = .ok (.getfield 296, 3) := by decide +kernel
theorem d_15_25_12 : decode prog_15_method_25_code 12 = .ok (.if_icmp .ge 125, 3) := by decide +kernel
theorem d_15_25_137 : decode prog_15_method_25_code 137 = .ok (.aload_n 0, 1) := by decide +kernel
theorem d_15_25_138 : decode prog_15_method_25_code 138 = .ok (.getfield 48, 3) := by decide +kernel
theorem d_15_25_141 : decode prog_15_method_25_code 141 = .ok (.aload_n 0, 1) := by decide +kernel
theorem d_15_25_142 : decode prog_15_method_25_code 142 = .ok (.getfield 333, 3) := by decide +kernel
theorem d_15_25_145 : decode prog_15_method_25_code 145 = .ok (.iconst 0, 1) := by decide +kernel
theorem d_15_25_146 : decode prog_15_method_25_code 146 = .ok (.iastore, 1) := by decide +kernel
theorem d_15_25_147 : decode prog_15_method_25_code 147 = .ok (.aload_n 0, 1) := by decide +kernel
theorem d_15_25_148 : decode prog_15_method_25_code 148 = .ok (.getfield 52, 3) := by decide +kernel
theorem d_15_25_151 : decode prog_15_method_25_code 151 = .ok (.aload_n 0, 1) := by decide +kernel
theorem d_15_25_152 : decode prog_15_method_25_code 152 = .ok (.getfield 333, 3) := by decide +kernel
theorem d_15_25_155 : decode prog_15_method_25_code 155 = .ok (.aload_n 0, 1) := by decide +kernel
theorem d_15_25_156 : decode prog_15_method_25_code 156 = .ok (.getfield 296, 3) := by decide +kernel
theorem d_15_25_159 : decode prog_15_method_25_code 159 = .ok (.iastore, 1) := by decide +kernel
theorem d_15_25_160 : decode prog_15_method_25_code 160 = .ok (.return_, 1) := by decide +kernel
theorem d_15_202_15 : decode prog_15_method_202_code 15 = .ok (.aload_n 0, 1) := by decide +kernel
theorem d_15_202_16 : decode prog_15_method_202_code 16 = .ok (.iconst 0, 1) := by decide +kernel
theorem d_15_202_17 : decode prog_15_method_202_code 17 = .ok (.putfield 296, 3) := by decide +kernel
theorem d_15_202_20 : decode prog_15_method_202_code 20 = .ok (.aload_n 0, 1) := by decide +kernel
theorem d_15_202_21 : decode prog_15_method_202_code 21 = .ok (.invokevirtual 1302, 3) := by decide +kernel
theorem d_15_40_0 : decode prog_15_method_40_code 0 = .ok (.aload_n 0, 1) := by decide +kernel
theorem d_15_40_1 : decode prog_15_method_40_code 1 = .ok (.iconst 0, 1) := by decide +kernel
theorem d_15_40_2 : decode prog_15_method_40_code 2 = .ok (.putfield 362, 3) := by decide +kernel
theorem d_15_40_5 : decode prog_15_method_40_code 5 = .ok (.aload_n 0, 1) := by decide +kernel
theorem d_15_40_6 : decode prog_15_method_40_code 6 = .ok (.iconst 0, 1) := by decide +kernel
theorem d_15_40_7 : decode prog_15_method_40_code 7 = .ok (.putfield 356, 3) := by decide +kernel
theorem d_15_40_10 : decode prog_15_method_40_code 10 = .ok (.aload_n 0, 1) := by decide +kernel
theorem d_15_40_11 : decode prog_15_method_40_code 11 = .ok (.iconst 0, 1) := by decide +kernel
theorem d_15_40_12 : decode prog_15_method_40_code 12 = .ok (.putfield 386, 3) := by decide +kernel
theorem d_15_40_15 : decode prog_15_method_40_code 15 = .ok (.aload_n 0, 1) := by decide +kernel
theorem d_15_40_16 : decode prog_15_method_40_code 16 = .ok (.iconst 0, 1) := by decide +kernel
theorem d_15_40_17 : decode prog_15_method_40_code 17 = .ok (.putfield 392, 3) := by decide +kernel
theorem d_15_40_20 : decode prog_15_method_40_code 20 = .ok (.aload_n 0, 1) := by decide +kernel
theorem d_15_40_21 : decode prog_15_method_40_code 21 = .ok (.iconst 0, 1) := by decide +kernel
theorem d_15_40_22 : decode prog_15_method_40_code 22 = .ok (.putfield 395, 3) := by decide +kernel
theorem d_15_40_25 : decode prog_15_method_40_code 25 = .ok (.aload_n 0, 1) := by decide +kernel
theorem d_15_40_26 : decode prog_15_method_40_code 26 = .ok (.iconst 0, 1) := by decide +kernel
theorem d_15_40_27 : decode prog_15_method_40_code 27 = .ok (.putfield 398, 3) := by decide +kernel
theorem d_15_40_30 : decode prog_15_method_40_code 30 = .ok (.aload_n 0, 1) := by decide +kernel
theorem d_15_40_31 : decode prog_15_method_40_code 31 = .ok (.iconst 0, 1) := by decide +kernel
theorem d_15_40_32 : decode prog_15_method_40_code 32 = .ok (.putfield 401, 3) := by decide +kernel
theorem d_15_40_35 : decode prog_15_method_40_code 35 = .ok (.aload_n 0, 1) := by decide +kernel
theorem d_15_40_36 : decode prog_15_method_40_code 36 = .ok (.getfield 44, 3) := by decide +kernel
theorem d_15_40_39 : decode prog_15_method_40_code 39 = .ok (.iconst 0, 1) := by decide +kernel
theorem d_15_40_40 : decode prog_15_method_40_code 40 = .ok (.putfield 304, 3) := by decide +kernel
theorem d_15_40_43 : decode prog_15_method_40_code 43 = .ok (.aload_n 0, 1) := by decide +kernel
theorem d_15_40_44 : decode prog_15_method_40_code 44 = .ok (.getfield 44, 3) := by decide +kernel
theorem d_15_40_47 : decode prog_15_method_40_code 47 = .ok (.iconst 0, 1) := by decide +kernel
theorem d_15_40_48 : decode prog_15_method_40_code 48 = .ok (.putfield 310, 3) := by decide +kernel
theorem d_15_40_51 : decode prog_15_method_40_code 51 = .ok (.aload_n 0, 1) := by decide +kernel
theorem d_15_40_52 : decode prog_15_method_40_code 52 = .ok (.getfield 44, 3) := by decide +kernel
theorem d_15_40_55 : decode prog_15_method_40_code 55 = .ok (.iconst 0, 1) := by decide +kernel
theorem d_15_40_56 : decode prog_15_method_40_code 56 = .ok (.putfield 313, 3) := by decide +kernel
theorem d_15_40_59 : decode prog_15_method_40_code 59 = .ok (.aload_n 0, 1) := by decide +kernel
theorem d_15_40_60 : decode prog_15_method_40_code 60 = .ok (.getfield 44, 3) := by decide +kernel
theorem d_15_40_63 : decode prog_15_method_40_code 63 = .ok (.iconst 4, 1) := by decide +kernel
theorem d_15_40_64 : decode prog_15_method_40_code 64 = .ok (.putfield 404, 3) := by decide +kernel
theorem d_15_40_67 : decode prog_15_method_40_code 67 = .ok (.aload_n 0, 1) := by decide +kernel
theorem d_15_40_68 : decode prog_15_method_40_code 68 = .ok (.getfield 44, 3) := by decide +kernel
theorem d_15_40_71 : decode prog_15_method_40_code 71 = .ok (.iconst 4, 1) := by decide +kernel
theorem d_15_40_72 : decode prog_15_method_40_code 72 = .ok (.putfield 407, 3) := by decide +kernel
theorem d_15_40_75 : decode prog_15_method_40_code 75 = .ok (.aload_n 0, 1) := by decide +kernel
theorem d_15_40_76 : decode prog_15_method_40_code 76 = .ok (.getfield 44, 3) := by decide +kernel
theorem d_15_40_79 : decode prog_15_method_40_code 79 = .ok (.bipush 120, 2) := by decide +kernel
theorem d_15_40_81 : decode prog_15_method_40_code 81 = .ok (.putfield 410, 3) := by decide +kernel
theorem d_15_40_84 : decode prog_15_method_40_code 84 = .ok (.aload_n 0, 1) := by decide +kernel
theorem d_15_40_85 : decode prog_15_method_40_code 85 = .ok (.invokevirtual 376, 3) := by decide +kernel
theorem d_15_28_0 : decode prog_15_method_28_code 0 = .ok (.aload_n 0, 1) := by decide +kernel
theorem d_15_28_1 : decode prog_15_method_28_code 1 = .ok (.getfield 356, 3) := by decide +kernel
theorem d_15_28_4 : decode prog_15_method_28_code 4 = .ok (.ifCond .ne 7, 3) := by decide +kernel
theorem d_15_28_7 : decode prog_15_method_28_code 7 = .ok (.iconst 1, 1) := by decide +kernel
theorem d_15_28_8 : decode prog_15_method_28_code 8 = .ok (.goto 4, 3) := by decide +kernel
theorem d_15_28_12 : decode prog_15_method_28_code 12 = .ok (.ireturn, 1) := by decide +kernel
theorem d_15_40_88 : decode prog_15_method_40_code 88 = .ok (.ifCond .eq 50, 3) := by decide +kernel
theorem d_15_40_91 : decode prog_15_method_40_code 91 = .ok (.aload_n 0, 1) := by decide +kernel
theorem d_15_40_92 : decode prog_15_method_40_code 92 = .ok (.getstatic 99, 3) := by decide +kernel
theorem d_15_40_95 : decode prog_15_method_40_code 95 = .ok (.invokevirtual 413, 3) := by decide +kernel
theorem d_15_33_0 : decode prog_15_method_33_code 0 = .ok (.aload_n 0, 1) := by decide +kernel
theorem d_15_33_1 : decode prog_15_method_33_code 1 = .ok (.getfield 48, 3) := by decide +kernel
theorem d_15_33_4 : decode prog_15_method_33_code 4 = .ok (.aload_n 0, 1) := by decide +kernel
theorem d_15_33_5 : decode prog_15_method_33_code 5 = .ok (.getfield 362, 3) := by decide +kernel
theorem d_15_33_8 : decode prog_15_method_33_code 8 = .ok (.iaload, 1) := by decide +kernel
theorem d_15_33_9 : decode prog_15_method_33_code 9 = .ok (.iconst 4, 1) := by decide +kernel
theorem d_15_33_10 : decode prog_15_method_33_code 10 = .ok (.if_icmp .ne 21, 3) := by decide +kernel
theorem d_15_33_31 : decode prog_15_method_33_code 31 = .ok (.iconst 0, 1) := by decide +kernel
theorem d_15_33_32 : decode prog_15_method_33_code 32 = .ok (.ireturn, 1) := by decide +kernel
theorem d_15_40_98 : decode prog_15_method_40_code 98 = .ok (.ifCond .ne 33, 3) := by decide +kernel
theorem d_15_40_101 : decode prog_15_method_40_code 101 = .ok (.aload_n 0, 1) := by decide +kernel
theorem d_15_40_102 : decode prog_15_method_40_code 102 = .ok (.getstatic 108, 3) := by decide +kernel
theorem d_15_40_105 : decode prog_15_method_40_code 105 = .ok (.invokevirtual 413, 3) := by decide +kernel
theorem d_15_40_108 : decode prog_15_method_40_code 108 = .ok (.ifCond .ne 23, 3) := by decide +kernel
theorem d_15_40_111 : decode prog_15_method_40_code 111 = .ok (.aload_n 0, 1) := by decide +kernel
theorem d_15_40_112 : decode prog_15_method_40_code 112 = .ok (.getstatic 111, 3) := by decide +kernel
theorem d_15_40_115 : decode prog_15_method_40_code 115 = .ok (.invokevirtual 413, 3) := by decide +kernel
theorem d_15_40_118 : decode prog_15_method_40_code 118 = .ok (.ifCond .ne 13, 3) := by decide +kernel
theorem d_15_40_121 : decode prog_15_method_40_code 121 = .ok (.aload_n 0, 1) := by decide +kernel
theorem d_15_40_122 : decode prog_15_method_40_code 122 = .ok (.getstatic 114, 3) := by decide +kernel
theorem d_15_40_125 : decode prog_15_method_40_code 125 = .ok (.invokevirtual 413, 3) := by decide +kernel
theorem d_15_40_128 : decode prog_15_method_40_code 128 = .ok (.ifCond .eq 10, 3) := by decide +kernel
theorem d_15_40_138 : decode prog_15_method_40_code 138 = .ok (.iconst 1, 1) := by decide +kernel
theorem d_15_40_139 : decode prog_15_method_40_code 139 = .ok (.istore_n 1, 1) := by decide +kernel
theorem d_15_40_140 : decode prog_15_method_40_code 140 = .ok (.aload_n 0, 1) := by decide +kernel
theorem d_15_40_141 : decode prog_15_method_40_code 141 = .ok (.invokevirtual 376, 3) := by decide +kernel
theorem d_15_40_144 : decode prog_15_method_40_code 144 = .ok (.ifCond .eq 67, 3) := by decide +kernel
theorem d_15_40_147 : decode prog_15_method_40_code 147 = .ok (.iload_n 1, 1) := by decide +kernel
theorem d_15_40_148 : decode prog_15_method_40_code 148 = .ok (.ifCond .eq 63, 3) := by decide +kernel
theorem d_15_40_151 : decode prog_15_method_40_code 151 = .ok (.aload_n 0, 1) := by decide +kernel
theorem d_15_40_152 : decode prog_15_method_40_code 152 = .ok (.getstatic 117, 3) := by decide +kernel
theorem d_15_40_155 : decode prog_15_method_40_code 155 = .ok (.invokevirtual 413, 3) := by decide +kernel
theorem d_15_40_158 : decode prog_15_method_40_code 158 = .ok (.ifCond .eq 21, 3) := by decide +kernel
theorem d_15_40_179 : decode prog_15_method_40_code 179 = .ok (.aload_n 0, 1) := by decide +kernel
theorem d_15_40_180 : decode prog_15_method_40_code 180 = .ok (.invokevirtual 383, 3) := by decide +kernel
theorem d_15_31_0 : decode prog_15_method_31_code 0 = .ok (.aload_n 0, 1) := by decide +kernel
theorem d_15_31_1 : decode prog_15_method_31_code 1 = .ok (.aload_n 0, 1) := by decide +kernel
theorem d_15_31_2 : decode prog_15_method_31_code 2 = .ok (.getfield 48, 3) := by decide +kernel
theorem d_15_31_5 : decode prog_15_method_31_code 5 = .ok (.aload_n 0, 1) := by decide +kernel
theorem d_15_31_6 : decode prog_15_method_31_code 6 = .ok (.getfield 362, 3) := by decide +kernel
theorem d_15_31_9 : decode prog_15_method_31_code 9 = .ok (.iaload, 1) := by decide +kernel
theorem d_15_31_10 : decode prog_15_method_31_code 10 = .ok (.iconst 1, 1) := by decide +kernel
theorem d_15_31_11 : decode prog_15_method_31_code 11 = .ok (.if_icmp .ne 7, 3) := by decide +kernel
theorem d_15_31_18 : decode prog_15_method_31_code 18 = .ok (.iconst 2, 1) := by decide +kernel
theorem d_15_31_19 : decode prog_15_method_31_code 19 = .ok (.invokevirtual 368, 3) := by decide +kernel
theorem d_15_30_0 : decode prog_15_method_30_code 0 = .ok (.aload_n 0, 1) := by decide +kernel
theorem d_15_30_1 : decode prog_15_method_30_code 1 = .ok (.iload_n 1, 1) := by decide +kernel
theorem d_15_30_2 : decode prog_15_method_30_code 2 = .ok (.aload_n 0, 1) := by decide +kernel
theorem d_15_30_3 : decode prog_15_method_30_code 3 = .ok (.getfield 362, 3) := by decide +kernel
theorem d_15_30_6 : decode prog_15_method_30_code 6 = .ok (.invokevirtual 365, 3) := by decide +kernel
theorem d_15_29_0 : decode prog_15_method_29_code 0 = .ok (.aload_n 0, 1) := by decide +kernel
theorem d_15_29_1 : decode prog_15_method_29_code 1 = .ok (.getfield 356, 3) := by decide +kernel
theorem d_15_29_4 : decode prog_15_method_29_code 4 = .ok (.ifCond .le 4, 3) := by decide +kernel
theorem d_15_29_8 : decode prog_15_method_29_code 8 = .ok (.aload_n 0, 1) := by decide +kernel
theorem d_15_29_9 : decode prog_15_method_29_code 9 = .ok (.iload_n 1, 1) := by decide +kernel
theorem d_15_29_10 : decode prog_15_method_29_code 10 = .ok (.putfield 356, 3) := by decide +kernel
theorem d_15_29_13 : decode prog_15_method_29_code 13 = .ok (.aload_n 0, 1) := by decide +kernel
theorem d_15_29_14 : decode prog_15_method_29_code 14 = .ok (.aload_n 0, 1) := by decide +kernel
theorem d_15_29_15 : decode prog_15_method_29_code 15 = .ok (.getfield 52, 3) := by decide +kernel
theorem d_15_29_18 : decode prog_15_method_29_code 18 = .ok (.iload_n 2, 1) := by decide +kernel
theorem d_15_29_19 : decode prog_15_method_29_code 19 = .ok (.iaload, 1) := by decide +kernel
theorem d_15_29_20 : decode prog_15_method_29_code 20 = .ok (.putfield 359, 3) := by decide +kernel
theorem d_15_29_23 : decode prog_15_method_29_code 23 = .ok (.return_, 1) := by decide +kernel
theorem d_15_30_9 : decode prog_15_method_30_code 9 = .ok (.return_, 1) := by decide +kernel
theorem d_15_31_22 : decode prog_15_method_31_code 22 = .ok (.return_, 1) := by decide +kernel
theorem d_15_40_183 : decode prog_15_method_40_code 183 = .ok (.aload_n 0, 1) := by decide +kernel
theorem d_15_40_184 : decode prog_15_method_40_code 184 = .ok (.invokevirtual 376, 3) := by decide +kernel
theorem d_15_28_11 : decode prog_15_method_28_code 11 = .ok (.iconst 0, 1) := by decide +kernel
theorem d_15_40_187 : decode prog_15_method_40_code 187 = .ok (.ifCond .eq 19, 3) := by decide +kernel
theorem d_15_40_206 : decode prog_15_method_40_code 206 = .ok (.iconst 0, 1) := by decide +kernel
theorem d_15_40_207 : decode prog_15_method_40_code 207 = .ok (.istore_n 1, 1) := by decide +kernel
theorem d_15_40_208 : decode prog_15_method_40_code 208 = .ok (.goto (-68), 3) := by decide +kernel
theorem d_15_40_211 : decode prog_15_method_40_code 211 = .ok (.return_, 1) := by decide +kernel
theorem d_15_202_24 : decode prog_15_method_202_code 24 = .ok (.aload_n 0, 1) := by decide +kernel
theorem d_15_202_25 : decode prog_15_method_202_code 25 = .ok (.invokevirtual 376, 3) := by decide +kernel
theorem d_15_202_28 : decode prog_15_method_202_code 28 = .ok (.ifCond .eq 7, 3) := by decide +kernel
theorem d_15_202_35 : decode prog_15_method_202_code 35 = .ok (.aload_n 0, 1) := by decide +kernel
theorem d_15_202_36 : decode prog_15_method_202_code 36 = .ok (.invokevirtual 376, 3) := by decide +kernel
theorem d_15_202_39 : decode prog_15_method_202_code 39 = .ok (.ifCond .ne 16, 3) := by decide +kernel
theorem d_15_202_42 : decode prog_15_method_202_code 42 = .ok (.aload_n 0, 1) := by decide +kernel
theorem d_15_202_43 : decode prog_15_method_202_code 43 = .ok (.getfield 356, 3) := by decide +kernel
theorem d_15_202_46 : decode prog_15_method_202_code 46 = .ok (.bipush 16, 2) := by decide +kernel
theorem d_15_202_48 : decode prog_15_method_202_code 48 = .ok (.aload_n 0, 1) := by decide +kernel
theorem d_15_202_49 : decode prog_15_method_202_code 49 = .ok (.getfield 359, 3) := by decide +kernel
theorem d_15_202_52 : decode prog_15_method_202_code 52 = .ok (.imul, 1) := by decide +kernel
theorem d_15_202_53 : decode prog_15_method_202_code 53 = .ok (.iadd, 1) := by decide +kernel
theorem d_15_202_54 : decode prog_15_method_202_code 54 = .ok (.ireturn, 1) := by decide +kernel
abbrev Q_M_cut_0 (D : va_G) (ca : Nat → ClassId) (a0 : Nat) (a2 : Nat) (a3 : Nat) (g0 : Nat → Value) (g2 : Nat → Int32) (g3 : Nat → Int32) (A : Nat → Prop) : Array Value → State → Outcome → State → Prop := va_Qv (S := (Nat → Value) × (Nat → Int32) × (Nat → Int32)) (fun (u : (Nat → Value) × (Nat → Int32) × (Nat → Int32)) => gM g0 u.1 [12] ∧ gF u.1 [(12, .int 0)] ∧ gF u.2.1 [(0, 0)] ∧ gF u.2.2 [(0, 0)]) (fun u => gB D ca A [(a0, .inr (14, rg 107 u.1)), (a2, .inl (ca 0, 3001, .inl u.2.1)), (a3, .inl (ca 0, 3001, .inl u.2.2))]) A
set_option maxHeartbeats 8000000 in
set_option maxRecDepth 100000 in
theorem c_M_cut_0 (l : Launch) (D : va_G) (ca : Nat → ClassId) (ad av : Nat → Nat) (sz : Nat) (a0 : Nat) (a2 : Nat) (a3 : Nat) (g0 : Nat → Value) (g2 : Nat → Int32) (g3 : Nat → Int32) (hp0 : gF g0 [(8, .ref a2), (7, .ref a3), (3, .int 0)]) (hp2 : gF g2 []) (hp3 : gF g3 []) : Met l ({ cls := "StaveHouseModel", name := "cut", desc := "()V" } : Jvm.MethodName) (Cond.code ({ cls := "StaveHouseModel", name := "cut", desc := "()V" } : Jvm.MethodName) prog_15_method_25_code 3 (Option.none : Option Jvm.ClassFile.FieldType) :: wAll) ({ frames := 0, cells := 0, slots := 0, locals := 0 } : Room) (va_Pc [.ref a0] (gPre D ca ad av [(a0, .inr (14, rg 107 g0)), (a2, .inl (ca 0, 3001, .inl g2)), (a3, .inl (ca 0, 3001, .inl g3))] sz)) (Q_M_cut_0 D ca a0 a2 a3 g0 g2 g3 (va_A [(a0, .inr (14, rg 107 g0)), (a2, .inl (ca 0, 3001, .inl g2)), (a3, .inl (ca 0, 3001, .inl g3))] sz)) 0 0 (va_A [(a0, .inr (14, rg 107 g0)), (a2, .inl (ca 0, 3001, .inl g2)), (a3, .inl (ca 0, 3001, .inl g3))] sz) := by
  refine gMet (Qc := Q_M_cut_0 D ca a0 a2 a3 g0 g2 g3) (lv := [(0, .ref a0)]) (by decide) (Nat.le_of_ble_eq_true rfl) rfl (fun A p e s m below meth c ls hx hb hr hml hown hts hlk hnm hl hP hK hD hS hA hX => ?_)
  have hown : s.vm.findClass "StaveHouseModel" = some m.cls := hown
  have hnm : meth.name = "cut" := hnm
  refine lv_aload_n hx hb d_15_25_0 rfl (lv_at hl 0 rfl) ?_
  refine lv_iconst (v := 0) hx hb d_15_25_1 (by decide) ?_
  refine gput hx hb hts inW_14 tyX14 tyX14_ok nmX14 hown hK hP hD hS 0 rfl rfl hp0 12 (by decide) k_11_10 rfl rfl rfl d_15_25_2 (L' := [(12, .int 0), (8, .ref a2), (7, .ref a3), (3, .int 0)]) rfl (fun f1 H1 locs1 hF1 hm1 hP1 hD1 hS1 => ?_)
  have hM1 := gM.tr (gM.rf (f := g0)) hm1
  have hP1 : va_P D cls [(a0, .inr (14, rg 107 f1)), (a2, .inl (ca 0, 3001, .inl g2)), (a3, .inl (ca 0, 3001, .inl g3))] H1 := hP1
  have hD1 : va_D A [(a0, .inr (14, rg 107 f1)), (a2, .inl (ca 0, 3001, .inl g2)), (a3, .inl (ca 0, 3001, .inl g3))] := hD1
  clear hm1
  refine lv_iconst (v := 0) hx hb d_15_25_5 (by decide) ?_
  refine lv_istore_n (lv' := [(1, .int 0), (0, .ref a0)]) hx hb d_15_25_6 rfl hl (by decide) rfl (fun ls hl => ?_)
  refine lv_iload_n hx hb d_15_25_7 rfl (lv_at hl 0 rfl) ?_
  refine lv_aload_n hx hb d_15_25_8 rfl (lv_at hl 1 rfl) ?_
  refine gget hx hb hts inW_14 hown hK hP1 0 rfl rfl hF1 3 rfl (by decide) k_11_1 d_15_25_9 ?_
  refine lv_icmp_ge (tgt := 137) hx hb d_15_25_12 (by decide) (fun _ => ?_) (fun c => absurd (by decide) c)
  refine lv_aload_n hx hb d_15_25_137 rfl (lv_at hl 1 rfl) ?_
  refine gget hx hb hts inW_14 hown hK hP1 0 rfl rfl hF1 2 rfl (by decide) k_11_5 d_15_25_138 ?_
  refine lv_aload_n hx hb d_15_25_141 rfl (lv_at hl 1 rfl) ?_
  refine gget hx hb hts inW_14 hown hK hP1 0 rfl rfl hF1 0 rfl (by decide) k_11_10 d_15_25_142 ?_
  refine lv_iconst (v := 0) hx hb d_15_25_145 (by decide) ?_
  refine gast hx hb hK hP1 hD1 hS1 2 0 rfl rfl hp3 (k := 0) (by decide) (vinC (by decide)) d_15_25_146 (L' := [(0, 0)]) rfl (fun f2 H2 locs2 hF2 hP2 hD2 hS2 => ?_)
  have hP2 : va_P D cls [(a0, .inr (14, rg 107 f1)), (a2, .inl (ca 0, 3001, .inl g2)), (a3, .inl (ca 0, 3001, .inl f2))] H2 := hP2
  have hD2 : va_D A [(a0, .inr (14, rg 107 f1)), (a2, .inl (ca 0, 3001, .inl g2)), (a3, .inl (ca 0, 3001, .inl f2))] := hD2
  clear hP1 hD1 hS1
  refine lv_aload_n hx hb d_15_25_147 rfl (lv_at hl 1 rfl) ?_
  refine gget hx hb hts inW_14 hown hK hP2 0 rfl rfl hF1 1 rfl (by decide) k_11_6 d_15_25_148 ?_
  refine lv_aload_n hx hb d_15_25_151 rfl (lv_at hl 1 rfl) ?_
  refine gget hx hb hts inW_14 hown hK hP2 0 rfl rfl hF1 0 rfl (by decide) k_11_10 d_15_25_152 ?_
  refine lv_aload_n hx hb d_15_25_155 rfl (lv_at hl 1 rfl) ?_
  refine gget hx hb hts inW_14 hown hK hP2 0 rfl rfl hF1 3 rfl (by decide) k_11_1 d_15_25_156 ?_
  refine gast hx hb hK hP2 hD2 hS2 1 0 rfl rfl hp2 (k := 0) (by decide) (vinC (by decide)) d_15_25_159 (L' := [(0, 0)]) rfl (fun f3 H3 locs3 hF3 hP3 hD3 hS3 => ?_)
  have hP3 : va_P D cls [(a0, .inr (14, rg 107 f1)), (a2, .inl (ca 0, 3001, .inl f3)), (a3, .inl (ca 0, 3001, .inl f2))] H3 := hP3
  have hD3 : va_D A [(a0, .inr (14, rg 107 f1)), (a2, .inl (ca 0, 3001, .inl f3)), (a3, .inl (ca 0, 3001, .inl f2))] := hD3
  clear hP2 hD2 hS2
  have hP9 := hP3.sub (ws' := [(a0, .inr (14, rg 107 f1)), (a2, .inl (ca 0, 3001, .inl f3)), (a3, .inl (ca 0, 3001, .inl f2))]) [0, 1, 2] rfl
  have hD9 := hD3.sub (ws' := [(a0, .inr (14, rg 107 f1)), (a2, .inl (ca 0, 3001, .inl f3)), (a3, .inl (ca 0, 3001, .inl f2))]) [0, 1, 2] (by decide) rfl
  refine W.widen (k := 0) (n := 0) (Nat.le_of_ble_eq_true rfl) (Nat.le_of_ble_eq_true rfl) ?_
  exact W.vret hx hb hr (fun t ht hW => ⟨⟨(f1, f3, f2), rfl, ⟨hM1.mono (by decide), hF1.sub [0] rfl, hF3.sub [0] rfl, hF2.sub [0] rfl⟩, by rw [ht]; exact hP9, va_K.moved hW.alike hK, hD9⟩, hS3.F ht⟩) hS3.2.2 d_15_25_160
abbrev Q_M_good_0 (D : va_G) (ca : Nat → ClassId) (a0 : Nat) (g0 : Nat → Value) (A : Nat → Prop) : Array Value → State → Outcome → State → Prop := va_Qi (S := Unit) (fun (r : Int32) (u : Unit) => r = 1) (fun u => gB D ca A [(a0, .inr (14, rg 107 g0))]) A
set_option maxHeartbeats 8000000 in
set_option maxRecDepth 100000 in
theorem c_M_good_0 (l : Launch) (D : va_G) (ca : Nat → ClassId) (ad av : Nat → Nat) (sz : Nat) (a0 : Nat) (g0 : Nat → Value) (hp0 : gF g0 [(17, .int 0)]) : Met l ({ cls := "StaveHouseModel", name := "good", desc := "()Z" } : Jvm.MethodName) (Cond.code ({ cls := "StaveHouseModel", name := "good", desc := "()Z" } : Jvm.MethodName) prog_15_method_28_code 1 (Option.some Jvm.ClassFile.FieldType.boolean) :: wAll) ({ frames := 0, cells := 0, slots := 0, locals := 0 } : Room) (va_Pc [.ref a0] (gPre D ca ad av [(a0, .inr (14, rg 107 g0))] sz)) (Q_M_good_0 D ca a0 g0 (va_A [(a0, .inr (14, rg 107 g0))] sz)) 0 0 (va_A [(a0, .inr (14, rg 107 g0))] sz) := by
  refine gMet (Qc := Q_M_good_0 D ca a0 g0) (lv := [(0, .ref a0)]) (by decide) (Nat.le_of_ble_eq_true rfl) rfl (fun A p e s m below meth c ls hx hb hr hml hown hts hlk hnm hl hP hK hD hS hA hX => ?_)
  have hown : s.vm.findClass "StaveHouseModel" = some m.cls := hown
  have hnm : meth.name = "good" := hnm
  refine lv_aload_n hx hb d_15_28_0 rfl (lv_at hl 0 rfl) ?_
  refine gget hx hb hts inW_14 hown hK hP 0 rfl rfl hp0 0 rfl (by decide) k_11_15 d_15_28_1 ?_
  refine lv_if_ne (tgt := 11) hx hb d_15_28_4 (by decide) (fun c => absurd c (by decide)) (fun _ => ?_)
  refine lv_iconst (v := 1) hx hb d_15_28_7 (by decide) ?_
  refine lv_goto (tgt := 12) hx hb d_15_28_8 (by decide) ?_
  have hP9 := hP.sub (ws' := [(a0, .inr (14, rg 107 g0))]) [0] rfl
  have hD9 := hD.sub (ws' := [(a0, .inr (14, rg 107 g0))]) [0] (by decide) rfl
  refine W.widen (k := 0) (n := 0) (Nat.le_of_ble_eq_true rfl) (Nat.le_of_ble_eq_true rfl) ?_
  exact W.zret (v := 1) hx hb hr rfl (fun t ht hW => ⟨⟨1, (), rfl, rfl, by rw [ht]; exact hP9, va_K.moved hW.alike hK, hD9⟩, hS.F ht⟩) hS.2.2 d_15_28_12
abbrev Q_M_isWord_0 (D : va_G) (ca : Nat → ClassId) (a0 : Nat) (a3 : Nat) (g0 : Nat → Value) (g3 : Nat → Int32) (A : Nat → Prop) : Array Value → State → Outcome → State → Prop := va_Qi (S := Unit) (fun (r : Int32) (u : Unit) => r = 0) (fun u => gB D ca A [(a0, .inr (14, rg 107 g0)), (a3, .inl (ca 0, 3001, .inl g3))]) A
set_option maxHeartbeats 8000000 in
set_option maxRecDepth 100000 in
theorem c_M_isWord_0 (l : Launch) (D : va_G) (ca : Nat → ClassId) (ad av : Nat → Nat) (sz : Nat) (a0 : Nat) (a3 : Nat) (g0 : Nat → Value) (g3 : Nat → Int32) (hp0 : gF g0 [(16, .int 0), (7, .ref a3)]) (hp3 : gF g3 [(0, 0)]) : Met l ({ cls := "StaveHouseModel", name := "isWord", desc := "(J)Z" } : Jvm.MethodName) (Cond.code ({ cls := "StaveHouseModel", name := "isWord", desc := "(J)Z" } : Jvm.MethodName) prog_15_method_33_code 3 (Option.some Jvm.ClassFile.FieldType.boolean) :: wAll) ({ frames := 0, cells := 0, slots := 0, locals := 0 } : Room) (va_Pc [.ref a0, .long 7038329] (gPre D ca ad av [(a0, .inr (14, rg 107 g0)), (a3, .inl (ca 0, 3001, .inl g3))] sz)) (Q_M_isWord_0 D ca a0 a3 g0 g3 (va_A [(a0, .inr (14, rg 107 g0)), (a3, .inl (ca 0, 3001, .inl g3))] sz)) 0 0 (va_A [(a0, .inr (14, rg 107 g0)), (a3, .inl (ca 0, 3001, .inl g3))] sz) := by
  refine gMet (Qc := Q_M_isWord_0 D ca a0 a3 g0 g3) (lv := [(0, .ref a0), (1, .long 7038329)]) (by decide) (Nat.le_of_ble_eq_true rfl) rfl (fun A p e s m below meth c ls hx hb hr hml hown hts hlk hnm hl hP hK hD hS hA hX => ?_)
  have hown : s.vm.findClass "StaveHouseModel" = some m.cls := hown
  have hnm : meth.name = "isWord" := hnm
  refine lv_aload_n hx hb d_15_33_0 rfl (lv_at hl 0 rfl) ?_
  refine gget hx hb hts inW_14 hown hK hP 0 rfl rfl hp0 1 rfl (by decide) k_11_5 d_15_33_1 ?_
  refine lv_aload_n hx hb d_15_33_4 rfl (lv_at hl 0 rfl) ?_
  refine gget hx hb hts inW_14 hown hK hP 0 rfl rfl hp0 0 rfl (by decide) k_11_14 d_15_33_5 ?_
  refine gald hx hb hK hP 1 0 rfl rfl hp3 0 rfl (by decide) (vinC (by decide)) d_15_33_8 ?_
  refine lv_iconst (v := 4) hx hb d_15_33_9 (by decide) ?_
  refine lv_icmp_ne (tgt := 31) hx hb d_15_33_10 (by decide) (fun _ => ?_) (fun c => absurd c (by decide))
  refine lv_iconst (v := 0) hx hb d_15_33_31 (by decide) ?_
  have hP9 := hP.sub (ws' := [(a0, .inr (14, rg 107 g0)), (a3, .inl (ca 0, 3001, .inl g3))]) [0, 1] rfl
  have hD9 := hD.sub (ws' := [(a0, .inr (14, rg 107 g0)), (a3, .inl (ca 0, 3001, .inl g3))]) [0, 1] (by decide) rfl
  refine W.widen (k := 0) (n := 0) (Nat.le_of_ble_eq_true rfl) (Nat.le_of_ble_eq_true rfl) ?_
  exact W.zret (v := 0) hx hb hr rfl (fun t ht hW => ⟨⟨0, (), rfl, rfl, by rw [ht]; exact hP9, va_K.moved hW.alike hK, hD9⟩, hS.F ht⟩) hS.2.2 d_15_33_32
abbrev Q_M_isWord_1 (D : va_G) (ca : Nat → ClassId) (a0 : Nat) (a3 : Nat) (g0 : Nat → Value) (g3 : Nat → Int32) (A : Nat → Prop) : Array Value → State → Outcome → State → Prop := va_Qi (S := Unit) (fun (r : Int32) (u : Unit) => r = 0) (fun u => gB D ca A [(a0, .inr (14, rg 107 g0)), (a3, .inl (ca 0, 3001, .inl g3))]) A
set_option maxHeartbeats 8000000 in
set_option maxRecDepth 100000 in
theorem c_M_isWord_1 (l : Launch) (D : va_G) (ca : Nat → ClassId) (ad av : Nat → Nat) (sz : Nat) (a0 : Nat) (a3 : Nat) (g0 : Nat → Value) (g3 : Nat → Int32) (hp0 : gF g0 [(16, .int 0), (7, .ref a3)]) (hp3 : gF g3 [(0, 0)]) : Met l ({ cls := "StaveHouseModel", name := "isWord", desc := "(J)Z" } : Jvm.MethodName) (Cond.code ({ cls := "StaveHouseModel", name := "isWord", desc := "(J)Z" } : Jvm.MethodName) prog_15_method_33_code 3 (Option.some Jvm.ClassFile.FieldType.boolean) :: wAll) ({ frames := 0, cells := 0, slots := 0, locals := 0 } : Room) (va_Pc [.ref a0, .long 1953066341] (gPre D ca ad av [(a0, .inr (14, rg 107 g0)), (a3, .inl (ca 0, 3001, .inl g3))] sz)) (Q_M_isWord_1 D ca a0 a3 g0 g3 (va_A [(a0, .inr (14, rg 107 g0)), (a3, .inl (ca 0, 3001, .inl g3))] sz)) 0 0 (va_A [(a0, .inr (14, rg 107 g0)), (a3, .inl (ca 0, 3001, .inl g3))] sz) := by
  refine gMet (Qc := Q_M_isWord_1 D ca a0 a3 g0 g3) (lv := [(0, .ref a0), (1, .long 1953066341)]) (by decide) (Nat.le_of_ble_eq_true rfl) rfl (fun A p e s m below meth c ls hx hb hr hml hown hts hlk hnm hl hP hK hD hS hA hX => ?_)
  have hown : s.vm.findClass "StaveHouseModel" = some m.cls := hown
  have hnm : meth.name = "isWord" := hnm
  refine lv_aload_n hx hb d_15_33_0 rfl (lv_at hl 0 rfl) ?_
  refine gget hx hb hts inW_14 hown hK hP 0 rfl rfl hp0 1 rfl (by decide) k_11_5 d_15_33_1 ?_
  refine lv_aload_n hx hb d_15_33_4 rfl (lv_at hl 0 rfl) ?_
  refine gget hx hb hts inW_14 hown hK hP 0 rfl rfl hp0 0 rfl (by decide) k_11_14 d_15_33_5 ?_
  refine gald hx hb hK hP 1 0 rfl rfl hp3 0 rfl (by decide) (vinC (by decide)) d_15_33_8 ?_
  refine lv_iconst (v := 4) hx hb d_15_33_9 (by decide) ?_
  refine lv_icmp_ne (tgt := 31) hx hb d_15_33_10 (by decide) (fun _ => ?_) (fun c => absurd c (by decide))
  refine lv_iconst (v := 0) hx hb d_15_33_31 (by decide) ?_
  have hP9 := hP.sub (ws' := [(a0, .inr (14, rg 107 g0)), (a3, .inl (ca 0, 3001, .inl g3))]) [0, 1] rfl
  have hD9 := hD.sub (ws' := [(a0, .inr (14, rg 107 g0)), (a3, .inl (ca 0, 3001, .inl g3))]) [0, 1] (by decide) rfl
  refine W.widen (k := 0) (n := 0) (Nat.le_of_ble_eq_true rfl) (Nat.le_of_ble_eq_true rfl) ?_
  exact W.zret (v := 0) hx hb hr rfl (fun t ht hW => ⟨⟨0, (), rfl, rfl, by rw [ht]; exact hP9, va_K.moved hW.alike hK, hD9⟩, hS.F ht⟩) hS.2.2 d_15_33_32
abbrev Q_M_isWord_2 (D : va_G) (ca : Nat → ClassId) (a0 : Nat) (a3 : Nat) (g0 : Nat → Value) (g3 : Nat → Int32) (A : Nat → Prop) : Array Value → State → Outcome → State → Prop := va_Qi (S := Unit) (fun (r : Int32) (u : Unit) => r = 0) (fun u => gB D ca A [(a0, .inr (14, rg 107 g0)), (a3, .inl (ca 0, 3001, .inl g3))]) A
set_option maxHeartbeats 8000000 in
set_option maxRecDepth 100000 in
theorem c_M_isWord_2 (l : Launch) (D : va_G) (ca : Nat → ClassId) (ad av : Nat → Nat) (sz : Nat) (a0 : Nat) (a3 : Nat) (g0 : Nat → Value) (g3 : Nat → Int32) (hp0 : gF g0 [(16, .int 0), (7, .ref a3)]) (hp3 : gF g3 [(0, 0)]) : Met l ({ cls := "StaveHouseModel", name := "isWord", desc := "(J)Z" } : Jvm.MethodName) (Cond.code ({ cls := "StaveHouseModel", name := "isWord", desc := "(J)Z" } : Jvm.MethodName) prog_15_method_33_code 3 (Option.some Jvm.ClassFile.FieldType.boolean) :: wAll) ({ frames := 0, cells := 0, slots := 0, locals := 0 } : Room) (va_Pc [.ref a0, .long 499917877359] (gPre D ca ad av [(a0, .inr (14, rg 107 g0)), (a3, .inl (ca 0, 3001, .inl g3))] sz)) (Q_M_isWord_2 D ca a0 a3 g0 g3 (va_A [(a0, .inr (14, rg 107 g0)), (a3, .inl (ca 0, 3001, .inl g3))] sz)) 0 0 (va_A [(a0, .inr (14, rg 107 g0)), (a3, .inl (ca 0, 3001, .inl g3))] sz) := by
  refine gMet (Qc := Q_M_isWord_2 D ca a0 a3 g0 g3) (lv := [(0, .ref a0), (1, .long 499917877359)]) (by decide) (Nat.le_of_ble_eq_true rfl) rfl (fun A p e s m below meth c ls hx hb hr hml hown hts hlk hnm hl hP hK hD hS hA hX => ?_)
  have hown : s.vm.findClass "StaveHouseModel" = some m.cls := hown
  have hnm : meth.name = "isWord" := hnm
  refine lv_aload_n hx hb d_15_33_0 rfl (lv_at hl 0 rfl) ?_
  refine gget hx hb hts inW_14 hown hK hP 0 rfl rfl hp0 1 rfl (by decide) k_11_5 d_15_33_1 ?_
  refine lv_aload_n hx hb d_15_33_4 rfl (lv_at hl 0 rfl) ?_
  refine gget hx hb hts inW_14 hown hK hP 0 rfl rfl hp0 0 rfl (by decide) k_11_14 d_15_33_5 ?_
  refine gald hx hb hK hP 1 0 rfl rfl hp3 0 rfl (by decide) (vinC (by decide)) d_15_33_8 ?_
  refine lv_iconst (v := 4) hx hb d_15_33_9 (by decide) ?_
  refine lv_icmp_ne (tgt := 31) hx hb d_15_33_10 (by decide) (fun _ => ?_) (fun c => absurd c (by decide))
  refine lv_iconst (v := 0) hx hb d_15_33_31 (by decide) ?_
  have hP9 := hP.sub (ws' := [(a0, .inr (14, rg 107 g0)), (a3, .inl (ca 0, 3001, .inl g3))]) [0, 1] rfl
  have hD9 := hD.sub (ws' := [(a0, .inr (14, rg 107 g0)), (a3, .inl (ca 0, 3001, .inl g3))]) [0, 1] (by decide) rfl
  refine W.widen (k := 0) (n := 0) (Nat.le_of_ble_eq_true rfl) (Nat.le_of_ble_eq_true rfl) ?_
  exact W.zret (v := 0) hx hb hr rfl (fun t ht hW => ⟨⟨0, (), rfl, rfl, by rw [ht]; exact hP9, va_K.moved hW.alike hK, hD9⟩, hS.F ht⟩) hS.2.2 d_15_33_32
abbrev Q_M_isWord_3 (D : va_G) (ca : Nat → ClassId) (a0 : Nat) (a3 : Nat) (g0 : Nat → Value) (g3 : Nat → Int32) (A : Nat → Prop) : Array Value → State → Outcome → State → Prop := va_Qi (S := Unit) (fun (r : Int32) (u : Unit) => r = 0) (fun u => gB D ca A [(a0, .inr (14, rg 107 g0)), (a3, .inl (ca 0, 3001, .inl g3))]) A
set_option maxHeartbeats 8000000 in
set_option maxRecDepth 100000 in
theorem c_M_isWord_3 (l : Launch) (D : va_G) (ca : Nat → ClassId) (ad av : Nat → Nat) (sz : Nat) (a0 : Nat) (a3 : Nat) (g0 : Nat → Value) (g3 : Nat → Int32) (hp0 : gF g0 [(16, .int 0), (7, .ref a3)]) (hp3 : gF g3 [(0, 0)]) : Met l ({ cls := "StaveHouseModel", name := "isWord", desc := "(J)Z" } : Jvm.MethodName) (Cond.code ({ cls := "StaveHouseModel", name := "isWord", desc := "(J)Z" } : Jvm.MethodName) prog_15_method_33_code 3 (Option.some Jvm.ClassFile.FieldType.boolean) :: wAll) ({ frames := 0, cells := 0, slots := 0, locals := 0 } : Room) (va_Pc [.ref a0, .long 7103860] (gPre D ca ad av [(a0, .inr (14, rg 107 g0)), (a3, .inl (ca 0, 3001, .inl g3))] sz)) (Q_M_isWord_3 D ca a0 a3 g0 g3 (va_A [(a0, .inr (14, rg 107 g0)), (a3, .inl (ca 0, 3001, .inl g3))] sz)) 0 0 (va_A [(a0, .inr (14, rg 107 g0)), (a3, .inl (ca 0, 3001, .inl g3))] sz) := by
  refine gMet (Qc := Q_M_isWord_3 D ca a0 a3 g0 g3) (lv := [(0, .ref a0), (1, .long 7103860)]) (by decide) (Nat.le_of_ble_eq_true rfl) rfl (fun A p e s m below meth c ls hx hb hr hml hown hts hlk hnm hl hP hK hD hS hA hX => ?_)
  have hown : s.vm.findClass "StaveHouseModel" = some m.cls := hown
  have hnm : meth.name = "isWord" := hnm
  refine lv_aload_n hx hb d_15_33_0 rfl (lv_at hl 0 rfl) ?_
  refine gget hx hb hts inW_14 hown hK hP 0 rfl rfl hp0 1 rfl (by decide) k_11_5 d_15_33_1 ?_
  refine lv_aload_n hx hb d_15_33_4 rfl (lv_at hl 0 rfl) ?_
  refine gget hx hb hts inW_14 hown hK hP 0 rfl rfl hp0 0 rfl (by decide) k_11_14 d_15_33_5 ?_
  refine gald hx hb hK hP 1 0 rfl rfl hp3 0 rfl (by decide) (vinC (by decide)) d_15_33_8 ?_
  refine lv_iconst (v := 4) hx hb d_15_33_9 (by decide) ?_
  refine lv_icmp_ne (tgt := 31) hx hb d_15_33_10 (by decide) (fun _ => ?_) (fun c => absurd c (by decide))
  refine lv_iconst (v := 0) hx hb d_15_33_31 (by decide) ?_
  have hP9 := hP.sub (ws' := [(a0, .inr (14, rg 107 g0)), (a3, .inl (ca 0, 3001, .inl g3))]) [0, 1] rfl
  have hD9 := hD.sub (ws' := [(a0, .inr (14, rg 107 g0)), (a3, .inl (ca 0, 3001, .inl g3))]) [0, 1] (by decide) rfl
  refine W.widen (k := 0) (n := 0) (Nat.le_of_ble_eq_true rfl) (Nat.le_of_ble_eq_true rfl) ?_
  exact W.zret (v := 0) hx hb hr rfl (fun t ht hW => ⟨⟨0, (), rfl, rfl, by rw [ht]; exact hP9, va_K.moved hW.alike hK, hD9⟩, hS.F ht⟩) hS.2.2 d_15_33_32
abbrev Q_M_isWord_4 (D : va_G) (ca : Nat → ClassId) (a0 : Nat) (a3 : Nat) (g0 : Nat → Value) (g3 : Nat → Int32) (A : Nat → Prop) : Array Value → State → Outcome → State → Prop := va_Qi (S := Unit) (fun (r : Int32) (u : Unit) => r = 0) (fun u => gB D ca A [(a0, .inr (14, rg 107 g0)), (a3, .inl (ca 0, 3001, .inl g3))]) A
set_option maxHeartbeats 8000000 in
set_option maxRecDepth 100000 in
theorem c_M_isWord_4 (l : Launch) (D : va_G) (ca : Nat → ClassId) (ad av : Nat → Nat) (sz : Nat) (a0 : Nat) (a3 : Nat) (g0 : Nat → Value) (g3 : Nat → Int32) (hp0 : gF g0 [(16, .int 0), (7, .ref a3)]) (hp3 : gF g3 [(0, 0)]) : Met l ({ cls := "StaveHouseModel", name := "isWord", desc := "(J)Z" } : Jvm.MethodName) (Cond.code ({ cls := "StaveHouseModel", name := "isWord", desc := "(J)Z" } : Jvm.MethodName) prog_15_method_33_code 3 (Option.some Jvm.ClassFile.FieldType.boolean) :: wAll) ({ frames := 0, cells := 0, slots := 0, locals := 0 } : Room) (va_Pc [.ref a0, .long 508675318629] (gPre D ca ad av [(a0, .inr (14, rg 107 g0)), (a3, .inl (ca 0, 3001, .inl g3))] sz)) (Q_M_isWord_4 D ca a0 a3 g0 g3 (va_A [(a0, .inr (14, rg 107 g0)), (a3, .inl (ca 0, 3001, .inl g3))] sz)) 0 0 (va_A [(a0, .inr (14, rg 107 g0)), (a3, .inl (ca 0, 3001, .inl g3))] sz) := by
  refine gMet (Qc := Q_M_isWord_4 D ca a0 a3 g0 g3) (lv := [(0, .ref a0), (1, .long 508675318629)]) (by decide) (Nat.le_of_ble_eq_true rfl) rfl (fun A p e s m below meth c ls hx hb hr hml hown hts hlk hnm hl hP hK hD hS hA hX => ?_)
  have hown : s.vm.findClass "StaveHouseModel" = some m.cls := hown
  have hnm : meth.name = "isWord" := hnm
  refine lv_aload_n hx hb d_15_33_0 rfl (lv_at hl 0 rfl) ?_
  refine gget hx hb hts inW_14 hown hK hP 0 rfl rfl hp0 1 rfl (by decide) k_11_5 d_15_33_1 ?_
  refine lv_aload_n hx hb d_15_33_4 rfl (lv_at hl 0 rfl) ?_
  refine gget hx hb hts inW_14 hown hK hP 0 rfl rfl hp0 0 rfl (by decide) k_11_14 d_15_33_5 ?_
  refine gald hx hb hK hP 1 0 rfl rfl hp3 0 rfl (by decide) (vinC (by decide)) d_15_33_8 ?_
  refine lv_iconst (v := 4) hx hb d_15_33_9 (by decide) ?_
  refine lv_icmp_ne (tgt := 31) hx hb d_15_33_10 (by decide) (fun _ => ?_) (fun c => absurd c (by decide))
  refine lv_iconst (v := 0) hx hb d_15_33_31 (by decide) ?_
  have hP9 := hP.sub (ws' := [(a0, .inr (14, rg 107 g0)), (a3, .inl (ca 0, 3001, .inl g3))]) [0, 1] rfl
  have hD9 := hD.sub (ws' := [(a0, .inr (14, rg 107 g0)), (a3, .inl (ca 0, 3001, .inl g3))]) [0, 1] (by decide) rfl
  refine W.widen (k := 0) (n := 0) (Nat.le_of_ble_eq_true rfl) (Nat.le_of_ble_eq_true rfl) ?_
  exact W.zret (v := 0) hx hb hr rfl (fun t ht hW => ⟨⟨0, (), rfl, rfl, by rw [ht]; exact hP9, va_K.moved hW.alike hK, hD9⟩, hS.F ht⟩) hS.2.2 d_15_33_32
abbrev Q_M_failAt_0 (D : va_G) (ca : Nat → ClassId) (a0 : Nat) (a2 : Nat) (g0 : Nat → Value) (g2 : Nat → Int32) (A : Nat → Prop) : Array Value → State → Outcome → State → Prop := va_Qv (S := (Nat → Value)) (fun (u : (Nat → Value)) => gM g0 u [18, 17] ∧ gF u [(18, .int 0), (17, .int 2)]) (fun u => gB D ca A [(a0, .inr (14, rg 107 u)), (a2, .inl (ca 0, 3001, .inl g2))]) A
set_option maxHeartbeats 8000000 in
set_option maxRecDepth 100000 in
theorem c_M_failAt_0 (l : Launch) (D : va_G) (ca : Nat → ClassId) (ad av : Nat → Nat) (sz : Nat) (a0 : Nat) (a2 : Nat) (g0 : Nat → Value) (g2 : Nat → Int32) (hp0 : gF g0 [(17, .int 0), (8, .ref a2)]) (hp2 : gF g2 [(0, 0)]) : Met l ({ cls := "StaveHouseModel", name := "failAt", desc := "(II)V" } : Jvm.MethodName) (Cond.code ({ cls := "StaveHouseModel", name := "failAt", desc := "(II)V" } : Jvm.MethodName) prog_15_method_29_code 3 (Option.none : Option Jvm.ClassFile.FieldType) :: wAll) ({ frames := 0, cells := 0, slots := 0, locals := 0 } : Room) (va_Pc [.ref a0, .int 2, .int 0] (gPre D ca ad av [(a0, .inr (14, rg 107 g0)), (a2, .inl (ca 0, 3001, .inl g2))] sz)) (Q_M_failAt_0 D ca a0 a2 g0 g2 (va_A [(a0, .inr (14, rg 107 g0)), (a2, .inl (ca 0, 3001, .inl g2))] sz)) 0 0 (va_A [(a0, .inr (14, rg 107 g0)), (a2, .inl (ca 0, 3001, .inl g2))] sz) := by
  refine gMet (Qc := Q_M_failAt_0 D ca a0 a2 g0 g2) (lv := [(0, .ref a0), (1, .int 2), (2, .int 0)]) (by decide) (Nat.le_of_ble_eq_true rfl) rfl (fun A p e s m below meth c ls hx hb hr hml hown hts hlk hnm hl hP hK hD hS hA hX => ?_)
  have hown : s.vm.findClass "StaveHouseModel" = some m.cls := hown
  have hnm : meth.name = "failAt" := hnm
  refine lv_aload_n hx hb d_15_29_0 rfl (lv_at hl 0 rfl) ?_
  refine gget hx hb hts inW_14 hown hK hP 0 rfl rfl hp0 0 rfl (by decide) k_11_15 d_15_29_1 ?_
  refine lv_if_le (tgt := 8) hx hb d_15_29_4 (by decide) (fun _ => ?_) (fun c => absurd (by decide) c)
  refine lv_aload_n hx hb d_15_29_8 rfl (lv_at hl 0 rfl) ?_
  refine lv_iload_n hx hb d_15_29_9 rfl (lv_at hl 1 rfl) ?_
  refine gput hx hb hts inW_14 tyX14 tyX14_ok nmX14 hown hK hP hD hS 0 rfl rfl hp0 17 (by decide) k_11_15 rfl rfl rfl d_15_29_10 (L' := [(17, .int 2), (8, .ref a2)]) rfl (fun f1 H1 locs1 hF1 hm1 hP1 hD1 hS1 => ?_)
  have hM1 := gM.tr (gM.rf (f := g0)) hm1
  have hP1 : va_P D cls [(a0, .inr (14, rg 107 f1)), (a2, .inl (ca 0, 3001, .inl g2))] H1 := hP1
  have hD1 : va_D A [(a0, .inr (14, rg 107 f1)), (a2, .inl (ca 0, 3001, .inl g2))] := hD1
  clear hm1
  refine lv_aload_n hx hb d_15_29_13 rfl (lv_at hl 0 rfl) ?_
  refine lv_aload_n hx hb d_15_29_14 rfl (lv_at hl 0 rfl) ?_
  refine gget hx hb hts inW_14 hown hK hP1 0 rfl rfl hF1 1 rfl (by decide) k_11_6 d_15_29_15 ?_
  refine lv_iload_n hx hb d_15_29_18 rfl (lv_at hl 2 rfl) ?_
  refine gald hx hb hK hP1 1 0 rfl rfl hp2 0 rfl (by decide) (vinC (by decide)) d_15_29_19 ?_
  refine gput hx hb hts inW_14 tyX14 tyX14_ok nmX14 hown hK hP1 hD1 hS1 0 rfl rfl hF1 18 (by decide) k_11_16 rfl rfl rfl d_15_29_20 (L' := [(18, .int 0), (17, .int 2), (8, .ref a2)]) rfl (fun f2 H2 locs2 hF2 hm2 hP2 hD2 hS2 => ?_)
  have hM2 := gM.tr hM1 hm2
  have hP2 : va_P D cls [(a0, .inr (14, rg 107 f2)), (a2, .inl (ca 0, 3001, .inl g2))] H2 := hP2
  have hD2 : va_D A [(a0, .inr (14, rg 107 f2)), (a2, .inl (ca 0, 3001, .inl g2))] := hD2
  clear hP1 hD1 hS1 hF1 hM1 hm2
  have hP9 := hP2.sub (ws' := [(a0, .inr (14, rg 107 f2)), (a2, .inl (ca 0, 3001, .inl g2))]) [0, 1] rfl
  have hD9 := hD2.sub (ws' := [(a0, .inr (14, rg 107 f2)), (a2, .inl (ca 0, 3001, .inl g2))]) [0, 1] (by decide) rfl
  refine W.widen (k := 0) (n := 0) (Nat.le_of_ble_eq_true rfl) (Nat.le_of_ble_eq_true rfl) ?_
  exact W.vret hx hb hr (fun t ht hW => ⟨⟨(f2), rfl, ⟨hM2.mono (by decide), hF2.sub [0, 1] rfl⟩, by rw [ht]; exact hP9, va_K.moved hW.alike hK, hD9⟩, hS2.F ht⟩) hS2.2.2 d_15_29_23
abbrev Q_M_fail_0 (D : va_G) (ca : Nat → ClassId) (a0 : Nat) (a2 : Nat) (g0 : Nat → Value) (g2 : Nat → Int32) (A : Nat → Prop) : Array Value → State → Outcome → State → Prop := va_Qv (S := (Nat → Value)) (fun (u : (Nat → Value)) => gM g0 u [18, 17] ∧ gF u [(18, .int 0), (17, .int 2)]) (fun u => gB D ca A [(a0, .inr (14, rg 107 u)), (a2, .inl (ca 0, 3001, .inl g2))]) A
set_option maxHeartbeats 8000000 in
set_option maxRecDepth 100000 in
theorem c_M_fail_0 (l : Launch) (D : va_G) (ca : Nat → ClassId) (ad av : Nat → Nat) (sz : Nat) (a0 : Nat) (a2 : Nat) (g0 : Nat → Value) (g2 : Nat → Int32) (hp0 : gF g0 [(17, .int 0), (16, .int 0), (8, .ref a2)]) (hp2 : gF g2 [(0, 0)]) : Met l ({ cls := "StaveHouseModel", name := "fail", desc := "(I)V" } : Jvm.MethodName) (Cond.code ({ cls := "StaveHouseModel", name := "fail", desc := "(I)V" } : Jvm.MethodName) prog_15_method_30_code 2 (Option.none : Option Jvm.ClassFile.FieldType) :: wAll) ({ frames := 1, cells := 0, slots := 0, locals := 22 } : Room) (va_Pc [.ref a0, .int 2] (gPre D ca ad av [(a0, .inr (14, rg 107 g0)), (a2, .inl (ca 0, 3001, .inl g2))] sz)) (Q_M_fail_0 D ca a0 a2 g0 g2 (va_A [(a0, .inr (14, rg 107 g0)), (a2, .inl (ca 0, 3001, .inl g2))] sz)) 0 0 (va_A [(a0, .inr (14, rg 107 g0)), (a2, .inl (ca 0, 3001, .inl g2))] sz) := by
  refine gMet (Qc := Q_M_fail_0 D ca a0 a2 g0 g2) (lv := [(0, .ref a0), (1, .int 2)]) (by decide) (Nat.le_of_ble_eq_true rfl) rfl (fun A p e s m below meth c ls hx hb hr hml hown hts hlk hnm hl hP hK hD hS hA hX => ?_)
  have hown : s.vm.findClass "StaveHouseModel" = some m.cls := hown
  have hnm : meth.name = "fail" := hnm
  refine lv_aload_n hx hb d_15_30_0 rfl (lv_at hl 0 rfl) ?_
  refine lv_iload_n hx hb d_15_30_1 rfl (lv_at hl 1 rfl) ?_
  refine lv_aload_n hx hb d_15_30_2 rfl (lv_at hl 0 rfl) ?_
  refine gget hx hb hts inW_14 hown hK hP 0 rfl rfl hp0 1 rfl (by decide) k_11_14 d_15_30_3 ?_
  have hFc1 := va_free (wc := [(a0, .inr (14, rg 107 g0)), (a2, .inl (ca 0, 3001, .inl g2))]) hD hS hA [0, 1] rfl
  refine va_callv (va_runV (As := [.int 2, .int 0]) (rest := []) ⟨hx, hb, hml, hown, hts⟩ (c_M_failAt_0 l D ca ad av s.heap.size a0 a2 g0 g2 (hp0.sub [0, 2] rfl) (hp2.sub [0] rfl)) (cwV 2 hts (gdV k_14_132 k_14_134 ks_205 k_1_9 k_14_135) rfl rfl rfl (by decide +kernel) ⟨Nat.le_of_ble_eq_true rfl, Nat.le_of_ble_eq_true rfl⟩) (gPV hP hD hK hS hA hX [0, 1] (by decide) rfl a0 [.int 2, .int 0] 0 (ci := 14) (r := (RX14, TX14, 107)) rfl rfl) rfl rfl hl.1 rfl (lv_room (Nat.le_of_ble_eq_true rfl)) d_15_30_6 ⟨Nat.le_of_ble_eq_true rfl, Nat.le_of_ble_eq_true rfl⟩) hS (fun q _ h => hFc1 q h) hFc1 (fun x1_0 t1 H1 locs1 ht1 hvm1 hw1 hB1 hz1 hk1 hS1 => ?_)
  obtain ⟨hw1_0, hw1_1⟩ := hw1
  obtain ⟨hP1, hD1⟩ := gJoin (wr := []) (w1 := [(a0, .inr (14, rg 107 x1_0)), (a2, .inl (ca 0, 3001, .inl g2))]) hP hD [0, 1] [] rfl rfl (by decide) (by decide) hk1 hFc1 ht1 hB1
  have hF1_0 : gF x1_0 [(18, .int 0), (17, .int 2), (16, .int 0), (8, .ref a2)] := gF.upd hp0 hw1_0 hw1_1 rfl
  have hM1_0 := gM.tr (gM.rf (f := g0)) hw1_0
  have hP1 : va_P D cls [(a0, .inr (14, rg 107 x1_0)), (a2, .inl (ca 0, 3001, .inl g2))] H1 := hP1
  have hD1 : va_D A [(a0, .inr (14, rg 107 x1_0)), (a2, .inl (ca 0, 3001, .inl g2))] := hD1
  refine W.widen (k := 0) (n := 0) (Nat.le_of_ble_eq_true rfl) (Nat.le_of_ble_eq_true rfl) ?_
  have hP9 := hP1.sub (ws' := [(a0, .inr (14, rg 107 x1_0)), (a2, .inl (ca 0, 3001, .inl g2))]) [0, 1] rfl
  have hD9 := hD1.sub (ws' := [(a0, .inr (14, rg 107 x1_0)), (a2, .inl (ca 0, 3001, .inl g2))]) [0, 1] (by decide) rfl
  refine W.widen (k := 0) (n := 0) (Nat.le_of_ble_eq_true rfl) (Nat.le_of_ble_eq_true rfl) ?_
  exact W.vret hx hb hr (fun t ht hW => ⟨⟨(x1_0), rfl, ⟨hM1_0.mono (by decide), hF1_0.sub [0, 1] rfl⟩, by rw [ht]; exact hP9, va_K.moved hW.alike hK, hD9⟩, hS1.F ht⟩) hS1.2.2 d_15_30_9
abbrev Q_M_wrong_0 (D : va_G) (ca : Nat → ClassId) (a0 : Nat) (a2 : Nat) (a3 : Nat) (g0 : Nat → Value) (g2 : Nat → Int32) (g3 : Nat → Int32) (A : Nat → Prop) : Array Value → State → Outcome → State → Prop := va_Qv (S := (Nat → Value)) (fun (u : (Nat → Value)) => gM g0 u [18, 17] ∧ gF u [(18, .int 0), (17, .int 2)]) (fun u => gB D ca A [(a0, .inr (14, rg 107 u)), (a2, .inl (ca 0, 3001, .inl g2)), (a3, .inl (ca 0, 3001, .inl g3))]) A
set_option maxHeartbeats 8000000 in
set_option maxRecDepth 100000 in
theorem c_M_wrong_0 (l : Launch) (D : va_G) (ca : Nat → ClassId) (ad av : Nat → Nat) (sz : Nat) (a0 : Nat) (a2 : Nat) (a3 : Nat) (g0 : Nat → Value) (g2 : Nat → Int32) (g3 : Nat → Int32) (hp0 : gF g0 [(17, .int 0), (16, .int 0), (8, .ref a2), (7, .ref a3)]) (hp2 : gF g2 [(0, 0)]) (hp3 : gF g3 [(0, 0)]) : Met l ({ cls := "StaveHouseModel", name := "wrong", desc := "()V" } : Jvm.MethodName) (Cond.code ({ cls := "StaveHouseModel", name := "wrong", desc := "()V" } : Jvm.MethodName) prog_15_method_31_code 1 (Option.none : Option Jvm.ClassFile.FieldType) :: wAll) ({ frames := 2, cells := 0, slots := 0, locals := 43 } : Room) (va_Pc [.ref a0] (gPre D ca ad av [(a0, .inr (14, rg 107 g0)), (a2, .inl (ca 0, 3001, .inl g2)), (a3, .inl (ca 0, 3001, .inl g3))] sz)) (Q_M_wrong_0 D ca a0 a2 a3 g0 g2 g3 (va_A [(a0, .inr (14, rg 107 g0)), (a2, .inl (ca 0, 3001, .inl g2)), (a3, .inl (ca 0, 3001, .inl g3))] sz)) 0 0 (va_A [(a0, .inr (14, rg 107 g0)), (a2, .inl (ca 0, 3001, .inl g2)), (a3, .inl (ca 0, 3001, .inl g3))] sz) := by
  refine gMet (Qc := Q_M_wrong_0 D ca a0 a2 a3 g0 g2 g3) (lv := [(0, .ref a0)]) (by decide) (Nat.le_of_ble_eq_true rfl) rfl (fun A p e s m below meth c ls hx hb hr hml hown hts hlk hnm hl hP hK hD hS hA hX => ?_)
  have hown : s.vm.findClass "StaveHouseModel" = some m.cls := hown
  have hnm : meth.name = "wrong" := hnm
  refine lv_aload_n hx hb d_15_31_0 rfl (lv_at hl 0 rfl) ?_
  refine lv_aload_n hx hb d_15_31_1 rfl (lv_at hl 0 rfl) ?_
  refine gget hx hb hts inW_14 hown hK hP 0 rfl rfl hp0 3 rfl (by decide) k_11_5 d_15_31_2 ?_
  refine lv_aload_n hx hb d_15_31_5 rfl (lv_at hl 0 rfl) ?_
  refine gget hx hb hts inW_14 hown hK hP 0 rfl rfl hp0 1 rfl (by decide) k_11_14 d_15_31_6 ?_
  refine gald hx hb hK hP 2 0 rfl rfl hp3 0 rfl (by decide) (vinC (by decide)) d_15_31_9 ?_
  refine lv_iconst (v := 1) hx hb d_15_31_10 (by decide) ?_
  refine lv_icmp_ne (tgt := 18) hx hb d_15_31_11 (by decide) (fun _ => ?_) (fun c => absurd c (by decide))
  refine lv_iconst (v := 2) hx hb d_15_31_18 (by decide) ?_
  have hFc1 := va_free (wc := [(a0, .inr (14, rg 107 g0)), (a2, .inl (ca 0, 3001, .inl g2))]) hD hS hA [0, 1] rfl
  refine va_callv (va_runV (As := [.int 2]) (rest := []) ⟨hx, hb, hml, hown, hts⟩ (c_M_fail_0 l D ca ad av s.heap.size a0 a2 g0 g2 (hp0.sub [0, 1, 2] rfl) (hp2.sub [0] rfl)) (cwV 1 hts (gdV k_14_128 k_14_130 ks_204 k_1_9 k_14_131) rfl rfl rfl (by decide +kernel) ⟨Nat.le_of_ble_eq_true rfl, Nat.le_of_ble_eq_true rfl⟩) (gPV hP hD hK hS hA hX [0, 1] (by decide) rfl a0 [.int 2] 0 (ci := 14) (r := (RX14, TX14, 107)) rfl rfl) rfl rfl hl.1 rfl (lv_room (Nat.le_of_ble_eq_true rfl)) d_15_31_19 ⟨Nat.le_of_ble_eq_true rfl, Nat.le_of_ble_eq_true rfl⟩) hS (fun q _ h => hFc1 q h) hFc1 (fun x1_0 t1 H1 locs1 ht1 hvm1 hw1 hB1 hz1 hk1 hS1 => ?_)
  obtain ⟨hw1_0, hw1_1⟩ := hw1
  obtain ⟨hP1, hD1⟩ := gJoin (wr := [(a3, .inl (ca 0, 3001, .inl g3))]) (w1 := [(a0, .inr (14, rg 107 x1_0)), (a2, .inl (ca 0, 3001, .inl g2))]) hP hD [0, 1] [2] rfl rfl (by decide) (by decide) hk1 hFc1 ht1 hB1
  have hF1_0 : gF x1_0 [(18, .int 0), (17, .int 2), (16, .int 0), (8, .ref a2), (7, .ref a3)] := gF.upd hp0 hw1_0 hw1_1 rfl
  have hM1_0 := gM.tr (gM.rf (f := g0)) hw1_0
  have hP1 : va_P D cls [(a3, .inl (ca 0, 3001, .inl g3)), (a0, .inr (14, rg 107 x1_0)), (a2, .inl (ca 0, 3001, .inl g2))] H1 := hP1
  have hD1 : va_D A [(a3, .inl (ca 0, 3001, .inl g3)), (a0, .inr (14, rg 107 x1_0)), (a2, .inl (ca 0, 3001, .inl g2))] := hD1
  refine W.widen (k := 0) (n := 0) (Nat.le_of_ble_eq_true rfl) (Nat.le_of_ble_eq_true rfl) ?_
  have hP9 := hP1.sub (ws' := [(a0, .inr (14, rg 107 x1_0)), (a2, .inl (ca 0, 3001, .inl g2)), (a3, .inl (ca 0, 3001, .inl g3))]) [1, 2, 0] rfl
  have hD9 := hD1.sub (ws' := [(a0, .inr (14, rg 107 x1_0)), (a2, .inl (ca 0, 3001, .inl g2)), (a3, .inl (ca 0, 3001, .inl g3))]) [1, 2, 0] (by decide) rfl
  refine W.widen (k := 0) (n := 0) (Nat.le_of_ble_eq_true rfl) (Nat.le_of_ble_eq_true rfl) ?_
  exact W.vret hx hb hr (fun t ht hW => ⟨⟨(x1_0), rfl, ⟨hM1_0.mono (by decide), hF1_0.sub [0, 1] rfl⟩, by rw [ht]; exact hP9, va_K.moved hW.alike hK, hD9⟩, hS1.F ht⟩) hS1.2.2 d_15_31_22
abbrev Q_M_good_1 (D : va_G) (ca : Nat → ClassId) (a0 : Nat) (g0 : Nat → Value) (A : Nat → Prop) : Array Value → State → Outcome → State → Prop := va_Qi (S := Unit) (fun (r : Int32) (u : Unit) => r = 0) (fun u => gB D ca A [(a0, .inr (14, rg 107 g0))]) A
set_option maxHeartbeats 8000000 in
set_option maxRecDepth 100000 in
theorem c_M_good_1 (l : Launch) (D : va_G) (ca : Nat → ClassId) (ad av : Nat → Nat) (sz : Nat) (a0 : Nat) (g0 : Nat → Value) (hp0 : gF g0 [(17, .int 2)]) : Met l ({ cls := "StaveHouseModel", name := "good", desc := "()Z" } : Jvm.MethodName) (Cond.code ({ cls := "StaveHouseModel", name := "good", desc := "()Z" } : Jvm.MethodName) prog_15_method_28_code 1 (Option.some Jvm.ClassFile.FieldType.boolean) :: wAll) ({ frames := 0, cells := 0, slots := 0, locals := 0 } : Room) (va_Pc [.ref a0] (gPre D ca ad av [(a0, .inr (14, rg 107 g0))] sz)) (Q_M_good_1 D ca a0 g0 (va_A [(a0, .inr (14, rg 107 g0))] sz)) 0 0 (va_A [(a0, .inr (14, rg 107 g0))] sz) := by
  refine gMet (Qc := Q_M_good_1 D ca a0 g0) (lv := [(0, .ref a0)]) (by decide) (Nat.le_of_ble_eq_true rfl) rfl (fun A p e s m below meth c ls hx hb hr hml hown hts hlk hnm hl hP hK hD hS hA hX => ?_)
  have hown : s.vm.findClass "StaveHouseModel" = some m.cls := hown
  have hnm : meth.name = "good" := hnm
  refine lv_aload_n hx hb d_15_28_0 rfl (lv_at hl 0 rfl) ?_
  refine gget hx hb hts inW_14 hown hK hP 0 rfl rfl hp0 0 rfl (by decide) k_11_15 d_15_28_1 ?_
  refine lv_if_ne (tgt := 11) hx hb d_15_28_4 (by decide) (fun _ => ?_) (fun c => absurd c (by decide))
  refine lv_iconst (v := 0) hx hb d_15_28_11 (by decide) ?_
  have hP9 := hP.sub (ws' := [(a0, .inr (14, rg 107 g0))]) [0] rfl
  have hD9 := hD.sub (ws' := [(a0, .inr (14, rg 107 g0))]) [0] (by decide) rfl
  refine W.widen (k := 0) (n := 0) (Nat.le_of_ble_eq_true rfl) (Nat.le_of_ble_eq_true rfl) ?_
  exact W.zret (v := 0) hx hb hr rfl (fun t ht hW => ⟨⟨0, (), rfl, rfl, by rw [ht]; exact hP9, va_K.moved hW.alike hK, hD9⟩, hS.F ht⟩) hS.2.2 d_15_28_12
abbrev Q_M_text_0 (D : va_G) (ca : Nat → ClassId) (a0 : Nat) (a2 : Nat) (a3 : Nat) (a4 : Nat) (g0 : Nat → Value) (g2 : Nat → Int32) (g3 : Nat → Int32) (g4 : Nat → Value) (A : Nat → Prop) : Array Value → State → Outcome → State → Prop := va_Qv (S := (Nat → Value) × (Nat → Value)) (fun (u : (Nat → Value) × (Nat → Value)) => gM g0 u.1 [18, 17, 24, 23, 22, 27, 19, 16] ∧ gF u.1 [(18, .int 0), (17, .int 2), (16, .int 0)] ∧ gM g4 u.2 [6, 5, 4, 3, 2, 1] ∧ gF u.2 [(1, .int 0)]) (fun u => gB D ca A [(a0, .inr (14, rg 107 u.1)), (a2, .inl (ca 0, 3001, .inl g2)), (a3, .inl (ca 0, 3001, .inl g3)), (a4, .inr (13, rg 81 u.2))]) A
set_option maxHeartbeats 8000000 in
set_option maxRecDepth 100000 in
theorem c_M_text_0 (l : Launch) (D : va_G) (ca : Nat → ClassId) (ad av : Nat → Nat) (sz : Nat) (a0 : Nat) (a2 : Nat) (a3 : Nat) (a4 : Nat) (g0 : Nat → Value) (g2 : Nat → Int32) (g3 : Nat → Int32) (g4 : Nat → Value) (hp0 : gF g0 [(8, .ref a2), (7, .ref a3), (6, .ref a4)]) (hp2 : gF g2 [(0, 0)]) (hp3 : gF g3 [(0, 0)]) (hp4 : gF g4 []) : Met l ({ cls := "StaveHouseModel", name := "text", desc := "()V" } : Jvm.MethodName) (Cond.code ({ cls := "StaveHouseModel", name := "text", desc := "()V" } : Jvm.MethodName) prog_15_method_40_code 2 (Option.none : Option Jvm.ClassFile.FieldType) :: wAll) ({ frames := 3, cells := 0, slots := 0, locals := 63 } : Room) (va_Pc [.ref a0] (gPre D ca ad av [(a0, .inr (14, rg 107 g0)), (a2, .inl (ca 0, 3001, .inl g2)), (a3, .inl (ca 0, 3001, .inl g3)), (a4, .inr (13, rg 81 g4))] sz)) (Q_M_text_0 D ca a0 a2 a3 a4 g0 g2 g3 g4 (va_A [(a0, .inr (14, rg 107 g0)), (a2, .inl (ca 0, 3001, .inl g2)), (a3, .inl (ca 0, 3001, .inl g3)), (a4, .inr (13, rg 81 g4))] sz)) 0 0 (va_A [(a0, .inr (14, rg 107 g0)), (a2, .inl (ca 0, 3001, .inl g2)), (a3, .inl (ca 0, 3001, .inl g3)), (a4, .inr (13, rg 81 g4))] sz) := by
  refine gMet (Qc := Q_M_text_0 D ca a0 a2 a3 a4 g0 g2 g3 g4) (lv := [(0, .ref a0)]) (by decide) (Nat.le_of_ble_eq_true rfl) rfl (fun A p e s m below meth c ls hx hb hr hml hown hts hlk hnm hl hP hK hD hS hA hX => ?_)
  have hown : s.vm.findClass "StaveHouseModel" = some m.cls := hown
  have hnm : meth.name = "text" := hnm
  refine lv_aload_n hx hb d_15_40_0 rfl (lv_at hl 0 rfl) ?_
  refine lv_iconst (v := 0) hx hb d_15_40_1 (by decide) ?_
  refine gput hx hb hts inW_14 tyX14 tyX14_ok nmX14 hown hK hP hD hS 0 rfl rfl hp0 16 (by decide) k_11_14 rfl rfl rfl d_15_40_2 (L' := [(16, .int 0), (8, .ref a2), (7, .ref a3), (6, .ref a4)]) rfl (fun f1 H1 locs1 hF1 hm1 hP1 hD1 hS1 => ?_)
  have hM1 := gM.tr (gM.rf (f := g0)) hm1
  have hP1 : va_P D cls [(a0, .inr (14, rg 107 f1)), (a2, .inl (ca 0, 3001, .inl g2)), (a3, .inl (ca 0, 3001, .inl g3)), (a4, .inr (13, rg 81 g4))] H1 := hP1
  have hD1 : va_D A [(a0, .inr (14, rg 107 f1)), (a2, .inl (ca 0, 3001, .inl g2)), (a3, .inl (ca 0, 3001, .inl g3)), (a4, .inr (13, rg 81 g4))] := hD1
  clear hm1
  refine lv_aload_n hx hb d_15_40_5 rfl (lv_at hl 0 rfl) ?_
  refine lv_iconst (v := 0) hx hb d_15_40_6 (by decide) ?_
  refine gput hx hb hts inW_14 tyX14 tyX14_ok nmX14 hown hK hP1 hD1 hS1 0 rfl rfl hF1 17 (by decide) k_11_15 rfl rfl rfl d_15_40_7 (L' := [(17, .int 0), (16, .int 0), (8, .ref a2), (7, .ref a3), (6, .ref a4)]) rfl (fun f2 H2 locs2 hF2 hm2 hP2 hD2 hS2 => ?_)
  have hM2 := gM.tr hM1 hm2
  have hP2 : va_P D cls [(a0, .inr (14, rg 107 f2)), (a2, .inl (ca 0, 3001, .inl g2)), (a3, .inl (ca 0, 3001, .inl g3)), (a4, .inr (13, rg 81 g4))] H2 := hP2
  have hD2 : va_D A [(a0, .inr (14, rg 107 f2)), (a2, .inl (ca 0, 3001, .inl g2)), (a3, .inl (ca 0, 3001, .inl g3)), (a4, .inr (13, rg 81 g4))] := hD2
  clear hP1 hD1 hS1 hF1 hM1 hm2
  refine lv_aload_n hx hb d_15_40_10 rfl (lv_at hl 0 rfl) ?_
  refine lv_iconst (v := 0) hx hb d_15_40_11 (by decide) ?_
  refine gputX hx hb hts inW_14 tyX14 tyX14_ok nmX14 hown hK hP2 hD2 hS2 0 rfl rfl hF2 19 (by decide) k_11_17 rfl rfl rfl d_15_40_12 (L' := [(17, .int 0), (16, .int 0), (8, .ref a2), (7, .ref a3), (6, .ref a4)]) rfl (fun f3 H3 locs3 hF3 hm3 hP3 hD3 hS3 => ?_)
  have hM3 := gM.tr hM2 hm3
  have hP3 : va_P D cls [(a0, .inr (14, rg 107 f3)), (a2, .inl (ca 0, 3001, .inl g2)), (a3, .inl (ca 0, 3001, .inl g3)), (a4, .inr (13, rg 81 g4))] H3 := hP3
  have hD3 : va_D A [(a0, .inr (14, rg 107 f3)), (a2, .inl (ca 0, 3001, .inl g2)), (a3, .inl (ca 0, 3001, .inl g3)), (a4, .inr (13, rg 81 g4))] := hD3
  clear hP2 hD2 hS2 hF2 hM2 hm3
  refine lv_aload_n hx hb d_15_40_15 rfl (lv_at hl 0 rfl) ?_
  refine lv_iconst (v := 0) hx hb d_15_40_16 (by decide) ?_
  refine gputX hx hb hts inW_14 tyX14 tyX14_ok nmX14 hown hK hP3 hD3 hS3 0 rfl rfl hF3 27 (by decide) k_11_25 rfl rfl rfl d_15_40_17 (L' := [(17, .int 0), (16, .int 0), (8, .ref a2), (7, .ref a3), (6, .ref a4)]) rfl (fun f4 H4 locs4 hF4 hm4 hP4 hD4 hS4 => ?_)
  have hM4 := gM.tr hM3 hm4
  have hP4 : va_P D cls [(a0, .inr (14, rg 107 f4)), (a2, .inl (ca 0, 3001, .inl g2)), (a3, .inl (ca 0, 3001, .inl g3)), (a4, .inr (13, rg 81 g4))] H4 := hP4
  have hD4 : va_D A [(a0, .inr (14, rg 107 f4)), (a2, .inl (ca 0, 3001, .inl g2)), (a3, .inl (ca 0, 3001, .inl g3)), (a4, .inr (13, rg 81 g4))] := hD4
  clear hP3 hD3 hS3 hF3 hM3 hm4
  refine lv_aload_n hx hb d_15_40_20 rfl (lv_at hl 0 rfl) ?_
  refine lv_iconst (v := 0) hx hb d_15_40_21 (by decide) ?_
  refine gputX hx hb hts inW_14 tyX14 tyX14_ok nmX14 hown hK hP4 hD4 hS4 0 rfl rfl hF4 22 (by decide) k_11_20 rfl rfl rfl d_15_40_22 (L' := [(17, .int 0), (16, .int 0), (8, .ref a2), (7, .ref a3), (6, .ref a4)]) rfl (fun f5 H5 locs5 hF5 hm5 hP5 hD5 hS5 => ?_)
  have hM5 := gM.tr hM4 hm5
  have hP5 : va_P D cls [(a0, .inr (14, rg 107 f5)), (a2, .inl (ca 0, 3001, .inl g2)), (a3, .inl (ca 0, 3001, .inl g3)), (a4, .inr (13, rg 81 g4))] H5 := hP5
  have hD5 : va_D A [(a0, .inr (14, rg 107 f5)), (a2, .inl (ca 0, 3001, .inl g2)), (a3, .inl (ca 0, 3001, .inl g3)), (a4, .inr (13, rg 81 g4))] := hD5
  clear hP4 hD4 hS4 hF4 hM4 hm5
  refine lv_aload_n hx hb d_15_40_25 rfl (lv_at hl 0 rfl) ?_
  refine lv_iconst (v := 0) hx hb d_15_40_26 (by decide) ?_
  refine gputX hx hb hts inW_14 tyX14 tyX14_ok nmX14 hown hK hP5 hD5 hS5 0 rfl rfl hF5 23 (by decide) k_11_21 rfl rfl rfl d_15_40_27 (L' := [(17, .int 0), (16, .int 0), (8, .ref a2), (7, .ref a3), (6, .ref a4)]) rfl (fun f6 H6 locs6 hF6 hm6 hP6 hD6 hS6 => ?_)
  have hM6 := gM.tr hM5 hm6
  have hP6 : va_P D cls [(a0, .inr (14, rg 107 f6)), (a2, .inl (ca 0, 3001, .inl g2)), (a3, .inl (ca 0, 3001, .inl g3)), (a4, .inr (13, rg 81 g4))] H6 := hP6
  have hD6 : va_D A [(a0, .inr (14, rg 107 f6)), (a2, .inl (ca 0, 3001, .inl g2)), (a3, .inl (ca 0, 3001, .inl g3)), (a4, .inr (13, rg 81 g4))] := hD6
  clear hP5 hD5 hS5 hF5 hM5 hm6
  refine lv_aload_n hx hb d_15_40_30 rfl (lv_at hl 0 rfl) ?_
  refine lv_iconst (v := 0) hx hb d_15_40_31 (by decide) ?_
  refine gputX hx hb hts inW_14 tyX14 tyX14_ok nmX14 hown hK hP6 hD6 hS6 0 rfl rfl hF6 24 (by decide) k_11_22 rfl rfl rfl d_15_40_32 (L' := [(17, .int 0), (16, .int 0), (8, .ref a2), (7, .ref a3), (6, .ref a4)]) rfl (fun f7 H7 locs7 hF7 hm7 hP7 hD7 hS7 => ?_)
  have hM7 := gM.tr hM6 hm7
  have hP7 : va_P D cls [(a0, .inr (14, rg 107 f7)), (a2, .inl (ca 0, 3001, .inl g2)), (a3, .inl (ca 0, 3001, .inl g3)), (a4, .inr (13, rg 81 g4))] H7 := hP7
  have hD7 : va_D A [(a0, .inr (14, rg 107 f7)), (a2, .inl (ca 0, 3001, .inl g2)), (a3, .inl (ca 0, 3001, .inl g3)), (a4, .inr (13, rg 81 g4))] := hD7
  clear hP6 hD6 hS6 hF6 hM6 hm7
  refine lv_aload_n hx hb d_15_40_35 rfl (lv_at hl 0 rfl) ?_
  refine gget hx hb hts inW_14 hown hK hP7 0 rfl rfl hF7 4 rfl (by decide) k_11_4 d_15_40_36 ?_
  refine lv_iconst (v := 0) hx hb d_15_40_39 (by decide) ?_
  refine gput hx hb hts inW_13 tyX13 tyX13_ok nmX13 hown hK hP7 hD7 hS7 3 rfl rfl hp4 1 (by decide) k_9_126 rfl rfl rfl d_15_40_40 (L' := [(1, .int 0)]) rfl (fun f8 H8 locs8 hF8 hm8 hP8 hD8 hS8 => ?_)
  have hM8 := gM.tr (gM.rf (f := g4)) hm8
  have hP8 : va_P D cls [(a0, .inr (14, rg 107 f7)), (a2, .inl (ca 0, 3001, .inl g2)), (a3, .inl (ca 0, 3001, .inl g3)), (a4, .inr (13, rg 81 f8))] H8 := hP8
  have hD8 : va_D A [(a0, .inr (14, rg 107 f7)), (a2, .inl (ca 0, 3001, .inl g2)), (a3, .inl (ca 0, 3001, .inl g3)), (a4, .inr (13, rg 81 f8))] := hD8
  clear hP7 hD7 hS7 hm8
  refine lv_aload_n hx hb d_15_40_43 rfl (lv_at hl 0 rfl) ?_
  refine gget hx hb hts inW_14 hown hK hP8 0 rfl rfl hF7 4 rfl (by decide) k_11_4 d_15_40_44 ?_
  refine lv_iconst (v := 0) hx hb d_15_40_47 (by decide) ?_
  refine gputX hx hb hts inW_13 tyX13 tyX13_ok nmX13 hown hK hP8 hD8 hS8 3 rfl rfl hF8 2 (by decide) k_9_127 rfl rfl rfl d_15_40_48 (L' := [(1, .int 0)]) rfl (fun f9 H9 locs9 hF9 hm9 hP9 hD9 hS9 => ?_)
  have hM9 := gM.tr hM8 hm9
  have hP9 : va_P D cls [(a0, .inr (14, rg 107 f7)), (a2, .inl (ca 0, 3001, .inl g2)), (a3, .inl (ca 0, 3001, .inl g3)), (a4, .inr (13, rg 81 f9))] H9 := hP9
  have hD9 : va_D A [(a0, .inr (14, rg 107 f7)), (a2, .inl (ca 0, 3001, .inl g2)), (a3, .inl (ca 0, 3001, .inl g3)), (a4, .inr (13, rg 81 f9))] := hD9
  clear hP8 hD8 hS8 hF8 hM8 hm9
  refine lv_aload_n hx hb d_15_40_51 rfl (lv_at hl 0 rfl) ?_
  refine gget hx hb hts inW_14 hown hK hP9 0 rfl rfl hF7 4 rfl (by decide) k_11_4 d_15_40_52 ?_
  refine lv_iconst (v := 0) hx hb d_15_40_55 (by decide) ?_
  refine gputX hx hb hts inW_13 tyX13 tyX13_ok nmX13 hown hK hP9 hD9 hS9 3 rfl rfl hF9 3 (by decide) k_9_128 rfl rfl rfl d_15_40_56 (L' := [(1, .int 0)]) rfl (fun f10 H10 locs10 hF10 hm10 hP10 hD10 hS10 => ?_)
  have hM10 := gM.tr hM9 hm10
  have hP10 : va_P D cls [(a0, .inr (14, rg 107 f7)), (a2, .inl (ca 0, 3001, .inl g2)), (a3, .inl (ca 0, 3001, .inl g3)), (a4, .inr (13, rg 81 f10))] H10 := hP10
  have hD10 : va_D A [(a0, .inr (14, rg 107 f7)), (a2, .inl (ca 0, 3001, .inl g2)), (a3, .inl (ca 0, 3001, .inl g3)), (a4, .inr (13, rg 81 f10))] := hD10
  clear hP9 hD9 hS9 hF9 hM9 hm10
  refine lv_aload_n hx hb d_15_40_59 rfl (lv_at hl 0 rfl) ?_
  refine gget hx hb hts inW_14 hown hK hP10 0 rfl rfl hF7 4 rfl (by decide) k_11_4 d_15_40_60 ?_
  refine lv_iconst (v := 4) hx hb d_15_40_63 (by decide) ?_
  refine gputX hx hb hts inW_13 tyX13 tyX13_ok nmX13 hown hK hP10 hD10 hS10 3 rfl rfl hF10 4 (by decide) k_9_129 rfl rfl rfl d_15_40_64 (L' := [(1, .int 0)]) rfl (fun f11 H11 locs11 hF11 hm11 hP11 hD11 hS11 => ?_)
  have hM11 := gM.tr hM10 hm11
  have hP11 : va_P D cls [(a0, .inr (14, rg 107 f7)), (a2, .inl (ca 0, 3001, .inl g2)), (a3, .inl (ca 0, 3001, .inl g3)), (a4, .inr (13, rg 81 f11))] H11 := hP11
  have hD11 : va_D A [(a0, .inr (14, rg 107 f7)), (a2, .inl (ca 0, 3001, .inl g2)), (a3, .inl (ca 0, 3001, .inl g3)), (a4, .inr (13, rg 81 f11))] := hD11
  clear hP10 hD10 hS10 hF10 hM10 hm11
  refine lv_aload_n hx hb d_15_40_67 rfl (lv_at hl 0 rfl) ?_
  refine gget hx hb hts inW_14 hown hK hP11 0 rfl rfl hF7 4 rfl (by decide) k_11_4 d_15_40_68 ?_
  refine lv_iconst (v := 4) hx hb d_15_40_71 (by decide) ?_
  refine gputX hx hb hts inW_13 tyX13 tyX13_ok nmX13 hown hK hP11 hD11 hS11 3 rfl rfl hF11 5 (by decide) k_9_130 rfl rfl rfl d_15_40_72 (L' := [(1, .int 0)]) rfl (fun f12 H12 locs12 hF12 hm12 hP12 hD12 hS12 => ?_)
  have hM12 := gM.tr hM11 hm12
  have hP12 : va_P D cls [(a0, .inr (14, rg 107 f7)), (a2, .inl (ca 0, 3001, .inl g2)), (a3, .inl (ca 0, 3001, .inl g3)), (a4, .inr (13, rg 81 f12))] H12 := hP12
  have hD12 : va_D A [(a0, .inr (14, rg 107 f7)), (a2, .inl (ca 0, 3001, .inl g2)), (a3, .inl (ca 0, 3001, .inl g3)), (a4, .inr (13, rg 81 f12))] := hD12
  clear hP11 hD11 hS11 hF11 hM11 hm12
  refine lv_aload_n hx hb d_15_40_75 rfl (lv_at hl 0 rfl) ?_
  refine gget hx hb hts inW_14 hown hK hP12 0 rfl rfl hF7 4 rfl (by decide) k_11_4 d_15_40_76 ?_
  refine lv_bipush (v := 120) hx hb d_15_40_79 (by decide) ?_
  refine gputX hx hb hts inW_13 tyX13 tyX13_ok nmX13 hown hK hP12 hD12 hS12 3 rfl rfl hF12 6 (by decide) k_9_131 rfl rfl rfl d_15_40_81 (L' := [(1, .int 0)]) rfl (fun f13 H13 locs13 hF13 hm13 hP13 hD13 hS13 => ?_)
  have hM13 := gM.tr hM12 hm13
  have hP13 : va_P D cls [(a0, .inr (14, rg 107 f7)), (a2, .inl (ca 0, 3001, .inl g2)), (a3, .inl (ca 0, 3001, .inl g3)), (a4, .inr (13, rg 81 f13))] H13 := hP13
  have hD13 : va_D A [(a0, .inr (14, rg 107 f7)), (a2, .inl (ca 0, 3001, .inl g2)), (a3, .inl (ca 0, 3001, .inl g3)), (a4, .inr (13, rg 81 f13))] := hD13
  clear hP12 hD12 hS12 hF12 hM12 hm13
  refine lv_aload_n hx hb d_15_40_84 rfl (lv_at hl 0 rfl) ?_
  have hFc14 := va_free (wc := [(a0, .inr (14, rg 107 f7))]) hD13 hS13 hA [0] rfl
  refine va_calli (va_runV (As := []) (rest := []) ⟨hx, hb, hml, hown, hts⟩ (c_M_good_0 l D ca ad av H13.size a0 f7 (hF7.sub [0] rfl)) (cwV 0 hts (gdV k_13_15 k_13_17 ks_152 k_1_9 k_13_18) rfl rfl rfl (by decide +kernel) ⟨Nat.le_of_ble_eq_true rfl, Nat.le_of_ble_eq_true rfl⟩) (gPV hP13 hD13 hK hS13 hA hX [0] (by decide) rfl a0 [] 0 (ci := 14) (r := (RX14, TX14, 107)) rfl rfl) rfl rfl hl.1 rfl (lv_room (Nat.le_of_ble_eq_true rfl)) d_15_40_85 ⟨Nat.le_of_ble_eq_true rfl, Nat.le_of_ble_eq_true rfl⟩) hS13 (fun q _ h => hFc14 q h) hFc14 (fun r14 u14 t14 H14 locs14 ht14 hvm14 hw14 hB14 hz14 hk14 hS14 => ?_)
  have hr14 := hw14
  obtain ⟨hP14, hD14⟩ := gJoin (wr := [(a2, .inl (ca 0, 3001, .inl g2)), (a3, .inl (ca 0, 3001, .inl g3)), (a4, .inr (13, rg 81 f13))]) (w1 := [(a0, .inr (14, rg 107 f7))]) hP13 hD13 [0] [1, 2, 3] rfl rfl (by decide) (by decide) hk14 hFc14 ht14 hB14
  have hP14 : va_P D cls [(a2, .inl (ca 0, 3001, .inl g2)), (a3, .inl (ca 0, 3001, .inl g3)), (a4, .inr (13, rg 81 f13)), (a0, .inr (14, rg 107 f7))] H14 := hP14
  have hD14 : va_D A [(a2, .inl (ca 0, 3001, .inl g2)), (a3, .inl (ca 0, 3001, .inl g3)), (a4, .inr (13, rg 81 f13)), (a0, .inr (14, rg 107 f7))] := hD14
  refine W.widen (k := 0) (n := 0) (Nat.le_of_ble_eq_true rfl) (Nat.le_of_ble_eq_true rfl) ?_
  subst hr14
  refine lv_if_eq (tgt := 138) hx hb d_15_40_88 (by decide) (fun c => absurd c (by decide)) (fun _ => ?_)
  refine lv_aload_n hx hb d_15_40_91 rfl (lv_at hl 0 rfl) ?_
  refine va_gets hx hb (hX.2.2.2.1 _ (List.mem_of_getElem? (i := 1) rfl)) hS14 hown (hts _ k_10_207) (fun _ h => h) d_15_40_92 ?_
  have hFc15 := va_free (wc := [(a0, .inr (14, rg 107 f7)), (a3, .inl (ca 0, 3001, .inl g3))]) hD14 hS14 hA [3, 1] rfl
  refine va_calli (va_runV (As := [.long 7038329]) (rest := []) ⟨hx, hb, hml, hown, hts⟩ (c_M_isWord_0 l D ca ad av H14.size a0 a3 f7 g3 (hF7.sub [1, 3] rfl) (hp3.sub [0] rfl)) (cwV 1 hts (gdV k_14_112 k_14_114 ks_200 k_1_9 k_14_115) rfl rfl rfl (by decide +kernel) ⟨Nat.le_of_ble_eq_true rfl, Nat.le_of_ble_eq_true rfl⟩) (gPV hP14 hD14 hK hS14 hA hX [3, 1] (by decide) rfl a0 [.long 7038329] 3 (ci := 14) (r := (RX14, TX14, 107)) rfl rfl) rfl rfl hl.1 rfl (lv_room (Nat.le_of_ble_eq_true rfl)) d_15_40_95 ⟨Nat.le_of_ble_eq_true rfl, Nat.le_of_ble_eq_true rfl⟩) hS14 (fun q _ h => hFc15 q h) hFc15 (fun r15 u15 t15 H15 locs15 ht15 hvm15 hw15 hB15 hz15 hk15 hS15 => ?_)
  have hr15 := hw15
  obtain ⟨hP15, hD15⟩ := gJoin (wr := [(a2, .inl (ca 0, 3001, .inl g2)), (a4, .inr (13, rg 81 f13))]) (w1 := [(a0, .inr (14, rg 107 f7)), (a3, .inl (ca 0, 3001, .inl g3))]) hP14 hD14 [3, 1] [0, 2] rfl rfl (by decide) (by decide) hk15 hFc15 ht15 hB15
  have hP15 : va_P D cls [(a2, .inl (ca 0, 3001, .inl g2)), (a4, .inr (13, rg 81 f13)), (a0, .inr (14, rg 107 f7)), (a3, .inl (ca 0, 3001, .inl g3))] H15 := hP15
  have hD15 : va_D A [(a2, .inl (ca 0, 3001, .inl g2)), (a4, .inr (13, rg 81 f13)), (a0, .inr (14, rg 107 f7)), (a3, .inl (ca 0, 3001, .inl g3))] := hD15
  refine W.widen (k := 0) (n := 0) (Nat.le_of_ble_eq_true rfl) (Nat.le_of_ble_eq_true rfl) ?_
  subst hr15
  refine lv_if_ne (tgt := 131) hx hb d_15_40_98 (by decide) (fun c => absurd c (by decide)) (fun _ => ?_)
  refine lv_aload_n hx hb d_15_40_101 rfl (lv_at hl 0 rfl) ?_
  refine va_gets hx hb (hX.2.2.2.1 _ (List.mem_of_getElem? (i := 4) rfl)) hS15 hown (hts _ k_10_213) (fun _ h => h) d_15_40_102 ?_
  have hFc16 := va_free (wc := [(a0, .inr (14, rg 107 f7)), (a3, .inl (ca 0, 3001, .inl g3))]) hD15 hS15 hA [2, 3] rfl
  refine va_calli (va_runV (As := [.long 1953066341]) (rest := []) ⟨hx, hb, hml, hown, hts⟩ (c_M_isWord_1 l D ca ad av H15.size a0 a3 f7 g3 (hF7.sub [1, 3] rfl) (hp3.sub [0] rfl)) (cwV 1 hts (gdV k_14_112 k_14_114 ks_200 k_1_9 k_14_115) rfl rfl rfl (by decide +kernel) ⟨Nat.le_of_ble_eq_true rfl, Nat.le_of_ble_eq_true rfl⟩) (gPV hP15 hD15 hK hS15 hA hX [2, 3] (by decide) rfl a0 [.long 1953066341] 2 (ci := 14) (r := (RX14, TX14, 107)) rfl rfl) rfl rfl hl.1 rfl (lv_room (Nat.le_of_ble_eq_true rfl)) d_15_40_105 ⟨Nat.le_of_ble_eq_true rfl, Nat.le_of_ble_eq_true rfl⟩) hS15 (fun q _ h => hFc16 q h) hFc16 (fun r16 u16 t16 H16 locs16 ht16 hvm16 hw16 hB16 hz16 hk16 hS16 => ?_)
  have hr16 := hw16
  obtain ⟨hP16, hD16⟩ := gJoin (wr := [(a2, .inl (ca 0, 3001, .inl g2)), (a4, .inr (13, rg 81 f13))]) (w1 := [(a0, .inr (14, rg 107 f7)), (a3, .inl (ca 0, 3001, .inl g3))]) hP15 hD15 [2, 3] [0, 1] rfl rfl (by decide) (by decide) hk16 hFc16 ht16 hB16
  have hP16 : va_P D cls [(a2, .inl (ca 0, 3001, .inl g2)), (a4, .inr (13, rg 81 f13)), (a0, .inr (14, rg 107 f7)), (a3, .inl (ca 0, 3001, .inl g3))] H16 := hP16
  have hD16 : va_D A [(a2, .inl (ca 0, 3001, .inl g2)), (a4, .inr (13, rg 81 f13)), (a0, .inr (14, rg 107 f7)), (a3, .inl (ca 0, 3001, .inl g3))] := hD16
  refine W.widen (k := 0) (n := 0) (Nat.le_of_ble_eq_true rfl) (Nat.le_of_ble_eq_true rfl) ?_
  subst hr16
  refine lv_if_ne (tgt := 131) hx hb d_15_40_108 (by decide) (fun c => absurd c (by decide)) (fun _ => ?_)
  refine lv_aload_n hx hb d_15_40_111 rfl (lv_at hl 0 rfl) ?_
  refine va_gets hx hb (hX.2.2.2.1 _ (List.mem_of_getElem? (i := 5) rfl)) hS16 hown (hts _ k_10_215) (fun _ h => h) d_15_40_112 ?_
  have hFc17 := va_free (wc := [(a0, .inr (14, rg 107 f7)), (a3, .inl (ca 0, 3001, .inl g3))]) hD16 hS16 hA [2, 3] rfl
  refine va_calli (va_runV (As := [.long 499917877359]) (rest := []) ⟨hx, hb, hml, hown, hts⟩ (c_M_isWord_2 l D ca ad av H16.size a0 a3 f7 g3 (hF7.sub [1, 3] rfl) (hp3.sub [0] rfl)) (cwV 1 hts (gdV k_14_112 k_14_114 ks_200 k_1_9 k_14_115) rfl rfl rfl (by decide +kernel) ⟨Nat.le_of_ble_eq_true rfl, Nat.le_of_ble_eq_true rfl⟩) (gPV hP16 hD16 hK hS16 hA hX [2, 3] (by decide) rfl a0 [.long 499917877359] 2 (ci := 14) (r := (RX14, TX14, 107)) rfl rfl) rfl rfl hl.1 rfl (lv_room (Nat.le_of_ble_eq_true rfl)) d_15_40_115 ⟨Nat.le_of_ble_eq_true rfl, Nat.le_of_ble_eq_true rfl⟩) hS16 (fun q _ h => hFc17 q h) hFc17 (fun r17 u17 t17 H17 locs17 ht17 hvm17 hw17 hB17 hz17 hk17 hS17 => ?_)
  have hr17 := hw17
  obtain ⟨hP17, hD17⟩ := gJoin (wr := [(a2, .inl (ca 0, 3001, .inl g2)), (a4, .inr (13, rg 81 f13))]) (w1 := [(a0, .inr (14, rg 107 f7)), (a3, .inl (ca 0, 3001, .inl g3))]) hP16 hD16 [2, 3] [0, 1] rfl rfl (by decide) (by decide) hk17 hFc17 ht17 hB17
  have hP17 : va_P D cls [(a2, .inl (ca 0, 3001, .inl g2)), (a4, .inr (13, rg 81 f13)), (a0, .inr (14, rg 107 f7)), (a3, .inl (ca 0, 3001, .inl g3))] H17 := hP17
  have hD17 : va_D A [(a2, .inl (ca 0, 3001, .inl g2)), (a4, .inr (13, rg 81 f13)), (a0, .inr (14, rg 107 f7)), (a3, .inl (ca 0, 3001, .inl g3))] := hD17
  refine W.widen (k := 0) (n := 0) (Nat.le_of_ble_eq_true rfl) (Nat.le_of_ble_eq_true rfl) ?_
  subst hr17
  refine lv_if_ne (tgt := 131) hx hb d_15_40_118 (by decide) (fun c => absurd c (by decide)) (fun _ => ?_)
  refine lv_aload_n hx hb d_15_40_121 rfl (lv_at hl 0 rfl) ?_
  refine va_gets hx hb (hX.2.2.2.1 _ (List.mem_of_getElem? (i := 6) rfl)) hS17 hown (hts _ k_10_217) (fun _ h => h) d_15_40_122 ?_
  have hFc18 := va_free (wc := [(a0, .inr (14, rg 107 f7)), (a3, .inl (ca 0, 3001, .inl g3))]) hD17 hS17 hA [2, 3] rfl
  refine va_calli (va_runV (As := [.long 7103860]) (rest := []) ⟨hx, hb, hml, hown, hts⟩ (c_M_isWord_3 l D ca ad av H17.size a0 a3 f7 g3 (hF7.sub [1, 3] rfl) (hp3.sub [0] rfl)) (cwV 1 hts (gdV k_14_112 k_14_114 ks_200 k_1_9 k_14_115) rfl rfl rfl (by decide +kernel) ⟨Nat.le_of_ble_eq_true rfl, Nat.le_of_ble_eq_true rfl⟩) (gPV hP17 hD17 hK hS17 hA hX [2, 3] (by decide) rfl a0 [.long 7103860] 2 (ci := 14) (r := (RX14, TX14, 107)) rfl rfl) rfl rfl hl.1 rfl (lv_room (Nat.le_of_ble_eq_true rfl)) d_15_40_125 ⟨Nat.le_of_ble_eq_true rfl, Nat.le_of_ble_eq_true rfl⟩) hS17 (fun q _ h => hFc18 q h) hFc18 (fun r18 u18 t18 H18 locs18 ht18 hvm18 hw18 hB18 hz18 hk18 hS18 => ?_)
  have hr18 := hw18
  obtain ⟨hP18, hD18⟩ := gJoin (wr := [(a2, .inl (ca 0, 3001, .inl g2)), (a4, .inr (13, rg 81 f13))]) (w1 := [(a0, .inr (14, rg 107 f7)), (a3, .inl (ca 0, 3001, .inl g3))]) hP17 hD17 [2, 3] [0, 1] rfl rfl (by decide) (by decide) hk18 hFc18 ht18 hB18
  have hP18 : va_P D cls [(a2, .inl (ca 0, 3001, .inl g2)), (a4, .inr (13, rg 81 f13)), (a0, .inr (14, rg 107 f7)), (a3, .inl (ca 0, 3001, .inl g3))] H18 := hP18
  have hD18 : va_D A [(a2, .inl (ca 0, 3001, .inl g2)), (a4, .inr (13, rg 81 f13)), (a0, .inr (14, rg 107 f7)), (a3, .inl (ca 0, 3001, .inl g3))] := hD18
  refine W.widen (k := 0) (n := 0) (Nat.le_of_ble_eq_true rfl) (Nat.le_of_ble_eq_true rfl) ?_
  subst hr18
  refine lv_if_eq (tgt := 138) hx hb d_15_40_128 (by decide) (fun _ => ?_) (fun c => absurd (by decide) c)
  refine lv_iconst (v := 1) hx hb d_15_40_138 (by decide) ?_
  refine lv_istore_n (lv' := [(1, .int 1), (0, .ref a0)]) hx hb d_15_40_139 rfl hl (by decide) rfl (fun ls hl => ?_)
  refine lv_aload_n hx hb d_15_40_140 rfl (lv_at hl 1 rfl) ?_
  have hFc19 := va_free (wc := [(a0, .inr (14, rg 107 f7))]) hD18 hS18 hA [2] rfl
  refine va_calli (va_runV (As := []) (rest := []) ⟨hx, hb, hml, hown, hts⟩ (c_M_good_0 l D ca ad av H18.size a0 f7 (hF7.sub [0] rfl)) (cwV 0 hts (gdV k_13_15 k_13_17 ks_152 k_1_9 k_13_18) rfl rfl rfl (by decide +kernel) ⟨Nat.le_of_ble_eq_true rfl, Nat.le_of_ble_eq_true rfl⟩) (gPV hP18 hD18 hK hS18 hA hX [2] (by decide) rfl a0 [] 2 (ci := 14) (r := (RX14, TX14, 107)) rfl rfl) rfl rfl hl.1 rfl (lv_room (Nat.le_of_ble_eq_true rfl)) d_15_40_141 ⟨Nat.le_of_ble_eq_true rfl, Nat.le_of_ble_eq_true rfl⟩) hS18 (fun q _ h => hFc19 q h) hFc19 (fun r19 u19 t19 H19 locs19 ht19 hvm19 hw19 hB19 hz19 hk19 hS19 => ?_)
  have hr19 := hw19
  obtain ⟨hP19, hD19⟩ := gJoin (wr := [(a2, .inl (ca 0, 3001, .inl g2)), (a4, .inr (13, rg 81 f13)), (a3, .inl (ca 0, 3001, .inl g3))]) (w1 := [(a0, .inr (14, rg 107 f7))]) hP18 hD18 [2] [0, 1, 3] rfl rfl (by decide) (by decide) hk19 hFc19 ht19 hB19
  have hP19 : va_P D cls [(a2, .inl (ca 0, 3001, .inl g2)), (a4, .inr (13, rg 81 f13)), (a3, .inl (ca 0, 3001, .inl g3)), (a0, .inr (14, rg 107 f7))] H19 := hP19
  have hD19 : va_D A [(a2, .inl (ca 0, 3001, .inl g2)), (a4, .inr (13, rg 81 f13)), (a3, .inl (ca 0, 3001, .inl g3)), (a0, .inr (14, rg 107 f7))] := hD19
  refine W.widen (k := 0) (n := 0) (Nat.le_of_ble_eq_true rfl) (Nat.le_of_ble_eq_true rfl) ?_
  subst hr19
  refine lv_if_eq (tgt := 211) hx hb d_15_40_144 (by decide) (fun c => absurd c (by decide)) (fun _ => ?_)
  refine lv_iload_n hx hb d_15_40_147 rfl (lv_at hl 0 rfl) ?_
  refine lv_if_eq (tgt := 211) hx hb d_15_40_148 (by decide) (fun c => absurd c (by decide)) (fun _ => ?_)
  refine lv_aload_n hx hb d_15_40_151 rfl (lv_at hl 1 rfl) ?_
  refine va_gets hx hb (hX.2.2.2.1 _ (List.mem_of_getElem? (i := 7) rfl)) hS19 hown (hts _ k_10_219) (fun _ h => h) d_15_40_152 ?_
  have hFc20 := va_free (wc := [(a0, .inr (14, rg 107 f7)), (a3, .inl (ca 0, 3001, .inl g3))]) hD19 hS19 hA [3, 2] rfl
  refine va_calli (va_runV (As := [.long 508675318629]) (rest := []) ⟨hx, hb, hml, hown, hts⟩ (c_M_isWord_4 l D ca ad av H19.size a0 a3 f7 g3 (hF7.sub [1, 3] rfl) (hp3.sub [0] rfl)) (cwV 1 hts (gdV k_14_112 k_14_114 ks_200 k_1_9 k_14_115) rfl rfl rfl (by decide +kernel) ⟨Nat.le_of_ble_eq_true rfl, Nat.le_of_ble_eq_true rfl⟩) (gPV hP19 hD19 hK hS19 hA hX [3, 2] (by decide) rfl a0 [.long 508675318629] 3 (ci := 14) (r := (RX14, TX14, 107)) rfl rfl) rfl rfl hl.1 rfl (lv_room (Nat.le_of_ble_eq_true rfl)) d_15_40_155 ⟨Nat.le_of_ble_eq_true rfl, Nat.le_of_ble_eq_true rfl⟩) hS19 (fun q _ h => hFc20 q h) hFc20 (fun r20 u20 t20 H20 locs20 ht20 hvm20 hw20 hB20 hz20 hk20 hS20 => ?_)
  have hr20 := hw20
  obtain ⟨hP20, hD20⟩ := gJoin (wr := [(a2, .inl (ca 0, 3001, .inl g2)), (a4, .inr (13, rg 81 f13))]) (w1 := [(a0, .inr (14, rg 107 f7)), (a3, .inl (ca 0, 3001, .inl g3))]) hP19 hD19 [3, 2] [0, 1] rfl rfl (by decide) (by decide) hk20 hFc20 ht20 hB20
  have hP20 : va_P D cls [(a2, .inl (ca 0, 3001, .inl g2)), (a4, .inr (13, rg 81 f13)), (a0, .inr (14, rg 107 f7)), (a3, .inl (ca 0, 3001, .inl g3))] H20 := hP20
  have hD20 : va_D A [(a2, .inl (ca 0, 3001, .inl g2)), (a4, .inr (13, rg 81 f13)), (a0, .inr (14, rg 107 f7)), (a3, .inl (ca 0, 3001, .inl g3))] := hD20
  refine W.widen (k := 0) (n := 0) (Nat.le_of_ble_eq_true rfl) (Nat.le_of_ble_eq_true rfl) ?_
  subst hr20
  refine lv_if_eq (tgt := 179) hx hb d_15_40_158 (by decide) (fun _ => ?_) (fun c => absurd (by decide) c)
  refine lv_aload_n hx hb d_15_40_179 rfl (lv_at hl 1 rfl) ?_
  have hFc21 := va_free (wc := [(a0, .inr (14, rg 107 f7)), (a2, .inl (ca 0, 3001, .inl g2)), (a3, .inl (ca 0, 3001, .inl g3))]) hD20 hS20 hA [2, 0, 3] rfl
  refine va_callv (va_runV (As := []) (rest := []) ⟨hx, hb, hml, hown, hts⟩ (c_M_wrong_0 l D ca ad av H20.size a0 a2 a3 f7 g2 g3 (hF7.sub [0, 1, 2, 3] rfl) (hp2.sub [0] rfl) (hp3.sub [0] rfl)) (cwV 0 hts (gdV k_14_124 k_14_126 ks_203 k_1_9 k_14_127) rfl rfl rfl (by decide +kernel) ⟨Nat.le_of_ble_eq_true rfl, Nat.le_of_ble_eq_true rfl⟩) (gPV hP20 hD20 hK hS20 hA hX [2, 0, 3] (by decide) rfl a0 [] 2 (ci := 14) (r := (RX14, TX14, 107)) rfl rfl) rfl rfl hl.1 rfl (lv_room (Nat.le_of_ble_eq_true rfl)) d_15_40_180 ⟨Nat.le_of_ble_eq_true rfl, Nat.le_of_ble_eq_true rfl⟩) hS20 (fun q _ h => hFc21 q h) hFc21 (fun x21_0 t21 H21 locs21 ht21 hvm21 hw21 hB21 hz21 hk21 hS21 => ?_)
  obtain ⟨hw21_0, hw21_1⟩ := hw21
  obtain ⟨hP21, hD21⟩ := gJoin (wr := [(a4, .inr (13, rg 81 f13))]) (w1 := [(a0, .inr (14, rg 107 x21_0)), (a2, .inl (ca 0, 3001, .inl g2)), (a3, .inl (ca 0, 3001, .inl g3))]) hP20 hD20 [2, 0, 3] [1] rfl rfl (by decide) (by decide) hk21 hFc21 ht21 hB21
  have hF21_0 : gF x21_0 [(18, .int 0), (17, .int 2), (16, .int 0), (8, .ref a2), (7, .ref a3), (6, .ref a4)] := gF.upd hF7 hw21_0 hw21_1 rfl
  have hM21_0 := gM.tr hM7 hw21_0
  have hP21 : va_P D cls [(a4, .inr (13, rg 81 f13)), (a0, .inr (14, rg 107 x21_0)), (a2, .inl (ca 0, 3001, .inl g2)), (a3, .inl (ca 0, 3001, .inl g3))] H21 := hP21
  have hD21 : va_D A [(a4, .inr (13, rg 81 f13)), (a0, .inr (14, rg 107 x21_0)), (a2, .inl (ca 0, 3001, .inl g2)), (a3, .inl (ca 0, 3001, .inl g3))] := hD21
  refine W.widen (k := 0) (n := 0) (Nat.le_of_ble_eq_true rfl) (Nat.le_of_ble_eq_true rfl) ?_
  refine lv_aload_n hx hb d_15_40_183 rfl (lv_at hl 1 rfl) ?_
  have hFc22 := va_free (wc := [(a0, .inr (14, rg 107 x21_0))]) hD21 hS21 hA [1] rfl
  refine va_calli (va_runV (As := []) (rest := []) ⟨hx, hb, hml, hown, hts⟩ (c_M_good_1 l D ca ad av H21.size a0 x21_0 (hF21_0.sub [1] rfl)) (cwV 0 hts (gdV k_13_15 k_13_17 ks_152 k_1_9 k_13_18) rfl rfl rfl (by decide +kernel) ⟨Nat.le_of_ble_eq_true rfl, Nat.le_of_ble_eq_true rfl⟩) (gPV hP21 hD21 hK hS21 hA hX [1] (by decide) rfl a0 [] 1 (ci := 14) (r := (RX14, TX14, 107)) rfl rfl) rfl rfl hl.1 rfl (lv_room (Nat.le_of_ble_eq_true rfl)) d_15_40_184 ⟨Nat.le_of_ble_eq_true rfl, Nat.le_of_ble_eq_true rfl⟩) hS21 (fun q _ h => hFc22 q h) hFc22 (fun r22 u22 t22 H22 locs22 ht22 hvm22 hw22 hB22 hz22 hk22 hS22 => ?_)
  have hr22 := hw22
  obtain ⟨hP22, hD22⟩ := gJoin (wr := [(a4, .inr (13, rg 81 f13)), (a2, .inl (ca 0, 3001, .inl g2)), (a3, .inl (ca 0, 3001, .inl g3))]) (w1 := [(a0, .inr (14, rg 107 x21_0))]) hP21 hD21 [1] [0, 2, 3] rfl rfl (by decide) (by decide) hk22 hFc22 ht22 hB22
  have hP22 : va_P D cls [(a4, .inr (13, rg 81 f13)), (a2, .inl (ca 0, 3001, .inl g2)), (a3, .inl (ca 0, 3001, .inl g3)), (a0, .inr (14, rg 107 x21_0))] H22 := hP22
  have hD22 : va_D A [(a4, .inr (13, rg 81 f13)), (a2, .inl (ca 0, 3001, .inl g2)), (a3, .inl (ca 0, 3001, .inl g3)), (a0, .inr (14, rg 107 x21_0))] := hD22
  refine W.widen (k := 0) (n := 0) (Nat.le_of_ble_eq_true rfl) (Nat.le_of_ble_eq_true rfl) ?_
  subst hr22
  refine lv_if_eq (tgt := 206) hx hb d_15_40_187 (by decide) (fun _ => ?_) (fun c => absurd (by decide) c)
  refine lv_iconst (v := 0) hx hb d_15_40_206 (by decide) ?_
  refine lv_istore_n (lv' := [(1, .int 0), (0, .ref a0)]) hx hb d_15_40_207 rfl hl (by decide) rfl (fun ls hl => ?_)
  refine lv_goto (tgt := 140) hx hb d_15_40_208 (by decide) ?_
  refine lv_aload_n hx hb d_15_40_140 rfl (lv_at hl 1 rfl) ?_
  have hFc23 := va_free (wc := [(a0, .inr (14, rg 107 x21_0))]) hD22 hS22 hA [3] rfl
  refine va_calli (va_runV (As := []) (rest := []) ⟨hx, hb, hml, hown, hts⟩ (c_M_good_1 l D ca ad av H22.size a0 x21_0 (hF21_0.sub [1] rfl)) (cwV 0 hts (gdV k_13_15 k_13_17 ks_152 k_1_9 k_13_18) rfl rfl rfl (by decide +kernel) ⟨Nat.le_of_ble_eq_true rfl, Nat.le_of_ble_eq_true rfl⟩) (gPV hP22 hD22 hK hS22 hA hX [3] (by decide) rfl a0 [] 3 (ci := 14) (r := (RX14, TX14, 107)) rfl rfl) rfl rfl hl.1 rfl (lv_room (Nat.le_of_ble_eq_true rfl)) d_15_40_141 ⟨Nat.le_of_ble_eq_true rfl, Nat.le_of_ble_eq_true rfl⟩) hS22 (fun q _ h => hFc23 q h) hFc23 (fun r23 u23 t23 H23 locs23 ht23 hvm23 hw23 hB23 hz23 hk23 hS23 => ?_)
  have hr23 := hw23
  obtain ⟨hP23, hD23⟩ := gJoin (wr := [(a4, .inr (13, rg 81 f13)), (a2, .inl (ca 0, 3001, .inl g2)), (a3, .inl (ca 0, 3001, .inl g3))]) (w1 := [(a0, .inr (14, rg 107 x21_0))]) hP22 hD22 [3] [0, 1, 2] rfl rfl (by decide) (by decide) hk23 hFc23 ht23 hB23
  have hP23 : va_P D cls [(a4, .inr (13, rg 81 f13)), (a2, .inl (ca 0, 3001, .inl g2)), (a3, .inl (ca 0, 3001, .inl g3)), (a0, .inr (14, rg 107 x21_0))] H23 := hP23
  have hD23 : va_D A [(a4, .inr (13, rg 81 f13)), (a2, .inl (ca 0, 3001, .inl g2)), (a3, .inl (ca 0, 3001, .inl g3)), (a0, .inr (14, rg 107 x21_0))] := hD23
  refine W.widen (k := 0) (n := 0) (Nat.le_of_ble_eq_true rfl) (Nat.le_of_ble_eq_true rfl) ?_
  subst hr23
  refine lv_if_eq (tgt := 211) hx hb d_15_40_144 (by decide) (fun _ => ?_) (fun c => absurd (by decide) c)
  have hP9 := hP23.sub (ws' := [(a0, .inr (14, rg 107 x21_0)), (a2, .inl (ca 0, 3001, .inl g2)), (a3, .inl (ca 0, 3001, .inl g3)), (a4, .inr (13, rg 81 f13))]) [3, 1, 2, 0] rfl
  have hD9 := hD23.sub (ws' := [(a0, .inr (14, rg 107 x21_0)), (a2, .inl (ca 0, 3001, .inl g2)), (a3, .inl (ca 0, 3001, .inl g3)), (a4, .inr (13, rg 81 f13))]) [3, 1, 2, 0] (by decide) rfl
  refine W.widen (k := 0) (n := 0) (Nat.le_of_ble_eq_true rfl) (Nat.le_of_ble_eq_true rfl) ?_
  exact W.vret hx hb hr (fun t ht hW => ⟨⟨(x21_0, f13), rfl, ⟨hM21_0.mono (by decide), hF21_0.sub [0, 1, 2] rfl, hM13.mono (by decide), hF13.sub [0] rfl⟩, by rw [ht]; exact hP9, va_K.moved hW.alike hK, hD9⟩, hS23.F ht⟩) hS23.2.2 d_15_40_211
abbrev Q_M_read_0 (D : va_G) (ca : Nat → ClassId) (a0 : Nat) (a2 : Nat) (a3 : Nat) (a4 : Nat) (g0 : Nat → Value) (g2 : Nat → Int32) (g3 : Nat → Int32) (g4 : Nat → Value) (v0 : Int32) (A : Nat → Prop) : Array Value → State → Outcome → State → Prop := va_Qi (S := (Nat → Value) × (Nat → Int32) × (Nat → Int32) × (Nat → Value)) (fun (r : Int32) (u : (Nat → Value) × (Nat → Int32) × (Nat → Int32) × (Nat → Value)) => ((v0 < 0 → r = (-1)) ∧ (¬ v0 < 0 → v0 ≤ 1 → r = 2) ∧ (¬ v0 < 0 → ¬ v0 ≤ 1 → r = (-1))) ∧ gM g0 u.1 [18, 17, 24, 23, 22, 27, 19, 16, 3, 12] ∧ gF u.1 [(3, .int 0)] ∧ gF u.2.1 [] ∧ gF u.2.2.1 [] ∧ gM g4 u.2.2.2 [6, 5, 4, 3, 2, 1] ∧ gF u.2.2.2 []) (fun u => gB D ca A [(a0, .inr (14, rg 107 u.1)), (a2, .inl (ca 0, 3001, .inl u.2.1)), (a3, .inl (ca 0, 3001, .inl u.2.2.1)), (a4, .inr (13, rg 81 u.2.2.2))]) A
set_option maxHeartbeats 8000000 in
set_option maxRecDepth 100000 in
theorem c_M_read_0 (l : Launch) (D : va_G) (ca : Nat → ClassId) (ad av : Nat → Nat) (sz : Nat) (a0 : Nat) (a2 : Nat) (a3 : Nat) (a4 : Nat) (g0 : Nat → Value) (g2 : Nat → Int32) (g3 : Nat → Int32) (g4 : Nat → Value) (v0 : Int32) (hp0 : gF g0 [(8, .ref a2), (7, .ref a3), (6, .ref a4), (3, .int 0)]) (hp2 : gF g2 []) (hp3 : gF g3 []) (hp4 : gF g4 []) : Met l ({ cls := "StaveHouseModel", name := "read", desc := "(I)I" } : Jvm.MethodName) (Cond.code ({ cls := "StaveHouseModel", name := "read", desc := "(I)I" } : Jvm.MethodName) prog_15_method_202_code 4 (Option.some Jvm.ClassFile.FieldType.int) :: wAll) ({ frames := 4, cells := 0, slots := 0, locals := 84 } : Room) (va_Pc [.ref a0, .int v0] (gPre D ca ad av [(a0, .inr (14, rg 107 g0)), (a2, .inl (ca 0, 3001, .inl g2)), (a3, .inl (ca 0, 3001, .inl g3)), (a4, .inr (13, rg 81 g4))] sz)) (Q_M_read_0 D ca a0 a2 a3 a4 g0 g2 g3 g4 v0 (va_A [(a0, .inr (14, rg 107 g0)), (a2, .inl (ca 0, 3001, .inl g2)), (a3, .inl (ca 0, 3001, .inl g3)), (a4, .inr (13, rg 81 g4))] sz)) 0 0 (va_A [(a0, .inr (14, rg 107 g0)), (a2, .inl (ca 0, 3001, .inl g2)), (a3, .inl (ca 0, 3001, .inl g3)), (a4, .inr (13, rg 81 g4))] sz) := by
  refine gMet (Qc := Q_M_read_0 D ca a0 a2 a3 a4 g0 g2 g3 g4 v0) (lv := [(0, .ref a0), (1, .int v0)]) (by decide) (Nat.le_of_ble_eq_true rfl) rfl (fun A p e s m below meth c ls hx hb hr hml hown hts hlk hnm hl hP hK hD hS hA hX => ?_)
  have hown : s.vm.findClass "StaveHouseModel" = some m.cls := hown
  have hnm : meth.name = "read" := hnm
  refine lv_iload_n hx hb d_15_202_0 rfl (lv_at hl 1 rfl) ?_
  refine lv_if_lt (tgt := 9) hx hb d_15_202_1 (by decide) (fun c1 => ?_) (fun c1 => ?_)
  · refine lv_iconst (v := (-1)) hx hb d_15_202_9 (by decide) ?_
    have hP9 := hP.sub (ws' := [(a0, .inr (14, rg 107 g0)), (a2, .inl (ca 0, 3001, .inl g2)), (a3, .inl (ca 0, 3001, .inl g3)), (a4, .inr (13, rg 81 g4))]) [0, 1, 2, 3] rfl
    have hD9 := hD.sub (ws' := [(a0, .inr (14, rg 107 g0)), (a2, .inl (ca 0, 3001, .inl g2)), (a3, .inl (ca 0, 3001, .inl g3)), (a4, .inr (13, rg 81 g4))]) [0, 1, 2, 3] (by decide) rfl
    refine W.widen (k := 0) (n := 0) (Nat.le_of_ble_eq_true rfl) (Nat.le_of_ble_eq_true rfl) ?_
    exact W.iret (v := (-1)) hx hb hr (fun t ht hW => ⟨⟨(-1), (g0, g2, g3, g4), rfl, ⟨⟨(fun _ => rfl), (fun z0 z1 => absurd c1 z0), (fun z0 z1 => absurd c1 z0)⟩, (gM.rf.mono (by decide)), hp0.sub [3] rfl, hp2.sub [] rfl, hp3.sub [] rfl, (gM.rf.mono (by decide)), hp4.sub [] rfl⟩, by rw [ht]; exact hP9, va_K.moved hW.alike hK, hD9⟩, hS.F ht⟩) hS.2.2 d_15_202_10
  · refine lv_iload_n hx hb d_15_202_4 rfl (lv_at hl 1 rfl) ?_
    refine lv_iconst (v := 1) hx hb d_15_202_5 (by decide) ?_
    refine lv_icmp_le (tgt := 11) hx hb d_15_202_6 (by decide) (fun c2 => ?_) (fun c2 => ?_)
    · refine lv_aload_n hx hb d_15_202_11 rfl (lv_at hl 0 rfl) ?_
      have hFc3 := va_free (wc := [(a0, .inr (14, rg 107 g0)), (a2, .inl (ca 0, 3001, .inl g2)), (a3, .inl (ca 0, 3001, .inl g3))]) hD hS hA [0, 1, 2] rfl
      refine va_callv (va_runV (As := []) (rest := []) ⟨hx, hb, hml, hown, hts⟩ (c_M_cut_0 l D ca ad av s.heap.size a0 a2 a3 g0 g2 g3 (hp0.sub [0, 1, 3] rfl) (hp2.sub [] rfl) (hp3.sub [] rfl)) (cwV 0 hts (gdV k_14_83 k_14_85 ks_196 k_1_9 k_14_86) rfl rfl rfl (by decide +kernel) ⟨Nat.le_of_ble_eq_true rfl, Nat.le_of_ble_eq_true rfl⟩) (gPV hP hD hK hS hA hX [0, 1, 2] (by decide) rfl a0 [] 0 (ci := 14) (r := (RX14, TX14, 107)) rfl rfl) rfl rfl hl.1 rfl (lv_room (Nat.le_of_ble_eq_true rfl)) d_15_202_12 ⟨Nat.le_of_ble_eq_true rfl, Nat.le_of_ble_eq_true rfl⟩) hS (fun q _ h => hFc3 q h) hFc3 (fun u3 t3 H3 locs3 ht3 hvm3 hw3 hB3 hz3 hk3 hS3 => ?_)
      obtain ⟨x3_0, x3_1, x3_2⟩ := u3
      try dsimp only at hw3 hB3
      obtain ⟨hw3_0, hw3_1, hw3_2, hw3_3⟩ := hw3
      obtain ⟨hP3, hD3⟩ := gJoin (wr := [(a4, .inr (13, rg 81 g4))]) (w1 := [(a0, .inr (14, rg 107 x3_0)), (a2, .inl (ca 0, 3001, .inl x3_1)), (a3, .inl (ca 0, 3001, .inl x3_2))]) hP hD [0, 1, 2] [3] rfl rfl (by decide) (by decide) hk3 hFc3 ht3 hB3
      have hF3_0 : gF x3_0 [(12, .int 0), (8, .ref a2), (7, .ref a3), (6, .ref a4), (3, .int 0)] := gF.upd hp0 hw3_0 hw3_1 rfl
      have hM3_0 := gM.tr (gM.rf (f := g0)) hw3_0
      have hP3 : va_P D cls [(a4, .inr (13, rg 81 g4)), (a0, .inr (14, rg 107 x3_0)), (a2, .inl (ca 0, 3001, .inl x3_1)), (a3, .inl (ca 0, 3001, .inl x3_2))] H3 := hP3
      have hD3 : va_D A [(a4, .inr (13, rg 81 g4)), (a0, .inr (14, rg 107 x3_0)), (a2, .inl (ca 0, 3001, .inl x3_1)), (a3, .inl (ca 0, 3001, .inl x3_2))] := hD3
      refine W.widen (k := 0) (n := 0) (Nat.le_of_ble_eq_true rfl) (Nat.le_of_ble_eq_true rfl) ?_
      refine lv_aload_n hx hb d_15_202_15 rfl (lv_at hl 0 rfl) ?_
      refine lv_iconst (v := 0) hx hb d_15_202_16 (by decide) ?_
      refine gput hx hb hts inW_14 tyX14 tyX14_ok nmX14 hown hK hP3 hD3 hS3 1 rfl rfl hF3_0 3 (by decide) k_11_1 rfl rfl rfl d_15_202_17 (L' := [(3, .int 0), (12, .int 0), (8, .ref a2), (7, .ref a3), (6, .ref a4)]) rfl (fun f4 H4 locs4 hF4 hm4 hP4 hD4 hS4 => ?_)
      have hM4 := gM.tr hM3_0 hm4
      have hP4 : va_P D cls [(a4, .inr (13, rg 81 g4)), (a0, .inr (14, rg 107 f4)), (a2, .inl (ca 0, 3001, .inl x3_1)), (a3, .inl (ca 0, 3001, .inl x3_2))] H4 := hP4
      have hD4 : va_D A [(a4, .inr (13, rg 81 g4)), (a0, .inr (14, rg 107 f4)), (a2, .inl (ca 0, 3001, .inl x3_1)), (a3, .inl (ca 0, 3001, .inl x3_2))] := hD4
      clear hP3 hD3 hS3 hF3_0 hM3_0 hm4
      refine lv_aload_n hx hb d_15_202_20 rfl (lv_at hl 0 rfl) ?_
      have hFc5 := va_free (wc := [(a0, .inr (14, rg 107 f4)), (a2, .inl (ca 0, 3001, .inl x3_1)), (a3, .inl (ca 0, 3001, .inl x3_2)), (a4, .inr (13, rg 81 g4))]) hD4 hS4 hA [1, 2, 3, 0] rfl
      refine va_callv (va_runV (As := []) (rest := []) ⟨hx, hb, hml, hown, hts⟩ (c_M_text_0 l D ca ad av H4.size a0 a2 a3 a4 f4 x3_1 x3_2 g4 (hF4.sub [2, 3, 4] rfl) (hw3_2.sub [0] rfl) (hw3_3.sub [0] rfl) (hp4.sub [] rfl)) (cwV 0 hts (gdV k_14_108 k_14_110 ks_199 k_1_9 k_14_111) rfl rfl rfl (by decide +kernel) ⟨Nat.le_of_ble_eq_true rfl, Nat.le_of_ble_eq_true rfl⟩) (gPV hP4 hD4 hK hS4 hA hX [1, 2, 3, 0] (by decide) rfl a0 [] 1 (ci := 14) (r := (RX14, TX14, 107)) rfl rfl) rfl rfl hl.1 rfl (lv_room (Nat.le_of_ble_eq_true rfl)) d_15_202_21 ⟨Nat.le_of_ble_eq_true rfl, Nat.le_of_ble_eq_true rfl⟩) hS4 (fun q _ h => hFc5 q h) hFc5 (fun u5 t5 H5 locs5 ht5 hvm5 hw5 hB5 hz5 hk5 hS5 => ?_)
      obtain ⟨x5_0, x5_1⟩ := u5
      try dsimp only at hw5 hB5
      obtain ⟨hw5_0, hw5_1, hw5_2, hw5_3⟩ := hw5
      obtain ⟨hP5, hD5⟩ := gJoin (wr := []) (w1 := [(a0, .inr (14, rg 107 x5_0)), (a2, .inl (ca 0, 3001, .inl x3_1)), (a3, .inl (ca 0, 3001, .inl x3_2)), (a4, .inr (13, rg 81 x5_1))]) hP4 hD4 [1, 2, 3, 0] [] rfl rfl (by decide) (by decide) hk5 hFc5 ht5 hB5
      have hF5_0 : gF x5_0 [(18, .int 0), (17, .int 2), (16, .int 0), (3, .int 0), (12, .int 0), (8, .ref a2), (7, .ref a3), (6, .ref a4)] := gF.upd hF4 hw5_0 hw5_1 rfl
      have hM5_0 := gM.tr hM4 hw5_0
      have hF5_3 : gF x5_1 [(1, .int 0)] := gF.upd hp4 hw5_2 hw5_3 rfl
      have hM5_3 := gM.tr (gM.rf (f := g4)) hw5_2
      have hP5 : va_P D cls [(a0, .inr (14, rg 107 x5_0)), (a2, .inl (ca 0, 3001, .inl x3_1)), (a3, .inl (ca 0, 3001, .inl x3_2)), (a4, .inr (13, rg 81 x5_1))] H5 := hP5
      have hD5 : va_D A [(a0, .inr (14, rg 107 x5_0)), (a2, .inl (ca 0, 3001, .inl x3_1)), (a3, .inl (ca 0, 3001, .inl x3_2)), (a4, .inr (13, rg 81 x5_1))] := hD5
      refine W.widen (k := 0) (n := 0) (Nat.le_of_ble_eq_true rfl) (Nat.le_of_ble_eq_true rfl) ?_
      refine lv_aload_n hx hb d_15_202_24 rfl (lv_at hl 0 rfl) ?_
      have hFc6 := va_free (wc := [(a0, .inr (14, rg 107 x5_0))]) hD5 hS5 hA [0] rfl
      refine va_calli (va_runV (As := []) (rest := []) ⟨hx, hb, hml, hown, hts⟩ (c_M_good_1 l D ca ad av H5.size a0 x5_0 (hF5_0.sub [1] rfl)) (cwV 0 hts (gdV k_13_15 k_13_17 ks_152 k_1_9 k_13_18) rfl rfl rfl (by decide +kernel) ⟨Nat.le_of_ble_eq_true rfl, Nat.le_of_ble_eq_true rfl⟩) (gPV hP5 hD5 hK hS5 hA hX [0] (by decide) rfl a0 [] 0 (ci := 14) (r := (RX14, TX14, 107)) rfl rfl) rfl rfl hl.1 rfl (lv_room (Nat.le_of_ble_eq_true rfl)) d_15_202_25 ⟨Nat.le_of_ble_eq_true rfl, Nat.le_of_ble_eq_true rfl⟩) hS5 (fun q _ h => hFc6 q h) hFc6 (fun r6 u6 t6 H6 locs6 ht6 hvm6 hw6 hB6 hz6 hk6 hS6 => ?_)
      have hr6 := hw6
      obtain ⟨hP6, hD6⟩ := gJoin (wr := [(a2, .inl (ca 0, 3001, .inl x3_1)), (a3, .inl (ca 0, 3001, .inl x3_2)), (a4, .inr (13, rg 81 x5_1))]) (w1 := [(a0, .inr (14, rg 107 x5_0))]) hP5 hD5 [0] [1, 2, 3] rfl rfl (by decide) (by decide) hk6 hFc6 ht6 hB6
      have hP6 : va_P D cls [(a2, .inl (ca 0, 3001, .inl x3_1)), (a3, .inl (ca 0, 3001, .inl x3_2)), (a4, .inr (13, rg 81 x5_1)), (a0, .inr (14, rg 107 x5_0))] H6 := hP6
      have hD6 : va_D A [(a2, .inl (ca 0, 3001, .inl x3_1)), (a3, .inl (ca 0, 3001, .inl x3_2)), (a4, .inr (13, rg 81 x5_1)), (a0, .inr (14, rg 107 x5_0))] := hD6
      refine W.widen (k := 0) (n := 0) (Nat.le_of_ble_eq_true rfl) (Nat.le_of_ble_eq_true rfl) ?_
      subst hr6
      refine lv_if_eq (tgt := 35) hx hb d_15_202_28 (by decide) (fun _ => ?_) (fun c => absurd (by decide) c)
      refine lv_aload_n hx hb d_15_202_35 rfl (lv_at hl 0 rfl) ?_
      have hFc7 := va_free (wc := [(a0, .inr (14, rg 107 x5_0))]) hD6 hS6 hA [3] rfl
      refine va_calli (va_runV (As := []) (rest := []) ⟨hx, hb, hml, hown, hts⟩ (c_M_good_1 l D ca ad av H6.size a0 x5_0 (hF5_0.sub [1] rfl)) (cwV 0 hts (gdV k_13_15 k_13_17 ks_152 k_1_9 k_13_18) rfl rfl rfl (by decide +kernel) ⟨Nat.le_of_ble_eq_true rfl, Nat.le_of_ble_eq_true rfl⟩) (gPV hP6 hD6 hK hS6 hA hX [3] (by decide) rfl a0 [] 3 (ci := 14) (r := (RX14, TX14, 107)) rfl rfl) rfl rfl hl.1 rfl (lv_room (Nat.le_of_ble_eq_true rfl)) d_15_202_36 ⟨Nat.le_of_ble_eq_true rfl, Nat.le_of_ble_eq_true rfl⟩) hS6 (fun q _ h => hFc7 q h) hFc7 (fun r7 u7 t7 H7 locs7 ht7 hvm7 hw7 hB7 hz7 hk7 hS7 => ?_)
      have hr7 := hw7
      obtain ⟨hP7, hD7⟩ := gJoin (wr := [(a2, .inl (ca 0, 3001, .inl x3_1)), (a3, .inl (ca 0, 3001, .inl x3_2)), (a4, .inr (13, rg 81 x5_1))]) (w1 := [(a0, .inr (14, rg 107 x5_0))]) hP6 hD6 [3] [0, 1, 2] rfl rfl (by decide) (by decide) hk7 hFc7 ht7 hB7
      have hP7 : va_P D cls [(a2, .inl (ca 0, 3001, .inl x3_1)), (a3, .inl (ca 0, 3001, .inl x3_2)), (a4, .inr (13, rg 81 x5_1)), (a0, .inr (14, rg 107 x5_0))] H7 := hP7
      have hD7 : va_D A [(a2, .inl (ca 0, 3001, .inl x3_1)), (a3, .inl (ca 0, 3001, .inl x3_2)), (a4, .inr (13, rg 81 x5_1)), (a0, .inr (14, rg 107 x5_0))] := hD7
      refine W.widen (k := 0) (n := 0) (Nat.le_of_ble_eq_true rfl) (Nat.le_of_ble_eq_true rfl) ?_
      subst hr7
      refine lv_if_ne (tgt := 55) hx hb d_15_202_39 (by decide) (fun c => absurd c (by decide)) (fun _ => ?_)
      refine lv_aload_n hx hb d_15_202_42 rfl (lv_at hl 0 rfl) ?_
      refine gget hx hb hts inW_14 hown hK hP7 3 rfl rfl hF5_0 1 rfl (by decide) k_11_15 d_15_202_43 ?_
      refine lv_bipush (v := 16) hx hb d_15_202_46 (by decide) ?_
      refine lv_aload_n hx hb d_15_202_48 rfl (lv_at hl 0 rfl) ?_
      refine gget hx hb hts inW_14 hown hK hP7 3 rfl rfl hF5_0 0 rfl (by decide) k_11_16 d_15_202_49 ?_
      refine lv_imul hx hb d_15_202_52 ?_
      refine lv_topi (fun y8 ey8 => ?_)
      obtain rfl : y8 = 0 := ey8.trans (by decide)
      refine lv_iadd hx hb d_15_202_53 ?_
      refine lv_topi (fun y9 ey9 => ?_)
      obtain rfl : y9 = 2 := ey9.trans (by decide)
      have hP9 := hP7.sub (ws' := [(a0, .inr (14, rg 107 x5_0)), (a2, .inl (ca 0, 3001, .inl x3_1)), (a3, .inl (ca 0, 3001, .inl x3_2)), (a4, .inr (13, rg 81 x5_1))]) [3, 0, 1, 2] rfl
      have hD9 := hD7.sub (ws' := [(a0, .inr (14, rg 107 x5_0)), (a2, .inl (ca 0, 3001, .inl x3_1)), (a3, .inl (ca 0, 3001, .inl x3_2)), (a4, .inr (13, rg 81 x5_1))]) [3, 0, 1, 2] (by decide) rfl
      refine W.widen (k := 0) (n := 0) (Nat.le_of_ble_eq_true rfl) (Nat.le_of_ble_eq_true rfl) ?_
      exact W.iret (v := 2) hx hb hr (fun t ht hW => ⟨⟨2, (x5_0, x3_1, x3_2, x5_1), rfl, ⟨⟨(fun z0 => absurd z0 c1), (fun _ _ => rfl), (fun z0 z1 => absurd c2 z1)⟩, hM5_0.mono (by decide), hF5_0.sub [3] rfl, hw3_2.sub [] rfl, hw3_3.sub [] rfl, hM5_3.mono (by decide), hF5_3.sub [] rfl⟩, by rw [ht]; exact hP9, va_K.moved hW.alike hK, hD9⟩, hS7.F ht⟩) hS7.2.2 d_15_202_54
    · refine lv_iconst (v := (-1)) hx hb d_15_202_9 (by decide) ?_
      have hP9 := hP.sub (ws' := [(a0, .inr (14, rg 107 g0)), (a2, .inl (ca 0, 3001, .inl g2)), (a3, .inl (ca 0, 3001, .inl g3)), (a4, .inr (13, rg 81 g4))]) [0, 1, 2, 3] rfl
      have hD9 := hD.sub (ws' := [(a0, .inr (14, rg 107 g0)), (a2, .inl (ca 0, 3001, .inl g2)), (a3, .inl (ca 0, 3001, .inl g3)), (a4, .inr (13, rg 81 g4))]) [0, 1, 2, 3] (by decide) rfl
      refine W.widen (k := 0) (n := 0) (Nat.le_of_ble_eq_true rfl) (Nat.le_of_ble_eq_true rfl) ?_
      exact W.iret (v := (-1)) hx hb hr (fun t ht hW => ⟨⟨(-1), (g0, g2, g3, g4), rfl, ⟨⟨(fun z0 => absurd z0 c1), (fun z0 z1 => absurd z1 c2), (fun _ _ => rfl)⟩, (gM.rf.mono (by decide)), hp0.sub [3] rfl, hp2.sub [] rfl, hp3.sub [] rfl, (gM.rf.mono (by decide)), hp4.sub [] rfl⟩, by rw [ht]; exact hP9, va_K.moved hW.alike hK, hD9⟩, hS.F ht⟩) hS.2.2 d_15_202_10
