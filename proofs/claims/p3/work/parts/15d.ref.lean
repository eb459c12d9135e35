theorem k_10_11 : (Jvm.Cond.fieldLink "StaveHouseModel" (1175 : Nat) "StaveHouseModel$Piece" "moments" "I") ∈ wAll := wA_10 (j := 11) rfl rfl
theorem k_10_13 : (Jvm.Cond.fieldLink "StaveHouseModel" (1182 : Nat) "StaveHouseModel$Piece" "momentUp" "[J") ∈ wAll := wA_10 (j := 13) rfl rfl
theorem k_10_15 : (Jvm.Cond.fieldLink "StaveHouseModel" (1185 : Nat) "StaveHouseModel$Piece" "momentDown" "[J") ∈ wAll := wA_10 (j := 15) rfl rfl
theorem k_10_17 : (Jvm.Cond.fieldLink "StaveHouseModel" (1188 : Nat) "StaveHouseModel$Piece" "lies" "[I") ∈ wAll := wA_10 (j := 17) rfl rfl
theorem k_14_61 : (Jvm.Cond.methodLink "StaveHouseModel" (1237 : Nat) ({ cls := "StaveHouseModel", name := "lineOf", desc := "(LStaveHouseModel$Piece;I)I" } : Jvm.MethodName)) ∈ wAll := wA_14 (j := 61) rfl rfl
theorem k_14_62 : (Jvm.Cond.static ({ cls := "StaveHouseModel", name := "lineOf", desc := "(LStaveHouseModel$Piece;I)I" } : Jvm.MethodName)) ∈ wAll := wA_14 (j := 62) rfl rfl
theorem k_14_63 : (Jvm.Cond.code ({ cls := "StaveHouseModel", name := "lineOf", desc := "(LStaveHouseModel$Piece;I)I" } : Jvm.MethodName) prog_15_method_182_code (4 : Nat) (Option.some Jvm.ClassFile.FieldType.int)) ∈ wAll := wA_14 (j := 63) rfl rfl
theorem k_10_18 : (Jvm.Cond.fieldLink "StaveHouseModel" (1240 : Nat) "StaveHouseModel$Piece" "faults" "I") ∈ wAll := wA_10 (j := 18) rfl rfl
theorem k_10_20 : (Jvm.Cond.fieldLink "StaveHouseModel" (1254 : Nat) "StaveHouseModel$Piece" "faultMoment" "[I") ∈ wAll := wA_10 (j := 20) rfl rfl
theorem k_10_22 : (Jvm.Cond.fieldLink "StaveHouseModel" (1257 : Nat) "StaveHouseModel$Piece" "faultKind" "[I") ∈ wAll := wA_10 (j := 22) rfl rfl
theorem k_10_24 : (Jvm.Cond.fieldLink "StaveHouseModel" (1260 : Nat) "StaveHouseModel$Piece" "faultFirst" "[I") ∈ wAll := wA_10 (j := 24) rfl rfl
theorem k_10_26 : (Jvm.Cond.fieldLink "StaveHouseModel" (1263 : Nat) "StaveHouseModel$Piece" "faultSecond" "[I") ∈ wAll := wA_10 (j := 26) rfl rfl
theorem k_15_121 : (Jvm.Cond.methodLink "StaveHouseModel" (1266 : Nat) ({ cls := "StaveHouseModel", name := "toneAt", desc := "(LStaveHouseModel$Piece;I)I" } : Jvm.MethodName)) ∈ wAll := wA_15 (j := 121) rfl rfl
theorem k_15_122 : (Jvm.Cond.static ({ cls := "StaveHouseModel", name := "toneAt", desc := "(LStaveHouseModel$Piece;I)I" } : Jvm.MethodName)) ∈ wAll := wA_15 (j := 122) rfl rfl
theorem k_15_123 : (Jvm.Cond.code ({ cls := "StaveHouseModel", name := "toneAt", desc := "(LStaveHouseModel$Piece;I)I" } : Jvm.MethodName) prog_15_method_184_code (2 : Nat) (Option.some Jvm.ClassFile.FieldType.int)) ∈ wAll := wA_15 (j := 123) rfl rfl
theorem k_12_102 : (Jvm.Cond.methodLink "StaveHouseModel" (840 : Nat) ({ cls := "StaveHouseModel", name := "ahead", desc := "(LStaveHouseModel$Piece;I)I" } : Jvm.MethodName)) ∈ wAll := wA_12 (j := 102) rfl rfl
theorem k_12_103 : (Jvm.Cond.static ({ cls := "StaveHouseModel", name := "ahead", desc := "(LStaveHouseModel$Piece;I)I" } : Jvm.MethodName)) ∈ wAll := wA_12 (j := 103) rfl rfl
theorem k_12_104 : (Jvm.Cond.code ({ cls := "StaveHouseModel", name := "ahead", desc := "(LStaveHouseModel$Piece;I)I" } : Jvm.MethodName) prog_15_method_105_code (2 : Nat) (Option.some Jvm.ClassFile.FieldType.int)) ∈ wAll := wA_12 (j := 104) rfl rfl
theorem k_9_210 : (Jvm.Cond.fieldLink "StaveHouseModel" (825 : Nat) "StaveHouseModel$Piece" "barWide" "[I") ∈ wAll := wA_9 (j := 210) rfl rfl
theorem k_12_167 : (Jvm.Cond.methodLink "StaveHouseModel" (20 : Nat) ({ cls := "StaveHouseModel", name := "floor", desc := "(II)I" } : Jvm.MethodName)) ∈ wAll := wA_12 (j := 167) rfl rfl
theorem k_12_168 : (Jvm.Cond.static ({ cls := "StaveHouseModel", name := "floor", desc := "(II)I" } : Jvm.MethodName)) ∈ wAll := wA_12 (j := 168) rfl rfl
theorem k_12_169 : (Jvm.Cond.code ({ cls := "StaveHouseModel", name := "floor", desc := "(II)I" } : Jvm.MethodName) prog_15_method_9_code (3 : Nat) (Option.some Jvm.ClassFile.FieldType.int)) ∈ wAll := wA_12 (j := 169) rfl rfl
theorem k_11_87 : (Jvm.Cond.fieldLink "StaveHouseModel" (995 : Nat) "StaveHouseModel" "p" "I") ∈ wAll := wA_11 (j := 87) rfl rfl
theorem k_11_88 : (Jvm.Cond.fieldLink "StaveHouseModel" (997 : Nat) "StaveHouseModel" "limit" "J") ∈ wAll := wA_11 (j := 88) rfl rfl
theorem k_13_23 : (Jvm.Cond.methodLink "StaveHouseModel" (336 : Nat) ({ cls := "StaveHouseModel", name := "byteAt", desc := "(I)I" } : Jvm.MethodName)) ∈ wAll := wA_13 (j := 23) rfl rfl
theorem k_13_25 : (Jvm.Cond.instanceMethod ({ cls := "StaveHouseModel", name := "byteAt", desc := "(I)I" } : Jvm.MethodName)) ∈ wAll := wA_13 (j := 25) rfl rfl
theorem ks_154 : (Jvm.Cond.selects "StaveHouseModel" ({ cls := "StaveHouseModel", name := "byteAt", desc := "(I)I" } : Jvm.MethodName) ({ cls := "StaveHouseModel", name := "byteAt", desc := "(I)I" } : Jvm.MethodName)) ∈ wAll := wA_s (j := 154) rfl rfl
theorem k_13_26 : (Jvm.Cond.code ({ cls := "StaveHouseModel", name := "byteAt", desc := "(I)I" } : Jvm.MethodName) prog_15_method_14_code (2 : Nat) (Option.some Jvm.ClassFile.FieldType.int)) ∈ wAll := wA_13 (j := 26) rfl rfl
theorem k_13_11 : (Jvm.Cond.methodLink "StaveHouseModel" (1003 : Nat) ({ cls := "StaveHouseModel", name := "next", desc := "()I" } : Jvm.MethodName)) ∈ wAll := wA_13 (j := 11) rfl rfl
theorem k_13_13 : (Jvm.Cond.instanceMethod ({ cls := "StaveHouseModel", name := "next", desc := "()I" } : Jvm.MethodName)) ∈ wAll := wA_13 (j := 13) rfl rfl
theorem ks_151 : (Jvm.Cond.selects "StaveHouseModel" ({ cls := "StaveHouseModel", name := "next", desc := "()I" } : Jvm.MethodName) ({ cls := "StaveHouseModel", name := "next", desc := "()I" } : Jvm.MethodName)) ∈ wAll := wA_s (j := 151) rfl rfl
theorem k_13_14 : (Jvm.Cond.code ({ cls := "StaveHouseModel", name := "next", desc := "()I" } : Jvm.MethodName) prog_15_method_136_code (1 : Nat) (Option.some Jvm.ClassFile.FieldType.int)) ∈ wAll := wA_13 (j := 14) rfl rfl
theorem k_13_27 : (Jvm.Cond.methodLink "StaveHouseModel" (1006 : Nat) ({ cls := "StaveHouseModel", name := "whole", desc := "(I)J" } : Jvm.MethodName)) ∈ wAll := wA_13 (j := 27) rfl rfl
theorem k_13_29 : (Jvm.Cond.instanceMethod ({ cls := "StaveHouseModel", name := "whole", desc := "(I)J" } : Jvm.MethodName)) ∈ wAll := wA_13 (j := 29) rfl rfl
theorem ks_155 : (Jvm.Cond.selects "StaveHouseModel" ({ cls := "StaveHouseModel", name := "whole", desc := "(I)J" } : Jvm.MethodName) ({ cls := "StaveHouseModel", name := "whole", desc := "(I)J" } : Jvm.MethodName)) ∈ wAll := wA_s (j := 155) rfl rfl
theorem k_13_30 : (Jvm.Cond.code ({ cls := "StaveHouseModel", name := "whole", desc := "(I)J" } : Jvm.MethodName) prog_15_method_138_code (5 : Nat) (Option.some Jvm.ClassFile.FieldType.long)) ∈ wAll := wA_13 (j := 30) rfl rfl
theorem k_12_164 : (Jvm.Cond.methodLink "StaveHouseModel" (307 : Nat) ({ cls := "StaveHouseModel", name := "mod", desc := "(II)I" } : Jvm.MethodName)) ∈ wAll := wA_12 (j := 164) rfl rfl
theorem k_12_165 : (Jvm.Cond.static ({ cls := "StaveHouseModel", name := "mod", desc := "(II)I" } : Jvm.MethodName)) ∈ wAll := wA_12 (j := 165) rfl rfl
theorem k_12_166 : (Jvm.Cond.code ({ cls := "StaveHouseModel", name := "mod", desc := "(II)I" } : Jvm.MethodName) prog_15_method_10_code (2 : Nat) (Option.some Jvm.ClassFile.FieldType.int)) ∈ wAll := wA_12 (j := 166) rfl rfl
theorem k_9_146 : (Jvm.Cond.fieldLink "StaveHouseModel" (521 : Nat) "StaveHouseModel$Piece" "up" "[J") ∈ wAll := wA_9 (j := 146) rfl rfl
theorem k_9_148 : (Jvm.Cond.fieldLink "StaveHouseModel" (524 : Nat) "StaveHouseModel$Piece" "down" "[J") ∈ wAll := wA_9 (j := 148) rfl rfl
theorem k_12_147 : (Jvm.Cond.methodLink "StaveHouseModel" (533 : Nat) ({ cls := "StaveHouseModel", name := "plus", desc := "(JJJJ)V" } : Jvm.MethodName)) ∈ wAll := wA_12 (j := 147) rfl rfl
theorem k_12_149 : (Jvm.Cond.instanceMethod ({ cls := "StaveHouseModel", name := "plus", desc := "(JJJJ)V" } : Jvm.MethodName)) ∈ wAll := wA_12 (j := 149) rfl rfl
theorem ks_135 : (Jvm.Cond.selects "StaveHouseModel" ({ cls := "StaveHouseModel", name := "plus", desc := "(JJJJ)V" } : Jvm.MethodName) ({ cls := "StaveHouseModel", name := "plus", desc := "(JJJJ)V" } : Jvm.MethodName)) ∈ wAll := wA_s (j := 135) rfl rfl
theorem k_12_150 : (Jvm.Cond.code ({ cls := "StaveHouseModel", name := "plus", desc := "(JJJJ)V" } : Jvm.MethodName) prog_15_method_3_code (11 : Nat) (Option.none : Option Jvm.ClassFile.FieldType)) ∈ wAll := wA_12 (j := 150) rfl rfl
theorem k_13_182 : (Jvm.Cond.methodLink "StaveHouseModel" (667 : Nat) ({ cls := "StaveHouseModel", name := "isCompound", desc := "(LStaveHouseModel$Piece;)Z" } : Jvm.MethodName)) ∈ wAll := wA_13 (j := 182) rfl rfl
theorem k_13_183 : (Jvm.Cond.static ({ cls := "StaveHouseModel", name := "isCompound", desc := "(LStaveHouseModel$Piece;)Z" } : Jvm.MethodName)) ∈ wAll := wA_13 (j := 183) rfl rfl
theorem k_13_184 : (Jvm.Cond.code ({ cls := "StaveHouseModel", name := "isCompound", desc := "(LStaveHouseModel$Piece;)Z" } : Jvm.MethodName) prog_15_method_77_code (1 : Nat) (Option.some Jvm.ClassFile.FieldType.boolean)) ∈ wAll := wA_13 (j := 184) rfl rfl
theorem k_13_179 : (Jvm.Cond.methodLink "StaveHouseModel" (673 : Nat) ({ cls := "StaveHouseModel", name := "beat", desc := "(LStaveHouseModel$Piece;)I" } : Jvm.MethodName)) ∈ wAll := wA_13 (j := 179) rfl rfl
theorem k_13_180 : (Jvm.Cond.static ({ cls := "StaveHouseModel", name := "beat", desc := "(LStaveHouseModel$Piece;)I" } : Jvm.MethodName)) ∈ wAll := wA_13 (j := 180) rfl rfl
theorem k_13_181 : (Jvm.Cond.code ({ cls := "StaveHouseModel", name := "beat", desc := "(LStaveHouseModel$Piece;)I" } : Jvm.MethodName) prog_15_method_78_code (1 : Nat) (Option.some Jvm.ClassFile.FieldType.int)) ∈ wAll := wA_13 (j := 181) rfl rfl
theorem k_13_192 : (Jvm.Cond.methodLink "StaveHouseModel" (677 : Nat) ({ cls := "StaveHouseModel", name := "isBetween", desc := "(JJJJJJ)Z" } : Jvm.MethodName)) ∈ wAll := wA_13 (j := 192) rfl rfl
theorem k_13_193 : (Jvm.Cond.static ({ cls := "StaveHouseModel", name := "isBetween", desc := "(JJJJJJ)Z" } : Jvm.MethodName)) ∈ wAll := wA_13 (j := 193) rfl rfl
theorem k_13_194 : (Jvm.Cond.code ({ cls := "StaveHouseModel", name := "isBetween", desc := "(JJJJJJ)Z" } : Jvm.MethodName) prog_15_method_80_code (14 : Nat) (Option.some Jvm.ClassFile.FieldType.boolean)) ∈ wAll := wA_13 (j := 194) rfl rfl
theorem k_13_216 : (Jvm.Cond.methodLink "StaveHouseModel" (1118 : Nat) ({ cls := "StaveHouseModel", name := "turnOf", desc := "(I)J" } : Jvm.MethodName)) ∈ wAll := wA_13 (j := 216) rfl rfl
theorem k_13_217 : (Jvm.Cond.static ({ cls := "StaveHouseModel", name := "turnOf", desc := "(I)J" } : Jvm.MethodName)) ∈ wAll := wA_13 (j := 217) rfl rfl
theorem k_13_218 : (Jvm.Cond.code ({ cls := "StaveHouseModel", name := "turnOf", desc := "(I)J" } : Jvm.MethodName) prog_15_method_162_code (1 : Nat) (Option.some Jvm.ClassFile.FieldType.long)) ∈ wAll := wA_13 (j := 218) rfl rfl
theorem k_13_231 : (Jvm.Cond.constantLong "StaveHouseModel" (1121 : Nat) (4294967295 : Int64)) ∈ wAll := wA_13 (j := 231) rfl rfl
theorem k_13_238 : (Jvm.Cond.methodLink "StaveHouseModel" (1147 : Nat) ({ cls := "StaveHouseModel", name := "rise", desc := "(I)I" } : Jvm.MethodName)) ∈ wAll := wA_13 (j := 238) rfl rfl
theorem k_13_239 : (Jvm.Cond.static ({ cls := "StaveHouseModel", name := "rise", desc := "(I)I" } : Jvm.MethodName)) ∈ wAll := wA_13 (j := 239) rfl rfl
theorem k_14_0 : (Jvm.Cond.code ({ cls := "StaveHouseModel", name := "rise", desc := "(I)I" } : Jvm.MethodName) prog_15_method_163_code (2 : Nat) (Option.some Jvm.ClassFile.FieldType.int)) ∈ wAll := wA_14 (j := 0) rfl rfl
theorem k_11_99 : (Jvm.Cond.fieldLink "StaveHouseModel" (1194 : Nat) "StaveHouseModel" "bass" "I") ∈ wAll := wA_11 (j := 99) rfl rfl
theorem k_14_25 : (Jvm.Cond.methodLink "StaveHouseModel" (1196 : Nat) ({ cls := "StaveHouseModel", name := "classOf", desc := "(II)V" } : Jvm.MethodName)) ∈ wAll := wA_14 (j := 25) rfl rfl
theorem k_14_27 : (Jvm.Cond.instanceMethod ({ cls := "StaveHouseModel", name := "classOf", desc := "(II)V" } : Jvm.MethodName)) ∈ wAll := wA_14 (j := 27) rfl rfl
theorem ks_190 : (Jvm.Cond.selects "StaveHouseModel" ({ cls := "StaveHouseModel", name := "classOf", desc := "(II)V" } : Jvm.MethodName) ({ cls := "StaveHouseModel", name := "classOf", desc := "(II)V" } : Jvm.MethodName)) ∈ wAll := wA_s (j := 190) rfl rfl
theorem k_14_28 : (Jvm.Cond.code ({ cls := "StaveHouseModel", name := "classOf", desc := "(II)V" } : Jvm.MethodName) prog_15_method_174_code (4 : Nat) (Option.none : Option Jvm.ClassFile.FieldType)) ∈ wAll := wA_14 (j := 28) rfl rfl
theorem k_11_100 : (Jvm.Cond.fieldLink "StaveHouseModel" (1199 : Nat) "StaveHouseModel" "bassStep" "I") ∈ wAll := wA_11 (j := 100) rfl rfl
theorem k_11_101 : (Jvm.Cond.fieldLink "StaveHouseModel" (1202 : Nat) "StaveHouseModel" "bassAlt" "I") ∈ wAll := wA_11 (j := 101) rfl rfl
theorem d_15_172_0 : decode prog_15_method_172_code 0 = .ok (.aload_n 0, 1) := by decide +kernel
theorem d_15_172_1 : decode prog_15_method_172_code 1 = .ok (.getfield 1175, 3) := by decide +kernel
theorem d_15_172_4 : decode prog_15_method_172_code 4 = .ok (.istore 5, 2) := by decide +kernel
theorem d_15_172_6 : decode prog_15_method_172_code 6 = .ok (.iload 5, 2) := by decide +kernel
theorem d_15_172_8 : decode prog_15_method_172_code 8 = .ok (.ifCond .le 35, 3) := by decide +kernel
theorem d_15_172_11 : decode prog_15_method_172_code 11 = .ok (.aload_n 0, 1) := by decide +kernel
theorem d_15_172_12 : decode prog_15_method_172_code 12 = .ok (.getfield 1182, 3) := by decide +kernel
theorem d_15_172_15 : decode prog_15_method_172_code 15 = .ok (.iload 5, 2) := by decide +kernel
theorem d_15_172_17 : decode prog_15_method_172_code 17 = .ok (.iconst 1, 1) := by decide +kernel
theorem d_15_172_18 : decode prog_15_method_172_code 18 = .ok (.isub, 1) := by decide +kernel
theorem d_15_172_19 : decode prog_15_method_172_code 19 = .ok (.laload, 1) := by decide +kernel
theorem d_15_172_20 : decode prog_15_method_172_code 20 = .ok (.aload_n 0, 1) := by decide +kernel
theorem d_15_172_21 : decode prog_15_method_172_code 21 = .ok (.getfield 1185, 3) := by decide +kernel
theorem d_15_172_24 : decode prog_15_method_172_code 24 = .ok (.iload 5, 2) := by decide +kernel
theorem d_15_172_26 : decode prog_15_method_172_code 26 = .ok (.iconst 1, 1) := by decide +kernel
theorem d_15_172_27 : decode prog_15_method_172_code 27 = .ok (.isub, 1) := by decide +kernel
theorem d_15_172_28 : decode prog_15_method_172_code 28 = .ok (.laload, 1) := by decide +kernel
theorem d_15_172_29 : decode prog_15_method_172_code 29 = .ok (.lload_n 1, 1) := by decide +kernel
theorem d_15_172_30 : decode prog_15_method_172_code 30 = .ok (.lload_n 3, 1) := by decide +kernel
theorem d_15_172_31 : decode prog_15_method_172_code 31 = .ok (.invokestatic 537, 3) := by decide +kernel
theorem d_15_172_34 : decode prog_15_method_172_code 34 = .ok (.ifCond .le 9, 3) := by decide +kernel
theorem d_15_172_37 : decode prog_15_method_172_code 37 = .ok (.iinc 5 (-1), 3) := by decide +kernel
theorem d_15_172_40 : decode prog_15_method_172_code 40 = .ok (.goto (-34), 3) := by decide +kernel
theorem d_15_172_43 : decode prog_15_method_172_code 43 = .ok (.iload 5, 2) := by decide +kernel
theorem d_15_172_45 : decode prog_15_method_172_code 45 = .ok (.ifCond .le 32, 3) := by decide +kernel
theorem d_15_172_48 : decode prog_15_method_172_code 48 = .ok (.aload_n 0, 1) := by decide +kernel
theorem d_15_172_49 : decode prog_15_method_172_code 49 = .ok (.getfield 1182, 3) := by decide +kernel
theorem d_15_172_52 : decode prog_15_method_172_code 52 = .ok (.iload 5, 2) := by decide +kernel
theorem d_15_172_54 : decode prog_15_method_172_code 54 = .ok (.iconst 1, 1) := by decide +kernel
theorem d_15_172_55 : decode prog_15_method_172_code 55 = .ok (.isub, 1) := by decide +kernel
theorem d_15_172_56 : decode prog_15_method_172_code 56 = .ok (.laload, 1) := by decide +kernel
theorem d_15_172_57 : decode prog_15_method_172_code 57 = .ok (.lload_n 1, 1) := by decide +kernel
theorem d_15_172_58 : decode prog_15_method_172_code 58 = .ok (.lcmp, 1) := by decide +kernel
theorem d_15_172_59 : decode prog_15_method_172_code 59 = .ok (.ifCond .ne 18, 3) := by decide +kernel
theorem d_15_172_62 : decode prog_15_method_172_code 62 = .ok (.aload_n 0, 1) := by decide +kernel
theorem d_15_172_63 : decode prog_15_method_172_code 63 = .ok (.getfield 1185, 3) := by decide +kernel
theorem d_15_172_66 : decode prog_15_method_172_code 66 = .ok (.iload 5, 2) := by decide +kernel
theorem d_15_172_68 : decode prog_15_method_172_code 68 = .ok (.iconst 1, 1) := by decide +kernel
theorem d_15_172_69 : decode prog_15_method_172_code 69 = .ok (.isub, 1) := by decide +kernel
theorem d_15_172_70 : decode prog_15_method_172_code 70 = .ok (.laload, 1) := by decide +kernel
theorem d_15_172_71 : decode prog_15_method_172_code 71 = .ok (.lload_n 3, 1) := by decide +kernel
theorem d_15_172_72 : decode prog_15_method_172_code 72 = .ok (.lcmp, 1) := by decide +kernel
theorem d_15_172_73 : decode prog_15_method_172_code 73 = .ok (.ifCond .ne 4, 3) := by decide +kernel
theorem d_15_172_76 : decode prog_15_method_172_code 76 = .ok (.return_, 1) := by decide +kernel
theorem d_15_172_77 : decode prog_15_method_172_code 77 = .ok (.aload_n 0, 1) := by decide +kernel
theorem d_15_172_78 : decode prog_15_method_172_code 78 = .ok (.getfield 1175, 3) := by decide +kernel
theorem d_15_172_81 : decode prog_15_method_172_code 81 = .ok (.istore 6, 2) := by decide +kernel
theorem d_15_172_83 : decode prog_15_method_172_code 83 = .ok (.iload 6, 2) := by decide +kernel
theorem d_15_172_85 : decode prog_15_method_172_code 85 = .ok (.iload 5, 2) := by decide +kernel
theorem d_15_172_87 : decode prog_15_method_172_code 87 = .ok (.if_icmp .le 41, 3) := by decide +kernel
theorem d_15_172_128 : decode prog_15_method_172_code 128 = .ok (.aload_n 0, 1) := by decide +kernel
theorem d_15_172_129 : decode prog_15_method_172_code 129 = .ok (.getfield 1182, 3) := by decide +kernel
theorem d_15_172_132 : decode prog_15_method_172_code 132 = .ok (.iload 5, 2) := by decide +kernel
theorem d_15_172_134 : decode prog_15_method_172_code 134 = .ok (.lload_n 1, 1) := by decide +kernel
theorem d_15_172_135 : decode prog_15_method_172_code 135 = .ok (.lastore, 1) := by decide +kernel
theorem d_15_172_136 : decode prog_15_method_172_code 136 = .ok (.aload_n 0, 1) := by decide +kernel
theorem d_15_172_137 : decode prog_15_method_172_code 137 = .ok (.getfield 1185, 3) := by decide +kernel
theorem d_15_172_140 : decode prog_15_method_172_code 140 = .ok (.iload 5, 2) := by decide +kernel
theorem d_15_172_142 : decode prog_15_method_172_code 142 = .ok (.lload_n 3, 1) := by decide +kernel
theorem d_15_172_143 : decode prog_15_method_172_code 143 = .ok (.lastore, 1) := by decide +kernel
theorem d_15_172_144 : decode prog_15_method_172_code 144 = .ok (.aload_n 0, 1) := by decide +kernel
theorem d_15_172_145 : decode prog_15_method_172_code 145 = .ok (.dup, 1) := by decide +kernel
theorem d_15_172_146 : decode prog_15_method_172_code 146 = .ok (.getfield 1175, 3) := by decide +kernel
theorem d_15_172_149 : decode prog_15_method_172_code 149 = .ok (.iconst 1, 1) := by decide +kernel
theorem d_15_172_150 : decode prog_15_method_172_code 150 = .ok (.iadd, 1) := by decide +kernel
theorem d_15_172_151 : decode prog_15_method_172_code 151 = .ok (.putfield 1175, 3) := by decide +kernel
theorem d_15_172_154 : decode prog_15_method_172_code 154 = .ok (.return_, 1) := by decide +kernel
theorem d_15_172_90 : decode prog_15_method_172_code 90 = .ok (.aload_n 0, 1) := by decide +kernel
theorem d_15_172_91 : decode prog_15_method_172_code 91 = .ok (.getfield 1182, 3) := by decide +kernel
theorem d_15_172_94 : decode prog_15_method_172_code 94 = .ok (.iload 6, 2) := by decide +kernel
theorem d_15_172_96 : decode prog_15_method_172_code 96 = .ok (.aload_n 0, 1) := by decide +kernel
theorem d_15_172_97 : decode prog_15_method_172_code 97 = .ok (.getfield 1182, 3) := by decide +kernel
theorem d_15_172_100 : decode prog_15_method_172_code 100 = .ok (.iload 6, 2) := by decide +kernel
theorem d_15_172_102 : decode prog_15_method_172_code 102 = .ok (.iconst 1, 1) := by decide +kernel
theorem d_15_172_103 : decode prog_15_method_172_code 103 = .ok (.isub, 1) := by decide +kernel
theorem d_15_172_104 : decode prog_15_method_172_code 104 = .ok (.laload, 1) := by decide +kernel
theorem d_15_172_105 : decode prog_15_method_172_code 105 = .ok (.lastore, 1) := by decide +kernel
theorem d_15_172_106 : decode prog_15_method_172_code 106 = .ok (.aload_n 0, 1) := by decide +kernel
theorem d_15_172_107 : decode prog_15_method_172_code 107 = .ok (.getfield 1185, 3) := by decide +kernel
theorem d_15_172_110 : decode prog_15_method_172_code 110 = .ok (.iload 6, 2) := by decide +kernel
theorem d_15_172_112 : decode prog_15_method_172_code 112 = .ok (.aload_n 0, 1) := by decide +kernel
theorem d_15_172_113 : decode prog_15_method_172_code 113 = .ok (.getfield 1185, 3) := by decide +kernel
theorem d_15_172_116 : decode prog_15_method_172_code 116 = .ok (.iload 6, 2) := by decide +kernel
theorem d_15_172_118 : decode prog_15_method_172_code 118 = .ok (.iconst 1, 1) := by decide +kernel
theorem d_15_172_119 : decode prog_15_method_172_code 119 = .ok (.isub, 1) := by decide +kernel
theorem d_15_172_120 : decode prog_15_method_172_code 120 = .ok (.laload, 1) := by decide +kernel
theorem d_15_172_121 : decode prog_15_method_172_code 121 = .ok (.lastore, 1) := by decide +kernel
theorem d_15_172_122 : decode prog_15_method_172_code 122 = .ok (.iinc 6 (-1), 3) := by decide +kernel
theorem d_15_172_125 : decode prog_15_method_172_code 125 = .ok (.goto (-42), 3) := by decide +kernel
theorem d_15_183_0 : decode prog_15_method_183_code 0 = .ok (.aload_n 0, 1) := by decide +kernel
theorem d_15_183_1 : decode prog_15_method_183_code 1 = .ok (.sipush 1000, 3) := by decide +kernel
theorem d_15_183_4 : decode prog_15_method_183_code 4 = .ok (.iload_n 2, 1) := by decide +kernel
theorem d_15_183_5 : decode prog_15_method_183_code 5 = .ok (.imul, 1) := by decide +kernel
theorem d_15_183_6 : decode prog_15_method_183_code 6 = .ok (.aload_n 0, 1) := by decide +kernel
theorem d_15_183_7 : decode prog_15_method_183_code 7 = .ok (.getfield 1188, 3) := by decide +kernel
theorem d_15_183_10 : decode prog_15_method_183_code 10 = .ok (.iconst 4, 1) := by decide +kernel
theorem d_15_183_11 : decode prog_15_method_183_code 11 = .ok (.iload_n 1, 1) := by decide +kernel
theorem d_15_183_12 : decode prog_15_method_183_code 12 = .ok (.imul, 1) := by decide +kernel
theorem d_15_183_13 : decode prog_15_method_183_code 13 = .ok (.iload_n 2, 1) := by decide +kernel
theorem d_15_183_14 : decode prog_15_method_183_code 14 = .ok (.iadd, 1) := by decide +kernel
theorem d_15_183_15 : decode prog_15_method_183_code 15 = .ok (.iaload, 1) := by decide +kernel
theorem d_15_183_16 : decode prog_15_method_183_code 16 = .ok (.iadd, 1) := by decide +kernel
theorem d_15_183_17 : decode prog_15_method_183_code 17 = .ok (.invokestatic 1237, 3) := by decide +kernel
theorem d_15_183_20 : decode prog_15_method_183_code 20 = .ok (.ireturn, 1) := by decide +kernel
theorem d_15_185_0 : decode prog_15_method_185_code 0 = .ok (.aload_n 0, 1) := by decide +kernel
theorem d_15_185_1 : decode prog_15_method_185_code 1 = .ok (.getfield 1188, 3) := by decide +kernel
theorem d_15_185_4 : decode prog_15_method_185_code 4 = .ok (.iconst 4, 1) := by decide +kernel
theorem d_15_185_5 : decode prog_15_method_185_code 5 = .ok (.iload_n 1, 1) := by decide +kernel
theorem d_15_185_6 : decode prog_15_method_185_code 6 = .ok (.imul, 1) := by decide +kernel
theorem d_15_185_7 : decode prog_15_method_185_code 7 = .ok (.iload_n 2, 1) := by decide +kernel
theorem d_15_185_8 : decode prog_15_method_185_code 8 = .ok (.iadd, 1) := by decide +kernel
theorem d_15_185_9 : decode prog_15_method_185_code 9 = .ok (.iaload, 1) := by decide +kernel
theorem d_15_185_10 : decode prog_15_method_185_code 10 = .ok (.aload_n 0, 1) := by decide +kernel
theorem d_15_185_11 : decode prog_15_method_185_code 11 = .ok (.getfield 1188, 3) := by decide +kernel
theorem d_15_185_14 : decode prog_15_method_185_code 14 = .ok (.iconst 4, 1) := by decide +kernel
theorem d_15_185_15 : decode prog_15_method_185_code 15 = .ok (.iload_n 1, 1) := by decide +kernel
theorem d_15_185_16 : decode prog_15_method_185_code 16 = .ok (.iconst 1, 1) := by decide +kernel
theorem d_15_185_17 : decode prog_15_method_185_code 17 = .ok (.isub, 1) := by decide +kernel
theorem d_15_185_18 : decode prog_15_method_185_code 18 = .ok (.imul, 1) := by decide +kernel
theorem d_15_185_19 : decode prog_15_method_185_code 19 = .ok (.iload_n 2, 1) := by decide +kernel
theorem d_15_185_20 : decode prog_15_method_185_code 20 = .ok (.iadd, 1) := by decide +kernel
theorem d_15_185_21 : decode prog_15_method_185_code 21 = .ok (.iaload, 1) := by decide +kernel
theorem d_15_185_22 : decode prog_15_method_185_code 22 = .ok (.if_icmp .eq 7, 3) := by decide +kernel
theorem d_15_185_29 : decode prog_15_method_185_code 29 = .ok (.iconst 0, 1) := by decide +kernel
theorem d_15_185_25 : decode prog_15_method_185_code 25 = .ok (.iconst 1, 1) := by decide +kernel
theorem d_15_185_26 : decode prog_15_method_185_code 26 = .ok (.goto 4, 3) := by decide +kernel
theorem d_15_185_30 : decode prog_15_method_185_code 30 = .ok (.ireturn, 1) := by decide +kernel
theorem d_15_184_0 : decode prog_15_method_184_code 0 = .ok (.aload_n 0, 1) := by decide +kernel
theorem d_15_184_1 : decode prog_15_method_184_code 1 = .ok (.getfield 615, 3) := by decide +kernel
theorem d_15_184_4 : decode prog_15_method_184_code 4 = .ok (.iload_n 1, 1) := by decide +kernel
theorem d_15_184_5 : decode prog_15_method_184_code 5 = .ok (.iaload, 1) := by decide +kernel
theorem d_15_184_6 : decode prog_15_method_184_code 6 = .ok (.aload_n 0, 1) := by decide +kernel
theorem d_15_184_7 : decode prog_15_method_184_code 7 = .ok (.getfield 618, 3) := by decide +kernel
theorem d_15_184_10 : decode prog_15_method_184_code 10 = .ok (.iload_n 1, 1) := by decide +kernel
theorem d_15_184_11 : decode prog_15_method_184_code 11 = .ok (.iaload, 1) := by decide +kernel
theorem d_15_184_12 : decode prog_15_method_184_code 12 = .ok (.invokestatic 575, 3) := by decide +kernel
theorem d_15_184_15 : decode prog_15_method_184_code 15 = .ok (.ireturn, 1) := by decide +kernel
theorem d_15_193_0 : decode prog_15_method_193_code 0 = .ok (.iload_n 0, 1) := by decide +kernel
theorem d_15_193_1 : decode prog_15_method_193_code 1 = .ok (.ifCond .ne 13, 3) := by decide +kernel
theorem d_15_193_14 : decode prog_15_method_193_code 14 = .ok (.iload_n 0, 1) := by decide +kernel
theorem d_15_193_15 : decode prog_15_method_193_code 15 = .ok (.iconst 1, 1) := by decide +kernel
theorem d_15_193_16 : decode prog_15_method_193_code 16 = .ok (.if_icmp .ne 19, 3) := by decide +kernel
theorem d_15_193_35 : decode prog_15_method_193_code 35 = .ok (.iload_n 0, 1) := by decide +kernel
theorem d_15_193_36 : decode prog_15_method_193_code 36 = .ok (.iconst 2, 1) := by decide +kernel
theorem d_15_193_37 : decode prog_15_method_193_code 37 = .ok (.if_icmp .ne 19, 3) := by decide +kernel
theorem d_15_193_56 : decode prog_15_method_193_code 56 = .ok (.iload_n 0, 1) := by decide +kernel
theorem d_15_193_57 : decode prog_15_method_193_code 57 = .ok (.iconst 3, 1) := by decide +kernel
theorem d_15_193_58 : decode prog_15_method_193_code 58 = .ok (.if_icmp .ne 14, 3) := by decide +kernel
theorem d_15_193_72 : decode prog_15_method_193_code 72 = .ok (.iload_n 0, 1) := by decide +kernel
theorem d_15_193_73 : decode prog_15_method_193_code 73 = .ok (.iconst 4, 1) := by decide +kernel
theorem d_15_193_74 : decode prog_15_method_193_code 74 = .ok (.if_icmp .ne 15, 3) := by decide +kernel
theorem d_15_193_89 : decode prog_15_method_193_code 89 = .ok (.iload_n 0, 1) := by decide +kernel
theorem d_15_193_90 : decode prog_15_method_193_code 90 = .ok (.iconst 5, 1) := by decide +kernel
theorem d_15_193_91 : decode prog_15_method_193_code 91 = .ok (.if_icmp .ne 23, 3) := by decide +kernel
theorem d_15_193_114 : decode prog_15_method_193_code 114 = .ok (.iload_n 1, 1) := by decide +kernel
theorem d_15_193_115 : decode prog_15_method_193_code 115 = .ok (.bipush 10, 2) := by decide +kernel
theorem d_15_193_117 : decode prog_15_method_193_code 117 = .ok (.if_icmp .eq 9, 3) := by decide +kernel
theorem d_15_193_120 : decode prog_15_method_193_code 120 = .ok (.iload_n 1, 1) := by decide +kernel
theorem d_15_193_121 : decode prog_15_method_193_code 121 = .ok (.bipush 11, 2) := by decide +kernel
theorem d_15_193_123 : decode prog_15_method_193_code 123 = .ok (.if_icmp .ne 7, 3) := by decide +kernel
theorem d_15_193_130 : decode prog_15_method_193_code 130 = .ok (.iconst 0, 1) := by decide +kernel
theorem d_15_193_94 : decode prog_15_method_193_code 94 = .ok (.iload_n 1, 1) := by decide +kernel
theorem d_15_193_95 : decode prog_15_method_193_code 95 = .ok (.bipush 8, 2) := by decide +kernel
theorem d_15_193_97 : decode prog_15_method_193_code 97 = .ok (.if_icmp .eq 9, 3) := by decide +kernel
theorem d_15_193_100 : decode prog_15_method_193_code 100 = .ok (.iload_n 1, 1) := by decide +kernel
theorem d_15_193_101 : decode prog_15_method_193_code 101 = .ok (.bipush 9, 2) := by decide +kernel
theorem d_15_193_103 : decode prog_15_method_193_code 103 = .ok (.if_icmp .ne 7, 3) := by decide +kernel
theorem d_15_193_110 : decode prog_15_method_193_code 110 = .ok (.iconst 0, 1) := by decide +kernel
theorem d_15_193_111 : decode prog_15_method_193_code 111 = .ok (.goto 20, 3) := by decide +kernel
theorem d_15_193_77 : decode prog_15_method_193_code 77 = .ok (.iload_n 1, 1) := by decide +kernel
theorem d_15_193_78 : decode prog_15_method_193_code 78 = .ok (.bipush 7, 2) := by decide +kernel
theorem d_15_193_80 : decode prog_15_method_193_code 80 = .ok (.if_icmp .ne 7, 3) := by decide +kernel
theorem d_15_193_87 : decode prog_15_method_193_code 87 = .ok (.iconst 0, 1) := by decide +kernel
theorem d_15_193_83 : decode prog_15_method_193_code 83 = .ok (.iconst 1, 1) := by decide +kernel
theorem d_15_193_84 : decode prog_15_method_193_code 84 = .ok (.goto 4, 3) := by decide +kernel
theorem d_15_193_61 : decode prog_15_method_193_code 61 = .ok (.iload_n 1, 1) := by decide +kernel
theorem d_15_193_62 : decode prog_15_method_193_code 62 = .ok (.iconst 5, 1) := by decide +kernel
theorem d_15_193_63 : decode prog_15_method_193_code 63 = .ok (.if_icmp .ne 7, 3) := by decide +kernel
theorem d_15_193_70 : decode prog_15_method_193_code 70 = .ok (.iconst 0, 1) := by decide +kernel
theorem d_15_193_66 : decode prog_15_method_193_code 66 = .ok (.iconst 1, 1) := by decide +kernel
theorem d_15_193_67 : decode prog_15_method_193_code 67 = .ok (.goto 4, 3) := by decide +kernel
theorem d_15_193_40 : decode prog_15_method_193_code 40 = .ok (.iload_n 1, 1) := by decide +kernel
theorem d_15_193_41 : decode prog_15_method_193_code 41 = .ok (.iconst 3, 1) := by decide +kernel
theorem d_15_193_42 : decode prog_15_method_193_code 42 = .ok (.if_icmp .eq 8, 3) := by decide +kernel
theorem d_15_193_45 : decode prog_15_method_193_code 45 = .ok (.iload_n 1, 1) := by decide +kernel
theorem d_15_193_46 : decode prog_15_method_193_code 46 = .ok (.iconst 4, 1) := by decide +kernel
theorem d_15_193_47 : decode prog_15_method_193_code 47 = .ok (.if_icmp .ne 7, 3) := by decide +kernel
theorem d_15_193_54 : decode prog_15_method_193_code 54 = .ok (.iconst 0, 1) := by decide +kernel
theorem d_15_193_19 : decode prog_15_method_193_code 19 = .ok (.iload_n 1, 1) := by decide +kernel
theorem d_15_193_20 : decode prog_15_method_193_code 20 = .ok (.iconst 1, 1) := by decide +kernel
theorem d_15_193_21 : decode prog_15_method_193_code 21 = .ok (.if_icmp .eq 8, 3) := by decide +kernel
theorem d_15_193_24 : decode prog_15_method_193_code 24 = .ok (.iload_n 1, 1) := by decide +kernel
theorem d_15_193_25 : decode prog_15_method_193_code 25 = .ok (.iconst 2, 1) := by decide +kernel
theorem d_15_193_26 : decode prog_15_method_193_code 26 = .ok (.if_icmp .ne 7, 3) := by decide +kernel
theorem d_15_193_33 : decode prog_15_method_193_code 33 = .ok (.iconst 0, 1) := by decide +kernel
theorem d_15_193_4 : decode prog_15_method_193_code 4 = .ok (.iload_n 1, 1) := by decide +kernel
theorem d_15_193_5 : decode prog_15_method_193_code 5 = .ok (.ifCond .ne 7, 3) := by decide +kernel
theorem d_15_193_12 : decode prog_15_method_193_code 12 = .ok (.iconst 0, 1) := by decide +kernel
theorem d_15_193_8 : decode prog_15_method_193_code 8 = .ok (.iconst 1, 1) := by decide +kernel
theorem d_15_193_9 : decode prog_15_method_193_code 9 = .ok (.goto 4, 3) := by decide +kernel
theorem d_15_193_13 : decode prog_15_method_193_code 13 = .ok (.ireturn, 1) := by decide +kernel
theorem d_15_193_29 : decode prog_15_method_193_code 29 = .ok (.iconst 1, 1) := by decide +kernel
theorem d_15_193_30 : decode prog_15_method_193_code 30 = .ok (.goto 4, 3) := by decide +kernel
theorem d_15_193_34 : decode prog_15_method_193_code 34 = .ok (.ireturn, 1) := by decide +kernel
theorem d_15_193_50 : decode prog_15_method_193_code 50 = .ok (.iconst 1, 1) := by decide +kernel
theorem d_15_193_51 : decode prog_15_method_193_code 51 = .ok (.goto 4, 3) := by decide +kernel
theorem d_15_193_55 : decode prog_15_method_193_code 55 = .ok (.ireturn, 1) := by decide +kernel
theorem d_15_193_71 : decode prog_15_method_193_code 71 = .ok (.ireturn, 1) := by decide +kernel
theorem d_15_193_88 : decode prog_15_method_193_code 88 = .ok (.ireturn, 1) := by decide +kernel
theorem d_15_193_106 : decode prog_15_method_193_code 106 = .ok (.iconst 1, 1) := by decide +kernel
theorem d_15_193_107 : decode prog_15_method_193_code 107 = .ok (.goto 24, 3) := by decide +kernel
theorem d_15_193_131 : decode prog_15_method_193_code 131 = .ok (.ireturn, 1) := by decide +kernel
theorem d_15_193_126 : decode prog_15_method_193_code 126 = .ok (.iconst 1, 1) := by decide +kernel
theorem d_15_193_127 : decode prog_15_method_193_code 127 = .ok (.goto 4, 3) := by decide +kernel
theorem d_15_187_0 : decode prog_15_method_187_code 0 = .ok (.aload_n 0, 1) := by decide +kernel
theorem d_15_187_1 : decode prog_15_method_187_code 1 = .ok (.getfield 1240, 3) := by decide +kernel
theorem d_15_187_4 : decode prog_15_method_187_code 4 = .ok (.sipush 300, 3) := by decide +kernel
theorem d_15_187_7 : decode prog_15_method_187_code 7 = .ok (.if_icmp .ne 4, 3) := by decide +kernel
theorem d_15_187_11 : decode prog_15_method_187_code 11 = .ok (.aload_n 0, 1) := by decide +kernel
theorem d_15_187_12 : decode prog_15_method_187_code 12 = .ok (.getfield 1254, 3) := by decide +kernel
theorem d_15_187_15 : decode prog_15_method_187_code 15 = .ok (.aload_n 0, 1) := by decide +kernel
theorem d_15_187_16 : decode prog_15_method_187_code 16 = .ok (.getfield 1240, 3) := by decide +kernel
theorem d_15_187_19 : decode prog_15_method_187_code 19 = .ok (.iload_n 1, 1) := by decide +kernel
theorem d_15_187_20 : decode prog_15_method_187_code 20 = .ok (.iastore, 1) := by decide +kernel
theorem d_15_187_21 : decode prog_15_method_187_code 21 = .ok (.aload_n 0, 1) := by decide +kernel
theorem d_15_187_22 : decode prog_15_method_187_code 22 = .ok (.getfield 1257, 3) := by decide +kernel
theorem d_15_187_25 : decode prog_15_method_187_code 25 = .ok (.aload_n 0, 1) := by decide +kernel
theorem d_15_187_26 : decode prog_15_method_187_code 26 = .ok (.getfield 1240, 3) := by decide +kernel
theorem d_15_187_29 : decode prog_15_method_187_code 29 = .ok (.iload_n 2, 1) := by decide +kernel
theorem d_15_187_30 : decode prog_15_method_187_code 30 = .ok (.iastore, 1) := by decide +kernel
theorem d_15_187_31 : decode prog_15_method_187_code 31 = .ok (.aload_n 0, 1) := by decide +kernel
theorem d_15_187_32 : decode prog_15_method_187_code 32 = .ok (.getfield 1260, 3) := by decide +kernel
theorem d_15_187_35 : decode prog_15_method_187_code 35 = .ok (.aload_n 0, 1) := by decide +kernel
theorem d_15_187_36 : decode prog_15_method_187_code 36 = .ok (.getfield 1240, 3) := by decide +kernel
theorem d_15_187_39 : decode prog_15_method_187_code 39 = .ok (.iload_n 3, 1) := by decide +kernel
theorem d_15_187_40 : decode prog_15_method_187_code 40 = .ok (.iastore, 1) := by decide +kernel
theorem d_15_187_41 : decode prog_15_method_187_code 41 = .ok (.aload_n 0, 1) := by decide +kernel
theorem d_15_187_42 : decode prog_15_method_187_code 42 = .ok (.getfield 1263, 3) := by decide +kernel
theorem d_15_187_45 : decode prog_15_method_187_code 45 = .ok (.aload_n 0, 1) := by decide +kernel
theorem d_15_187_46 : decode prog_15_method_187_code 46 = .ok (.getfield 1240, 3) := by decide +kernel
theorem d_15_187_49 : decode prog_15_method_187_code 49 = .ok (.iload 4, 2) := by decide +kernel
theorem d_15_187_51 : decode prog_15_method_187_code 51 = .ok (.iastore, 1) := by decide +kernel
theorem d_15_187_52 : decode prog_15_method_187_code 52 = .ok (.aload_n 0, 1) := by decide +kernel
theorem d_15_187_53 : decode prog_15_method_187_code 53 = .ok (.dup, 1) := by decide +kernel
theorem d_15_187_54 : decode prog_15_method_187_code 54 = .ok (.getfield 1240, 3) := by decide +kernel
theorem d_15_187_57 : decode prog_15_method_187_code 57 = .ok (.iconst 1, 1) := by decide +kernel
theorem d_15_187_58 : decode prog_15_method_187_code 58 = .ok (.iadd, 1) := by decide +kernel
theorem d_15_187_59 : decode prog_15_method_187_code 59 = .ok (.putfield 1240, 3) := by decide +kernel
theorem d_15_187_62 : decode prog_15_method_187_code 62 = .ok (.return_, 1) := by decide +kernel
theorem d_15_187_10 : decode prog_15_method_187_code 10 = .ok (.return_, 1) := by decide +kernel
theorem d_15_190_0 : decode prog_15_method_190_code 0 = .ok (.iload_n 1, 1) := by decide +kernel
theorem d_15_190_1 : decode prog_15_method_190_code 1 = .ok (.ifCond .lt 24, 3) := by decide +kernel
theorem d_15_190_4 : decode prog_15_method_190_code 4 = .ok (.iload_n 2, 1) := by decide +kernel
theorem d_15_190_5 : decode prog_15_method_190_code 5 = .ok (.ifCond .lt 20, 3) := by decide +kernel
theorem d_15_190_8 : decode prog_15_method_190_code 8 = .ok (.aload_n 0, 1) := by decide +kernel
theorem d_15_190_9 : decode prog_15_method_190_code 9 = .ok (.iload_n 2, 1) := by decide +kernel
theorem d_15_190_10 : decode prog_15_method_190_code 10 = .ok (.invokestatic 1266, 3) := by decide +kernel
theorem d_15_190_13 : decode prog_15_method_190_code 13 = .ok (.aload_n 0, 1) := by decide +kernel
theorem d_15_190_14 : decode prog_15_method_190_code 14 = .ok (.iload_n 1, 1) := by decide +kernel
theorem d_15_190_15 : decode prog_15_method_190_code 15 = .ok (.invokestatic 1266, 3) := by decide +kernel
theorem d_15_190_18 : decode prog_15_method_190_code 18 = .ok (.if_icmp .le 7, 3) := by decide +kernel
theorem d_15_190_21 : decode prog_15_method_190_code 21 = .ok (.iconst 1, 1) := by decide +kernel
theorem d_15_190_22 : decode prog_15_method_190_code 22 = .ok (.goto 4, 3) := by decide +kernel
theorem d_15_190_26 : decode prog_15_method_190_code 26 = .ok (.ireturn, 1) := by decide +kernel
theorem d_15_190_25 : decode prog_15_method_190_code 25 = .ok (.iconst 0, 1) := by decide +kernel
theorem d_15_106_0 : decode prog_15_method_106_code 0 = .ok (.aload_n 0, 1) := by decide +kernel
theorem d_15_106_1 : decode prog_15_method_106_code 1 = .ok (.iload_n 1, 1) := by decide +kernel
theorem d_15_106_2 : decode prog_15_method_106_code 2 = .ok (.invokestatic 840, 3) := by decide +kernel
theorem d_15_106_5 : decode prog_15_method_106_code 5 = .ok (.istore_n 3, 1) := by decide +kernel
theorem d_15_106_6 : decode prog_15_method_106_code 6 = .ok (.iload_n 1, 1) := by decide +kernel
theorem d_15_106_7 : decode prog_15_method_106_code 7 = .ok (.istore 4, 2) := by decide +kernel
theorem d_15_106_9 : decode prog_15_method_106_code 9 = .ok (.iload 4, 2) := by decide +kernel
theorem d_15_106_11 : decode prog_15_method_106_code 11 = .ok (.iload_n 1, 1) := by decide +kernel
theorem d_15_106_12 : decode prog_15_method_106_code 12 = .ok (.iload_n 2, 1) := by decide +kernel
theorem d_15_106_13 : decode prog_15_method_106_code 13 = .ok (.iadd, 1) := by decide +kernel
theorem d_15_106_14 : decode prog_15_method_106_code 14 = .ok (.if_icmp .ge 19, 3) := by decide +kernel
theorem d_15_106_33 : decode prog_15_method_106_code 33 = .ok (.iload_n 3, 1) := by decide +kernel
theorem d_15_106_34 : decode prog_15_method_106_code 34 = .ok (.ireturn, 1) := by decide +kernel
theorem d_15_106_17 : decode prog_15_method_106_code 17 = .ok (.iload_n 3, 1) := by decide +kernel
theorem d_15_106_18 : decode prog_15_method_106_code 18 = .ok (.aload_n 0, 1) := by decide +kernel
theorem d_15_106_19 : decode prog_15_method_106_code 19 = .ok (.getfield 825, 3) := by decide +kernel
theorem d_15_106_22 : decode prog_15_method_106_code 22 = .ok (.iload 4, 2) := by decide +kernel
theorem d_15_106_24 : decode prog_15_method_106_code 24 = .ok (.iaload, 1) := by decide +kernel
theorem d_15_106_25 : decode prog_15_method_106_code 25 = .ok (.iadd, 1) := by decide +kernel
theorem d_15_106_26 : decode prog_15_method_106_code 26 = .ok (.istore_n 3, 1) := by decide +kernel
theorem d_15_106_27 : decode prog_15_method_106_code 27 = .ok (.iinc 4 1, 3) := by decide +kernel
theorem d_15_106_30 : decode prog_15_method_106_code 30 = .ok (.goto (-21), 3) := by decide +kernel
theorem d_15_115_0 : decode prog_15_method_115_code 0 = .ok (.aload_n 0, 1) := by decide +kernel
theorem d_15_115_1 : decode prog_15_method_115_code 1 = .ok (.getfield 584, 3) := by decide +kernel
theorem d_15_115_4 : decode prog_15_method_115_code 4 = .ok (.iload_n 1, 1) := by decide +kernel
theorem d_15_115_5 : decode prog_15_method_115_code 5 = .ok (.iaload, 1) := by decide +kernel
theorem d_15_115_6 : decode prog_15_method_115_code 6 = .ok (.iconst 1, 1) := by decide +kernel
theorem d_15_115_7 : decode prog_15_method_115_code 7 = .ok (.iand, 1) := by decide +kernel
theorem d_15_115_8 : decode prog_15_method_115_code 8 = .ok (.ifCond .le 29, 3) := by decide +kernel
theorem d_15_115_11 : decode prog_15_method_115_code 11 = .ok (.aload_n 0, 1) := by decide +kernel
theorem d_15_115_12 : decode prog_15_method_115_code 12 = .ok (.iload_n 1, 1) := by decide +kernel
theorem d_15_115_13 : decode prog_15_method_115_code 13 = .ok (.iload_n 2, 1) := by decide +kernel
theorem d_15_115_14 : decode prog_15_method_115_code 14 = .ok (.iload_n 3, 1) := by decide +kernel
theorem d_15_115_15 : decode prog_15_method_115_code 15 = .ok (.invokestatic 634, 3) := by decide +kernel
theorem d_15_115_18 : decode prog_15_method_115_code 18 = .ok (.ifCond .lt 19, 3) := by decide +kernel
theorem d_15_115_21 : decode prog_15_method_115_code 21 = .ok (.aload_n 0, 1) := by decide +kernel
theorem d_15_115_22 : decode prog_15_method_115_code 22 = .ok (.iload_n 1, 1) := by decide +kernel
theorem d_15_115_23 : decode prog_15_method_115_code 23 = .ok (.iconst 1, 1) := by decide +kernel
theorem d_15_115_24 : decode prog_15_method_115_code 24 = .ok (.iadd, 1) := by decide +kernel
theorem d_15_115_25 : decode prog_15_method_115_code 25 = .ok (.iload_n 2, 1) := by decide +kernel
theorem d_15_115_26 : decode prog_15_method_115_code 26 = .ok (.iload_n 3, 1) := by decide +kernel
theorem d_15_115_27 : decode prog_15_method_115_code 27 = .ok (.invokestatic 634, 3) := by decide +kernel
theorem d_15_115_30 : decode prog_15_method_115_code 30 = .ok (.ifCond .lt 7, 3) := by decide +kernel
theorem d_15_115_33 : decode prog_15_method_115_code 33 = .ok (.iconst 1, 1) := by decide +kernel
theorem d_15_115_34 : decode prog_15_method_115_code 34 = .ok (.goto 4, 3) := by decide +kernel
theorem d_15_115_38 : decode prog_15_method_115_code 38 = .ok (.ireturn, 1) := by decide +kernel
theorem d_15_115_37 : decode prog_15_method_115_code 37 = .ok (.iconst 0, 1) := by decide +kernel
theorem d_15_3_0 : decode prog_15_method_3_code 0 = .ok (.lload_n 3, 1) := by decide +kernel
theorem d_15_3_1 : decode prog_15_method_3_code 1 = .ok (.lload 7, 2) := by decide +kernel
theorem d_15_3_3 : decode prog_15_method_3_code 3 = .ok (.invokestatic 3, 3) := by decide +kernel
theorem d_15_3_6 : decode prog_15_method_3_code 6 = .ok (.lstore 9, 2) := by decide +kernel
theorem d_15_3_8 : decode prog_15_method_3_code 8 = .ok (.aload_n 0, 1) := by decide +kernel
theorem d_15_3_9 : decode prog_15_method_3_code 9 = .ok (.lload_n 1, 1) := by decide +kernel
theorem d_15_3_10 : decode prog_15_method_3_code 10 = .ok (.lload 7, 2) := by decide +kernel
theorem d_15_3_12 : decode prog_15_method_3_code 12 = .ok (.lload 9, 2) := by decide +kernel
theorem d_15_3_14 : decode prog_15_method_3_code 14 = .ok (.ldiv, 1) := by decide +kernel
theorem d_15_3_15 : decode prog_15_method_3_code 15 = .ok (.lmul, 1) := by decide +kernel
theorem d_15_3_16 : decode prog_15_method_3_code 16 = .ok (.lload 5, 2) := by decide +kernel
theorem d_15_3_18 : decode prog_15_method_3_code 18 = .ok (.lload_n 3, 1) := by decide +kernel
theorem d_15_3_19 : decode prog_15_method_3_code 19 = .ok (.lload 9, 2) := by decide +kernel
theorem d_15_3_21 : decode prog_15_method_3_code 21 = .ok (.ldiv, 1) := by decide +kernel
theorem d_15_3_22 : decode prog_15_method_3_code 22 = .ok (.lmul, 1) := by decide +kernel
theorem d_15_3_23 : decode prog_15_method_3_code 23 = .ok (.ladd, 1) := by decide +kernel
theorem d_15_3_24 : decode prog_15_method_3_code 24 = .ok (.lload_n 3, 1) := by decide +kernel
theorem d_15_3_25 : decode prog_15_method_3_code 25 = .ok (.lload 9, 2) := by decide +kernel
theorem d_15_3_27 : decode prog_15_method_3_code 27 = .ok (.ldiv, 1) := by decide +kernel
theorem d_15_3_28 : decode prog_15_method_3_code 28 = .ok (.lload 7, 2) := by decide +kernel
theorem d_15_3_30 : decode prog_15_method_3_code 30 = .ok (.lmul, 1) := by decide +kernel
theorem d_15_3_31 : decode prog_15_method_3_code 31 = .ok (.invokevirtual 16, 3) := by decide +kernel
theorem d_15_3_34 : decode prog_15_method_3_code 34 = .ok (.return_, 1) := by decide +kernel
theorem d_15_10_0 : decode prog_15_method_10_code 0 = .ok (.iload_n 0, 1) := by decide +kernel
theorem d_15_10_1 : decode prog_15_method_10_code 1 = .ok (.iload_n 1, 1) := by decide +kernel
theorem d_15_10_2 : decode prog_15_method_10_code 2 = .ok (.iload_n 0, 1) := by decide +kernel
theorem d_15_10_3 : decode prog_15_method_10_code 3 = .ok (.iload_n 1, 1) := by decide +kernel
theorem d_15_10_4 : decode prog_15_method_10_code 4 = .ok (.invokestatic 20, 3) := by decide +kernel
theorem d_15_10_7 : decode prog_15_method_10_code 7 = .ok (.imul, 1) := by decide +kernel
theorem d_15_10_8 : decode prog_15_method_10_code 8 = .ok (.isub, 1) := by decide +kernel
theorem d_15_10_9 : decode prog_15_method_10_code 9 = .ok (.ireturn, 1) := by decide +kernel
theorem d_15_136_0 : decode prog_15_method_136_code 0 = .ok (.aload_n 0, 1) := by decide +kernel
theorem d_15_136_1 : decode prog_15_method_136_code 1 = .ok (.invokevirtual 376, 3) := by decide +kernel
theorem d_15_136_4 : decode prog_15_method_136_code 4 = .ok (.ifCond .ne 5, 3) := by decide +kernel
theorem d_15_136_9 : decode prog_15_method_136_code 9 = .ok (.aload_n 0, 1) := by decide +kernel
theorem d_15_136_10 : decode prog_15_method_136_code 10 = .ok (.getfield 995, 3) := by decide +kernel
theorem d_15_136_13 : decode prog_15_method_136_code 13 = .ok (.i2l, 1) := by decide +kernel
theorem d_15_136_14 : decode prog_15_method_136_code 14 = .ok (.aload_n 0, 1) := by decide +kernel
theorem d_15_136_15 : decode prog_15_method_136_code 15 = .ok (.getfield 997, 3) := by decide +kernel
theorem d_15_136_18 : decode prog_15_method_136_code 18 = .ok (.lcmp, 1) := by decide +kernel
theorem d_15_136_19 : decode prog_15_method_136_code 19 = .ok (.ifCond .ge 14, 3) := by decide +kernel
theorem d_15_136_22 : decode prog_15_method_136_code 22 = .ok (.aload_n 0, 1) := by decide +kernel
theorem d_15_136_23 : decode prog_15_method_136_code 23 = .ok (.getfield 995, 3) := by decide +kernel
theorem d_15_136_26 : decode prog_15_method_136_code 26 = .ok (.aload_n 0, 1) := by decide +kernel
theorem d_15_136_27 : decode prog_15_method_136_code 27 = .ok (.getfield 296, 3) := by decide +kernel
theorem d_15_136_30 : decode prog_15_method_136_code 30 = .ok (.if_icmp .lt 36, 3) := by decide +kernel
theorem d_15_136_66 : decode prog_15_method_136_code 66 = .ok (.aload_n 0, 1) := by decide +kernel
theorem d_15_136_67 : decode prog_15_method_136_code 67 = .ok (.dup, 1) := by decide +kernel
theorem d_15_136_68 : decode prog_15_method_136_code 68 = .ok (.getfield 995, 3) := by decide +kernel
theorem d_15_136_71 : decode prog_15_method_136_code 71 = .ok (.iconst 1, 1) := by decide +kernel
theorem d_15_136_72 : decode prog_15_method_136_code 72 = .ok (.iadd, 1) := by decide +kernel
theorem d_15_136_73 : decode prog_15_method_136_code 73 = .ok (.putfield 995, 3) := by decide +kernel
theorem d_15_136_76 : decode prog_15_method_136_code 76 = .ok (.aload_n 0, 1) := by decide +kernel
theorem d_15_136_77 : decode prog_15_method_136_code 77 = .ok (.aload_n 0, 1) := by decide +kernel
theorem d_15_136_78 : decode prog_15_method_136_code 78 = .ok (.getfield 995, 3) := by decide +kernel
theorem d_15_136_81 : decode prog_15_method_136_code 81 = .ok (.iconst 1, 1) := by decide +kernel
theorem d_15_136_82 : decode prog_15_method_136_code 82 = .ok (.isub, 1) := by decide +kernel
theorem d_15_136_83 : decode prog_15_method_136_code 83 = .ok (.invokevirtual 336, 3) := by decide +kernel
theorem d_15_136_86 : decode prog_15_method_136_code 86 = .ok (.ireturn, 1) := by decide +kernel
theorem d_15_136_7 : decode prog_15_method_136_code 7 = .ok (.iconst 0, 1) := by decide +kernel
theorem d_15_136_8 : decode prog_15_method_136_code 8 = .ok (.ireturn, 1) := by decide +kernel
theorem d_15_136_33 : decode prog_15_method_136_code 33 = .ok (.aload_n 0, 1) := by decide +kernel
theorem d_15_136_34 : decode prog_15_method_136_code 34 = .ok (.iconst 2, 1) := by decide +kernel
theorem d_15_136_35 : decode prog_15_method_136_code 35 = .ok (.aload_n 0, 1) := by decide +kernel
theorem d_15_136_36 : decode prog_15_method_136_code 36 = .ok (.getfield 997, 3) := by decide +kernel
theorem d_15_136_39 : decode prog_15_method_136_code 39 = .ok (.aload_n 0, 1) := by decide +kernel
theorem d_15_136_40 : decode prog_15_method_136_code 40 = .ok (.getfield 296, 3) := by decide +kernel
theorem d_15_136_43 : decode prog_15_method_136_code 43 = .ok (.i2l, 1) := by decide +kernel
theorem d_15_136_44 : decode prog_15_method_136_code 44 = .ok (.lcmp, 1) := by decide +kernel
theorem d_15_136_45 : decode prog_15_method_136_code 45 = .ok (.ifCond .ge 10, 3) := by decide +kernel
theorem d_15_136_55 : decode prog_15_method_136_code 55 = .ok (.aload_n 0, 1) := by decide +kernel
theorem d_15_136_56 : decode prog_15_method_136_code 56 = .ok (.getfield 296, 3) := by decide +kernel
theorem d_15_136_59 : decode prog_15_method_136_code 59 = .ok (.i2l, 1) := by decide +kernel
theorem d_15_136_48 : decode prog_15_method_136_code 48 = .ok (.aload_n 0, 1) := by decide +kernel
theorem d_15_136_49 : decode prog_15_method_136_code 49 = .ok (.getfield 997, 3) := by decide +kernel
theorem d_15_136_52 : decode prog_15_method_136_code 52 = .ok (.goto 8, 3) := by decide +kernel
theorem d_15_136_60 : decode prog_15_method_136_code 60 = .ok (.l2i, 1) := by decide +kernel
theorem d_15_136_61 : decode prog_15_method_136_code 61 = .ok (.invokevirtual 1000, 3) := by decide +kernel
theorem d_15_136_64 : decode prog_15_method_136_code 64 = .ok (.iconst 0, 1) := by decide +kernel
theorem d_15_136_65 : decode prog_15_method_136_code 65 = .ok (.ireturn, 1) := by decide +kernel
theorem d_15_138_0 : decode prog_15_method_138_code 0 = .ok (.lconst 0, 1) := by decide +kernel
theorem d_15_138_1 : decode prog_15_method_138_code 1 = .ok (.lstore_n 2, 1) := by decide +kernel
theorem d_15_138_2 : decode prog_15_method_138_code 2 = .ok (.iconst 0, 1) := by decide +kernel
theorem d_15_138_3 : decode prog_15_method_138_code 3 = .ok (.istore 4, 2) := by decide +kernel
theorem d_15_138_5 : decode prog_15_method_138_code 5 = .ok (.iload 4, 2) := by decide +kernel
theorem d_15_138_7 : decode prog_15_method_138_code 7 = .ok (.iload_n 1, 1) := by decide +kernel
theorem d_15_138_8 : decode prog_15_method_138_code 8 = .ok (.if_icmp .ge 20, 3) := by decide +kernel
theorem d_15_138_28 : decode prog_15_method_138_code 28 = .ok (.lload_n 2, 1) := by decide +kernel
theorem d_15_138_29 : decode prog_15_method_138_code 29 = .ok (.lreturn, 1) := by decide +kernel
theorem d_15_138_11 : decode prog_15_method_138_code 11 = .ok (.lload_n 2, 1) := by decide +kernel
theorem d_15_138_12 : decode prog_15_method_138_code 12 = .ok (.bipush 8, 2) := by decide +kernel
theorem d_15_138_14 : decode prog_15_method_138_code 14 = .ok (.lshl, 1) := by decide +kernel
theorem d_15_138_15 : decode prog_15_method_138_code 15 = .ok (.aload_n 0, 1) := by decide +kernel
theorem d_15_138_16 : decode prog_15_method_138_code 16 = .ok (.invokevirtual 1003, 3) := by decide +kernel
theorem d_15_138_19 : decode prog_15_method_138_code 19 = .ok (.i2l, 1) := by decide +kernel
theorem d_15_138_20 : decode prog_15_method_138_code 20 = .ok (.lor, 1) := by decide +kernel
theorem d_15_138_21 : decode prog_15_method_138_code 21 = .ok (.lstore_n 2, 1) := by decide +kernel
theorem d_15_138_22 : decode prog_15_method_138_code 22 = .ok (.iinc 4 1, 3) := by decide +kernel
theorem d_15_138_25 : decode prog_15_method_138_code 25 = .ok (.goto (-20), 3) := by decide +kernel
theorem d_15_139_0 : decode prog_15_method_139_code 0 = .ok (.aload_n 0, 1) := by decide +kernel
theorem d_15_139_1 : decode prog_15_method_139_code 1 = .ok (.getfield 995, 3) := by decide +kernel
theorem d_15_139_4 : decode prog_15_method_139_code 4 = .ok (.istore 4, 2) := by decide +kernel
theorem d_15_139_6 : decode prog_15_method_139_code 6 = .ok (.aload_n 0, 1) := by decide +kernel
theorem d_15_139_7 : decode prog_15_method_139_code 7 = .ok (.iload_n 1, 1) := by decide +kernel
theorem d_15_139_8 : decode prog_15_method_139_code 8 = .ok (.invokevirtual 1006, 3) := by decide +kernel
theorem d_15_139_11 : decode prog_15_method_139_code 11 = .ok (.lstore 5, 2) := by decide +kernel
theorem d_15_139_13 : decode prog_15_method_139_code 13 = .ok (.aload_n 0, 1) := by decide +kernel
theorem d_15_139_14 : decode prog_15_method_139_code 14 = .ok (.invokevirtual 376, 3) := by decide +kernel
theorem d_15_139_17 : decode prog_15_method_139_code 17 = .ok (.ifCond .eq 26, 3) := by decide +kernel
theorem d_15_139_20 : decode prog_15_method_139_code 20 = .ok (.lload 5, 2) := by decide +kernel
theorem d_15_139_22 : decode prog_15_method_139_code 22 = .ok (.iload_n 2, 1) := by decide +kernel
theorem d_15_139_23 : decode prog_15_method_139_code 23 = .ok (.i2l, 1) := by decide +kernel
theorem d_15_139_24 : decode prog_15_method_139_code 24 = .ok (.lcmp, 1) := by decide +kernel
theorem d_15_139_25 : decode prog_15_method_139_code 25 = .ok (.ifCond .lt 11, 3) := by decide +kernel
theorem d_15_139_28 : decode prog_15_method_139_code 28 = .ok (.lload 5, 2) := by decide +kernel
theorem d_15_139_30 : decode prog_15_method_139_code 30 = .ok (.iload_n 3, 1) := by decide +kernel
theorem d_15_139_31 : decode prog_15_method_139_code 31 = .ok (.i2l, 1) := by decide +kernel
theorem d_15_139_32 : decode prog_15_method_139_code 32 = .ok (.lcmp, 1) := by decide +kernel
theorem d_15_139_33 : decode prog_15_method_139_code 33 = .ok (.ifCond .le 10, 3) := by decide +kernel
theorem d_15_139_36 : decode prog_15_method_139_code 36 = .ok (.aload_n 0, 1) := by decide +kernel
theorem d_15_139_37 : decode prog_15_method_139_code 37 = .ok (.iconst 3, 1) := by decide +kernel
theorem d_15_139_38 : decode prog_15_method_139_code 38 = .ok (.iload 4, 2) := by decide +kernel
theorem d_15_139_40 : decode prog_15_method_139_code 40 = .ok (.invokevirtual 1000, 3) := by decide +kernel
theorem d_15_139_43 : decode prog_15_method_139_code 43 = .ok (.lload 5, 2) := by decide +kernel
theorem d_15_139_45 : decode prog_15_method_139_code 45 = .ok (.l2i, 1) := by decide +kernel
theorem d_15_139_46 : decode prog_15_method_139_code 46 = .ok (.ireturn, 1) := by decide +kernel
theorem d_15_144_0 : decode prog_15_method_144_code 0 = .ok (.iconst 0, 1) := by decide +kernel
theorem d_15_144_1 : decode prog_15_method_144_code 1 = .ok (.istore_n 1, 1) := by decide +kernel
theorem d_15_144_2 : decode prog_15_method_144_code 2 = .ok (.sipush 128, 3) := by decide +kernel
theorem d_15_144_5 : decode prog_15_method_144_code 5 = .ok (.istore_n 2, 1) := by decide +kernel
theorem d_15_144_6 : decode prog_15_method_144_code 6 = .ok (.iconst 0, 1) := by decide +kernel
theorem d_15_144_7 : decode prog_15_method_144_code 7 = .ok (.istore_n 3, 1) := by decide +kernel
theorem d_15_144_8 : decode prog_15_method_144_code 8 = .ok (.iload_n 3, 1) := by decide +kernel
theorem d_15_144_9 : decode prog_15_method_144_code 9 = .ok (.iconst 4, 1) := by decide +kernel
theorem d_15_144_10 : decode prog_15_method_144_code 10 = .ok (.if_icmp .ge 38, 3) := by decide +kernel
theorem d_15_144_13 : decode prog_15_method_144_code 13 = .ok (.aload_n 0, 1) := by decide +kernel
theorem d_15_144_14 : decode prog_15_method_144_code 14 = .ok (.invokevirtual 376, 3) := by decide +kernel
theorem d_15_144_17 : decode prog_15_method_144_code 17 = .ok (.ifCond .eq 31, 3) := by decide +kernel
theorem d_15_144_20 : decode prog_15_method_144_code 20 = .ok (.iload_n 2, 1) := by decide +kernel
theorem d_15_144_21 : decode prog_15_method_144_code 21 = .ok (.sipush 128, 3) := by decide +kernel
theorem d_15_144_24 : decode prog_15_method_144_code 24 = .ok (.if_icmp .lt 24, 3) := by decide +kernel
theorem d_15_144_27 : decode prog_15_method_144_code 27 = .ok (.aload_n 0, 1) := by decide +kernel
theorem d_15_144_28 : decode prog_15_method_144_code 28 = .ok (.invokevirtual 1003, 3) := by decide +kernel
theorem d_15_144_31 : decode prog_15_method_144_code 31 = .ok (.istore_n 2, 1) := by decide +kernel
theorem d_15_144_32 : decode prog_15_method_144_code 32 = .ok (.iload_n 1, 1) := by decide +kernel
theorem d_15_144_33 : decode prog_15_method_144_code 33 = .ok (.bipush 7, 2) := by decide +kernel
theorem d_15_144_35 : decode prog_15_method_144_code 35 = .ok (.ishl, 1) := by decide +kernel
theorem d_15_144_36 : decode prog_15_method_144_code 36 = .ok (.iload_n 2, 1) := by decide +kernel
theorem d_15_144_37 : decode prog_15_method_144_code 37 = .ok (.bipush 127, 2) := by decide +kernel
theorem d_15_144_39 : decode prog_15_method_144_code 39 = .ok (.iand, 1) := by decide +kernel
theorem d_15_144_40 : decode prog_15_method_144_code 40 = .ok (.ior, 1) := by decide +kernel
theorem d_15_144_41 : decode prog_15_method_144_code 41 = .ok (.istore_n 1, 1) := by decide +kernel
theorem d_15_144_42 : decode prog_15_method_144_code 42 = .ok (.iinc 3 1, 3) := by decide +kernel
theorem d_15_144_45 : decode prog_15_method_144_code 45 = .ok (.goto (-37), 3) := by decide +kernel
theorem d_15_144_48 : decode prog_15_method_144_code 48 = .ok (.aload_n 0, 1) := by decide +kernel
theorem d_15_144_49 : decode prog_15_method_144_code 49 = .ok (.invokevirtual 376, 3) := by decide +kernel
theorem d_15_144_52 : decode prog_15_method_144_code 52 = .ok (.ifCond .eq 21, 3) := by decide +kernel
theorem d_15_144_55 : decode prog_15_method_144_code 55 = .ok (.iload_n 2, 1) := by decide +kernel
theorem d_15_144_56 : decode prog_15_method_144_code 56 = .ok (.sipush 128, 3) := by decide +kernel
theorem d_15_144_59 : decode prog_15_method_144_code 59 = .ok (.if_icmp .lt 14, 3) := by decide +kernel
theorem d_15_144_62 : decode prog_15_method_144_code 62 = .ok (.aload_n 0, 1) := by decide +kernel
theorem d_15_144_63 : decode prog_15_method_144_code 63 = .ok (.iconst 1, 1) := by decide +kernel
theorem d_15_144_64 : decode prog_15_method_144_code 64 = .ok (.aload_n 0, 1) := by decide +kernel
theorem d_15_144_65 : decode prog_15_method_144_code 65 = .ok (.getfield 995, 3) := by decide +kernel
theorem d_15_144_68 : decode prog_15_method_144_code 68 = .ok (.iconst 1, 1) := by decide +kernel
theorem d_15_144_69 : decode prog_15_method_144_code 69 = .ok (.isub, 1) := by decide +kernel
theorem d_15_144_70 : decode prog_15_method_144_code 70 = .ok (.invokevirtual 1000, 3) := by decide +kernel
theorem d_15_144_73 : decode prog_15_method_144_code 73 = .ok (.iload_n 1, 1) := by decide +kernel
theorem d_15_144_74 : decode prog_15_method_144_code 74 = .ok (.ireturn, 1) := by decide +kernel
theorem d_15_146_0 : decode prog_15_method_146_code 0 = .ok (.aload_n 0, 1) := by decide +kernel
theorem d_15_146_1 : decode prog_15_method_146_code 1 = .ok (.invokevirtual 1003, 3) := by decide +kernel
theorem d_15_146_4 : decode prog_15_method_146_code 4 = .ok (.istore_n 1, 1) := by decide +kernel
theorem d_15_146_5 : decode prog_15_method_146_code 5 = .ok (.aload_n 0, 1) := by decide +kernel
theorem d_15_146_6 : decode prog_15_method_146_code 6 = .ok (.invokevirtual 376, 3) := by decide +kernel
theorem d_15_146_9 : decode prog_15_method_146_code 9 = .ok (.ifCond .eq 21, 3) := by decide +kernel
theorem d_15_146_12 : decode prog_15_method_146_code 12 = .ok (.iload_n 1, 1) := by decide +kernel
theorem d_15_146_13 : decode prog_15_method_146_code 13 = .ok (.sipush 128, 3) := by decide +kernel
theorem d_15_146_16 : decode prog_15_method_146_code 16 = .ok (.if_icmp .lt 14, 3) := by decide +kernel
theorem d_15_146_19 : decode prog_15_method_146_code 19 = .ok (.aload_n 0, 1) := by decide +kernel
theorem d_15_146_20 : decode prog_15_method_146_code 20 = .ok (.iconst 1, 1) := by decide +kernel
theorem d_15_146_21 : decode prog_15_method_146_code 21 = .ok (.aload_n 0, 1) := by decide +kernel
theorem d_15_146_22 : decode prog_15_method_146_code 22 = .ok (.getfield 995, 3) := by decide +kernel
theorem d_15_146_25 : decode prog_15_method_146_code 25 = .ok (.iconst 1, 1) := by decide +kernel
theorem d_15_146_26 : decode prog_15_method_146_code 26 = .ok (.isub, 1) := by decide +kernel
theorem d_15_146_27 : decode prog_15_method_146_code 27 = .ok (.invokevirtual 1000, 3) := by decide +kernel
theorem d_15_146_30 : decode prog_15_method_146_code 30 = .ok (.iload_n 1, 1) := by decide +kernel
theorem d_15_146_31 : decode prog_15_method_146_code 31 = .ok (.ireturn, 1) := by decide +kernel
theorem d_15_157_0 : decode prog_15_method_157_code 0 = .ok (.aload_n 0, 1) := by decide +kernel
theorem d_15_157_1 : decode prog_15_method_157_code 1 = .ok (.getfield 44, 3) := by decide +kernel
theorem d_15_157_4 : decode prog_15_method_157_code 4 = .ok (.getfield 310, 3) := by decide +kernel
theorem d_15_157_7 : decode prog_15_method_157_code 7 = .ok (.iconst 5, 1) := by decide +kernel
theorem d_15_157_8 : decode prog_15_method_157_code 8 = .ok (.isub, 1) := by decide +kernel
theorem d_15_157_9 : decode prog_15_method_157_code 9 = .ok (.istore_n 3, 1) := by decide +kernel
theorem d_15_157_10 : decode prog_15_method_157_code 10 = .ok (.bipush 7, 2) := by decide +kernel
theorem d_15_157_12 : decode prog_15_method_157_code 12 = .ok (.iload_n 3, 1) := by decide +kernel
theorem d_15_157_13 : decode prog_15_method_157_code 13 = .ok (.imul, 1) := by decide +kernel
theorem d_15_157_14 : decode prog_15_method_157_code 14 = .ok (.iload_n 2, 1) := by decide +kernel
theorem d_15_157_15 : decode prog_15_method_157_code 15 = .ok (.isub, 1) := by decide +kernel
theorem d_15_157_16 : decode prog_15_method_157_code 16 = .ok (.bipush 12, 2) := by decide +kernel
theorem d_15_157_18 : decode prog_15_method_157_code 18 = .ok (.invokestatic 307, 3) := by decide +kernel
theorem d_15_157_21 : decode prog_15_method_157_code 21 = .ok (.ifCond .eq 9, 3) := by decide +kernel
theorem d_15_157_30 : decode prog_15_method_157_code 30 = .ok (.iconst 4, 1) := by decide +kernel
theorem d_15_157_31 : decode prog_15_method_157_code 31 = .ok (.iload_n 3, 1) := by decide +kernel
theorem d_15_157_32 : decode prog_15_method_157_code 32 = .ok (.imul, 1) := by decide +kernel
theorem d_15_157_33 : decode prog_15_method_157_code 33 = .ok (.bipush 7, 2) := by decide +kernel
theorem d_15_157_35 : decode prog_15_method_157_code 35 = .ok (.invokestatic 307, 3) := by decide +kernel
theorem d_15_157_38 : decode prog_15_method_157_code 38 = .ok (.istore 4, 2) := by decide +kernel
theorem d_15_157_40 : decode prog_15_method_157_code 40 = .ok (.iload_n 3, 1) := by decide +kernel
theorem d_15_157_41 : decode prog_15_method_157_code 41 = .ok (.iconst 1, 1) := by decide +kernel
theorem d_15_157_42 : decode prog_15_method_157_code 42 = .ok (.iadd, 1) := by decide +kernel
theorem d_15_157_43 : decode prog_15_method_157_code 43 = .ok (.bipush 7, 2) := by decide +kernel
theorem d_15_157_45 : decode prog_15_method_157_code 45 = .ok (.invokestatic 20, 3) := by decide +kernel
theorem d_15_157_48 : decode prog_15_method_157_code 48 = .ok (.istore 5, 2) := by decide +kernel
theorem d_15_157_50 : decode prog_15_method_157_code 50 = .ok (.iconst 0, 1) := by decide +kernel
theorem d_15_157_51 : decode prog_15_method_157_code 51 = .ok (.istore 6, 2) := by decide +kernel
theorem d_15_157_24 : decode prog_15_method_157_code 24 = .ok (.iinc 3 1, 3) := by decide +kernel
theorem d_15_157_27 : decode prog_15_method_157_code 27 = .ok (.goto (-17), 3) := by decide +kernel
theorem d_15_157_53 : decode prog_15_method_157_code 53 = .ok (.iload 6, 2) := by decide +kernel
theorem d_15_157_55 : decode prog_15_method_157_code 55 = .ok (.bipush 9, 2) := by decide +kernel
theorem d_15_157_57 : decode prog_15_method_157_code 57 = .ok (.if_icmp .ge 197, 3) := by decide +kernel
theorem d_15_157_254 : decode prog_15_method_157_code 254 = .ok (.return_, 1) := by decide +kernel
theorem d_15_157_60 : decode prog_15_method_157_code 60 = .ok (.bipush 7, 2) := by decide +kernel
theorem d_15_157_62 : decode prog_15_method_157_code 62 = .ok (.iload 6, 2) := by decide +kernel
theorem d_15_157_64 : decode prog_15_method_157_code 64 = .ok (.imul, 1) := by decide +kernel
theorem d_15_157_65 : decode prog_15_method_157_code 65 = .ok (.iload 4, 2) := by decide +kernel
theorem d_15_157_67 : decode prog_15_method_157_code 67 = .ok (.iadd, 1) := by decide +kernel
theorem d_15_157_68 : decode prog_15_method_157_code 68 = .ok (.istore 7, 2) := by decide +kernel
theorem d_15_157_70 : decode prog_15_method_157_code 70 = .ok (.iload 7, 2) := by decide +kernel
theorem d_15_157_72 : decode prog_15_method_157_code 72 = .ok (.iload 5, 2) := by decide +kernel
theorem d_15_157_74 : decode prog_15_method_157_code 74 = .ok (.invokestatic 575, 3) := by decide +kernel
theorem d_15_157_77 : decode prog_15_method_157_code 77 = .ok (.iload_n 2, 1) := by decide +kernel
theorem d_15_157_78 : decode prog_15_method_157_code 78 = .ok (.if_icmp .eq 6, 3) := by decide +kernel
theorem d_15_157_84 : decode prog_15_method_157_code 84 = .ok (.bipush 6, 2) := by decide +kernel
theorem d_15_157_86 : decode prog_15_method_157_code 86 = .ok (.iload_n 1, 1) := by decide +kernel
theorem d_15_157_87 : decode prog_15_method_157_code 87 = .ok (.imul, 1) := by decide +kernel
theorem d_15_157_88 : decode prog_15_method_157_code 88 = .ok (.aload_n 0, 1) := by decide +kernel
theorem d_15_157_89 : decode prog_15_method_157_code 89 = .ok (.getfield 44, 3) := by decide +kernel
theorem d_15_157_92 : decode prog_15_method_157_code 92 = .ok (.getfield 598, 3) := by decide +kernel
theorem d_15_157_95 : decode prog_15_method_157_code 95 = .ok (.iload_n 1, 1) := by decide +kernel
theorem d_15_157_96 : decode prog_15_method_157_code 96 = .ok (.iaload, 1) := by decide +kernel
theorem d_15_157_97 : decode prog_15_method_157_code 97 = .ok (.iadd, 1) := by decide +kernel
theorem d_15_157_98 : decode prog_15_method_157_code 98 = .ok (.istore 8, 2) := by decide +kernel
theorem d_15_157_100 : decode prog_15_method_157_code 100 = .ok (.bipush 6, 2) := by decide +kernel
theorem d_15_157_102 : decode prog_15_method_157_code 102 = .ok (.iload_n 1, 1) := by decide +kernel
theorem d_15_157_103 : decode prog_15_method_157_code 103 = .ok (.imul, 1) := by decide +kernel
theorem d_15_157_104 : decode prog_15_method_157_code 104 = .ok (.istore 9, 2) := by decide +kernel
theorem d_15_157_81 : decode prog_15_method_157_code 81 = .ok (.goto 167, 3) := by decide +kernel
theorem d_15_157_248 : decode prog_15_method_157_code 248 = .ok (.iinc 6 1, 3) := by decide +kernel
theorem d_15_157_251 : decode prog_15_method_157_code 251 = .ok (.goto (-198), 3) := by decide +kernel
theorem d_15_157_106 : decode prog_15_method_157_code 106 = .ok (.iload 9, 2) := by decide +kernel
theorem d_15_157_108 : decode prog_15_method_157_code 108 = .ok (.iload 8, 2) := by decide +kernel
theorem d_15_157_110 : decode prog_15_method_157_code 110 = .ok (.if_icmp .ge 25, 3) := by decide +kernel
theorem d_15_157_113 : decode prog_15_method_157_code 113 = .ok (.aload_n 0, 1) := by decide +kernel
theorem d_15_157_114 : decode prog_15_method_157_code 114 = .ok (.getfield 44, 3) := by decide +kernel
theorem d_15_157_117 : decode prog_15_method_157_code 117 = .ok (.getfield 615, 3) := by decide +kernel
theorem d_15_157_120 : decode prog_15_method_157_code 120 = .ok (.iload 9, 2) := by decide +kernel
theorem d_15_157_122 : decode prog_15_method_157_code 122 = .ok (.iaload, 1) := by decide +kernel
theorem d_15_157_123 : decode prog_15_method_157_code 123 = .ok (.iload 7, 2) := by decide +kernel
theorem d_15_157_125 : decode prog_15_method_157_code 125 = .ok (.if_icmp .ne 4, 3) := by decide +kernel
theorem d_15_157_129 : decode prog_15_method_157_code 129 = .ok (.iinc 9 1, 3) := by decide +kernel
theorem d_15_157_132 : decode prog_15_method_157_code 132 = .ok (.goto (-26), 3) := by decide +kernel
theorem d_15_157_128 : decode prog_15_method_157_code 128 = .ok (.return_, 1) := by decide +kernel
theorem d_15_157_135 : decode prog_15_method_157_code 135 = .ok (.iload 8, 2) := by decide +kernel
theorem d_15_157_137 : decode prog_15_method_157_code 137 = .ok (.bipush 6, 2) := by decide +kernel
theorem d_15_157_139 : decode prog_15_method_157_code 139 = .ok (.iload_n 1, 1) := by decide +kernel
theorem d_15_157_140 : decode prog_15_method_157_code 140 = .ok (.imul, 1) := by decide +kernel
theorem d_15_157_141 : decode prog_15_method_157_code 141 = .ok (.if_icmp .le 70, 3) := by decide +kernel
theorem d_15_157_144 : decode prog_15_method_157_code 144 = .ok (.aload_n 0, 1) := by decide +kernel
theorem d_15_157_145 : decode prog_15_method_157_code 145 = .ok (.getfield 44, 3) := by decide +kernel
theorem d_15_157_148 : decode prog_15_method_157_code 148 = .ok (.getfield 615, 3) := by decide +kernel
theorem d_15_157_151 : decode prog_15_method_157_code 151 = .ok (.iload 8, 2) := by decide +kernel
theorem d_15_157_153 : decode prog_15_method_157_code 153 = .ok (.iconst 1, 1) := by decide +kernel
theorem d_15_157_154 : decode prog_15_method_157_code 154 = .ok (.isub, 1) := by decide +kernel
theorem d_15_157_155 : decode prog_15_method_157_code 155 = .ok (.iaload, 1) := by decide +kernel
theorem d_15_157_156 : decode prog_15_method_157_code 156 = .ok (.iload 7, 2) := by decide +kernel
theorem d_15_157_158 : decode prog_15_method_157_code 158 = .ok (.if_icmp .le 53, 3) := by decide +kernel
theorem d_15_157_161 : decode prog_15_method_157_code 161 = .ok (.aload_n 0, 1) := by decide +kernel
theorem d_15_157_162 : decode prog_15_method_157_code 162 = .ok (.getfield 44, 3) := by decide +kernel
theorem d_15_157_165 : decode prog_15_method_157_code 165 = .ok (.getfield 615, 3) := by decide +kernel
theorem d_15_157_168 : decode prog_15_method_157_code 168 = .ok (.iload 8, 2) := by decide +kernel
theorem d_15_157_170 : decode prog_15_method_157_code 170 = .ok (.aload_n 0, 1) := by decide +kernel
theorem d_15_157_171 : decode prog_15_method_157_code 171 = .ok (.getfield 44, 3) := by decide +kernel
theorem d_15_157_174 : decode prog_15_method_157_code 174 = .ok (.getfield 615, 3) := by decide +kernel
theorem d_15_157_177 : decode prog_15_method_157_code 177 = .ok (.iload 8, 2) := by decide +kernel
theorem d_15_157_179 : decode prog_15_method_157_code 179 = .ok (.iconst 1, 1) := by decide +kernel
theorem d_15_157_180 : decode prog_15_method_157_code 180 = .ok (.isub, 1) := by decide +kernel
theorem d_15_157_181 : decode prog_15_method_157_code 181 = .ok (.iaload, 1) := by decide +kernel
theorem d_15_157_182 : decode prog_15_method_157_code 182 = .ok (.iastore, 1) := by decide +kernel
theorem d_15_157_183 : decode prog_15_method_157_code 183 = .ok (.aload_n 0, 1) := by decide +kernel
theorem d_15_157_184 : decode prog_15_method_157_code 184 = .ok (.getfield 44, 3) := by decide +kernel
theorem d_15_157_187 : decode prog_15_method_157_code 187 = .ok (.getfield 618, 3) := by decide +kernel
theorem d_15_157_190 : decode prog_15_method_157_code 190 = .ok (.iload 8, 2) := by decide +kernel
theorem d_15_157_192 : decode prog_15_method_157_code 192 = .ok (.aload_n 0, 1) := by decide +kernel
theorem d_15_157_193 : decode prog_15_method_157_code 193 = .ok (.getfield 44, 3) := by decide +kernel
theorem d_15_157_196 : decode prog_15_method_157_code 196 = .ok (.getfield 618, 3) := by decide +kernel
theorem d_15_157_199 : decode prog_15_method_157_code 199 = .ok (.iload 8, 2) := by decide +kernel
theorem d_15_157_201 : decode prog_15_method_157_code 201 = .ok (.iconst 1, 1) := by decide +kernel
theorem d_15_157_202 : decode prog_15_method_157_code 202 = .ok (.isub, 1) := by decide +kernel
theorem d_15_157_203 : decode prog_15_method_157_code 203 = .ok (.iaload, 1) := by decide +kernel
theorem d_15_157_204 : decode prog_15_method_157_code 204 = .ok (.iastore, 1) := by decide +kernel
theorem d_15_157_205 : decode prog_15_method_157_code 205 = .ok (.iinc 8 (-1), 3) := by decide +kernel
theorem d_15_157_208 : decode prog_15_method_157_code 208 = .ok (.goto (-73), 3) := by decide +kernel
theorem d_15_157_211 : decode prog_15_method_157_code 211 = .ok (.aload_n 0, 1) := by decide +kernel
theorem d_15_157_212 : decode prog_15_method_157_code 212 = .ok (.getfield 44, 3) := by decide +kernel
theorem d_15_157_215 : decode prog_15_method_157_code 215 = .ok (.getfield 615, 3) := by decide +kernel
theorem d_15_157_218 : decode prog_15_method_157_code 218 = .ok (.iload 8, 2) := by decide +kernel
theorem d_15_157_220 : decode prog_15_method_157_code 220 = .ok (.iload 7, 2) := by decide +kernel
theorem d_15_157_222 : decode prog_15_method_157_code 222 = .ok (.iastore, 1) := by decide +kernel
theorem d_15_157_223 : decode prog_15_method_157_code 223 = .ok (.aload_n 0, 1) := by decide +kernel
theorem d_15_157_224 : decode prog_15_method_157_code 224 = .ok (.getfield 44, 3) := by decide +kernel
theorem d_15_157_227 : decode prog_15_method_157_code 227 = .ok (.getfield 618, 3) := by decide +kernel
theorem d_15_157_230 : decode prog_15_method_157_code 230 = .ok (.iload 8, 2) := by decide +kernel
theorem d_15_157_232 : decode prog_15_method_157_code 232 = .ok (.iload 5, 2) := by decide +kernel
theorem d_15_157_234 : decode prog_15_method_157_code 234 = .ok (.iastore, 1) := by decide +kernel
theorem d_15_157_235 : decode prog_15_method_157_code 235 = .ok (.aload_n 0, 1) := by decide +kernel
theorem d_15_157_236 : decode prog_15_method_157_code 236 = .ok (.getfield 44, 3) := by decide +kernel
theorem d_15_157_239 : decode prog_15_method_157_code 239 = .ok (.getfield 598, 3) := by decide +kernel
theorem d_15_157_242 : decode prog_15_method_157_code 242 = .ok (.iload_n 1, 1) := by decide +kernel
theorem d_15_157_243 : decode prog_15_method_157_code 243 = .ok (.dup2, 1) := by decide +kernel
theorem d_15_157_244 : decode prog_15_method_157_code 244 = .ok (.iaload, 1) := by decide +kernel
theorem d_15_157_245 : decode prog_15_method_157_code 245 = .ok (.iconst 1, 1) := by decide +kernel
theorem d_15_157_246 : decode prog_15_method_157_code 246 = .ok (.iadd, 1) := by decide +kernel
theorem d_15_157_247 : decode prog_15_method_157_code 247 = .ok (.iastore, 1) := by decide +kernel
theorem d_15_76_0 : decode prog_15_method_76_code 0 = .ok (.aload_n 0, 1) := by decide +kernel
theorem d_15_76_1 : decode prog_15_method_76_code 1 = .ok (.lconst 0, 1) := by decide +kernel
theorem d_15_76_2 : decode prog_15_method_76_code 2 = .ok (.lconst 1, 1) := by decide +kernel
theorem d_15_76_3 : decode prog_15_method_76_code 3 = .ok (.invokevirtual 16, 3) := by decide +kernel
theorem d_15_76_6 : decode prog_15_method_76_code 6 = .ok (.iconst 0, 1) := by decide +kernel
theorem d_15_76_7 : decode prog_15_method_76_code 7 = .ok (.istore_n 3, 1) := by decide +kernel
theorem d_15_76_8 : decode prog_15_method_76_code 8 = .ok (.iload_n 3, 1) := by decide +kernel
theorem d_15_76_9 : decode prog_15_method_76_code 9 = .ok (.aload_n 1, 1) := by decide +kernel
theorem d_15_76_10 : decode prog_15_method_76_code 10 = .ok (.getfield 515, 3) := by decide +kernel
theorem d_15_76_13 : decode prog_15_method_76_code 13 = .ok (.iload_n 2, 1) := by decide +kernel
theorem d_15_76_14 : decode prog_15_method_76_code 14 = .ok (.iaload, 1) := by decide +kernel
theorem d_15_76_15 : decode prog_15_method_76_code 15 = .ok (.if_icmp .ge 66, 3) := by decide +kernel
theorem d_15_76_81 : decode prog_15_method_76_code 81 = .ok (.return_, 1) := by decide +kernel
theorem d_15_76_18 : decode prog_15_method_76_code 18 = .ok (.sipush 1000, 3) := by decide +kernel
theorem d_15_76_21 : decode prog_15_method_76_code 21 = .ok (.iload_n 2, 1) := by decide +kernel
theorem d_15_76_22 : decode prog_15_method_76_code 22 = .ok (.imul, 1) := by decide +kernel
theorem d_15_76_23 : decode prog_15_method_76_code 23 = .ok (.iload_n 3, 1) := by decide +kernel
theorem d_15_76_24 : decode prog_15_method_76_code 24 = .ok (.iadd, 1) := by decide +kernel
theorem d_15_76_25 : decode prog_15_method_76_code 25 = .ok (.istore 4, 2) := by decide +kernel
theorem d_15_76_27 : decode prog_15_method_76_code 27 = .ok (.aload_n 1, 1) := by decide +kernel
theorem d_15_76_28 : decode prog_15_method_76_code 28 = .ok (.getfield 521, 3) := by decide +kernel
theorem d_15_76_31 : decode prog_15_method_76_code 31 = .ok (.iload 4, 2) := by decide +kernel
theorem d_15_76_33 : decode prog_15_method_76_code 33 = .ok (.aload_n 0, 1) := by decide +kernel
theorem d_15_76_34 : decode prog_15_method_76_code 34 = .ok (.getfield 9, 3) := by decide +kernel
theorem d_15_76_37 : decode prog_15_method_76_code 37 = .ok (.lastore, 1) := by decide +kernel
theorem d_15_76_38 : decode prog_15_method_76_code 38 = .ok (.aload_n 1, 1) := by decide +kernel
theorem d_15_76_39 : decode prog_15_method_76_code 39 = .ok (.getfield 524, 3) := by decide +kernel
theorem d_15_76_42 : decode prog_15_method_76_code 42 = .ok (.iload 4, 2) := by decide +kernel
theorem d_15_76_44 : decode prog_15_method_76_code 44 = .ok (.aload_n 0, 1) := by decide +kernel
theorem d_15_76_45 : decode prog_15_method_76_code 45 = .ok (.getfield 13, 3) := by decide +kernel
theorem d_15_76_48 : decode prog_15_method_76_code 48 = .ok (.lastore, 1) := by decide +kernel
theorem d_15_76_49 : decode prog_15_method_76_code 49 = .ok (.aload_n 0, 1) := by decide +kernel
theorem d_15_76_50 : decode prog_15_method_76_code 50 = .ok (.aload_n 0, 1) := by decide +kernel
theorem d_15_76_51 : decode prog_15_method_76_code 51 = .ok (.getfield 9, 3) := by decide +kernel
theorem d_15_76_54 : decode prog_15_method_76_code 54 = .ok (.aload_n 0, 1) := by decide +kernel
theorem d_15_76_55 : decode prog_15_method_76_code 55 = .ok (.getfield 13, 3) := by decide +kernel
theorem d_15_76_58 : decode prog_15_method_76_code 58 = .ok (.aload_n 1, 1) := by decide +kernel
theorem d_15_76_59 : decode prog_15_method_76_code 59 = .ok (.getfield 527, 3) := by decide +kernel
theorem d_15_76_62 : decode prog_15_method_76_code 62 = .ok (.iload 4, 2) := by decide +kernel
theorem d_15_76_64 : decode prog_15_method_76_code 64 = .ok (.laload, 1) := by decide +kernel
theorem d_15_76_65 : decode prog_15_method_76_code 65 = .ok (.aload_n 1, 1) := by decide +kernel
theorem d_15_76_66 : decode prog_15_method_76_code 66 = .ok (.getfield 530, 3) := by decide +kernel
theorem d_15_76_69 : decode prog_15_method_76_code 69 = .ok (.iload 4, 2) := by decide +kernel
theorem d_15_76_71 : decode prog_15_method_76_code 71 = .ok (.laload, 1) := by decide +kernel
theorem d_15_76_72 : decode prog_15_method_76_code 72 = .ok (.invokevirtual 533, 3) := by decide +kernel
theorem d_15_76_75 : decode prog_15_method_76_code 75 = .ok (.iinc 3 1, 3) := by decide +kernel
theorem d_15_76_78 : decode prog_15_method_76_code 78 = .ok (.goto (-70), 3) := by decide +kernel
theorem d_15_78_0 : decode prog_15_method_78_code 0 = .ok (.aload_n 0, 1) := by decide +kernel
theorem d_15_78_1 : decode prog_15_method_78_code 1 = .ok (.invokestatic 667, 3) := by decide +kernel
theorem d_15_78_4 : decode prog_15_method_78_code 4 = .ok (.ifCond .eq 7, 3) := by decide +kernel
theorem d_15_78_11 : decode prog_15_method_78_code 11 = .ok (.aload_n 0, 1) := by decide +kernel
theorem d_15_78_12 : decode prog_15_method_78_code 12 = .ok (.getfield 407, 3) := by decide +kernel
theorem d_15_78_15 : decode prog_15_method_78_code 15 = .ok (.iconst 2, 1) := by decide +kernel
theorem d_15_78_16 : decode prog_15_method_78_code 16 = .ok (.if_icmp .eq 11, 3) := by decide +kernel
theorem d_15_78_19 : decode prog_15_method_78_code 19 = .ok (.aload_n 0, 1) := by decide +kernel
theorem d_15_78_20 : decode prog_15_method_78_code 20 = .ok (.getfield 407, 3) := by decide +kernel
theorem d_15_78_23 : decode prog_15_method_78_code 23 = .ok (.iconst 4, 1) := by decide +kernel
theorem d_15_78_24 : decode prog_15_method_78_code 24 = .ok (.if_icmp .ne 7, 3) := by decide +kernel
theorem d_15_78_31 : decode prog_15_method_78_code 31 = .ok (.iconst 2, 1) := by decide +kernel
theorem d_15_78_7 : decode prog_15_method_78_code 7 = .ok (.iconst 3, 1) := by decide +kernel
theorem d_15_78_8 : decode prog_15_method_78_code 8 = .ok (.goto 24, 3) := by decide +kernel
theorem d_15_78_32 : decode prog_15_method_78_code 32 = .ok (.ireturn, 1) := by decide +kernel
theorem d_15_78_27 : decode prog_15_method_78_code 27 = .ok (.iconst 1, 1) := by decide +kernel
theorem d_15_78_28 : decode prog_15_method_78_code 28 = .ok (.goto 4, 3) := by decide +kernel
theorem d_15_81_0 : decode prog_15_method_81_code 0 = .ok (.aload_n 1, 1) := by decide +kernel
theorem d_15_81_1 : decode prog_15_method_81_code 1 = .ok (.getfield 404, 3) := by decide +kernel
theorem d_15_81_4 : decode prog_15_method_81_code 4 = .ok (.iconst 2, 1) := by decide +kernel
theorem d_15_81_5 : decode prog_15_method_81_code 5 = .ok (.irem, 1) := by decide +kernel
theorem d_15_81_6 : decode prog_15_method_81_code 6 = .ok (.ifCond .ne 53, 3) := by decide +kernel
theorem d_15_81_9 : decode prog_15_method_81_code 9 = .ok (.lload_n 2, 1) := by decide +kernel
theorem d_15_81_10 : decode prog_15_method_81_code 10 = .ok (.lload 4, 2) := by decide +kernel
theorem d_15_81_12 : decode prog_15_method_81_code 12 = .ok (.aload_n 1, 1) := by decide +kernel
theorem d_15_81_13 : decode prog_15_method_81_code 13 = .ok (.getfield 404, 3) := by decide +kernel
theorem d_15_81_16 : decode prog_15_method_81_code 16 = .ok (.i2l, 1) := by decide +kernel
theorem d_15_81_17 : decode prog_15_method_81_code 17 = .ok (.ldc2_w 671, 3) := by decide +kernel
theorem d_15_81_20 : decode prog_15_method_81_code 20 = .ok (.aload_n 1, 1) := by decide +kernel
theorem d_15_81_21 : decode prog_15_method_81_code 21 = .ok (.getfield 407, 3) := by decide +kernel
theorem d_15_81_24 : decode prog_15_method_81_code 24 = .ok (.i2l, 1) := by decide +kernel
theorem d_15_81_25 : decode prog_15_method_81_code 25 = .ok (.lmul, 1) := by decide +kernel
theorem d_15_81_26 : decode prog_15_method_81_code 26 = .ok (.invokestatic 537, 3) := by decide +kernel
theorem d_15_81_29 : decode prog_15_method_81_code 29 = .ok (.ifCond .ge 30, 3) := by decide +kernel
theorem d_15_81_32 : decode prog_15_method_81_code 32 = .ok (.aload_n 1, 1) := by decide +kernel
theorem d_15_81_33 : decode prog_15_method_81_code 33 = .ok (.getfield 404, 3) := by decide +kernel
theorem d_15_81_36 : decode prog_15_method_81_code 36 = .ok (.i2l, 1) := by decide +kernel
theorem d_15_81_37 : decode prog_15_method_81_code 37 = .ok (.ldc2_w 671, 3) := by decide +kernel
theorem d_15_81_40 : decode prog_15_method_81_code 40 = .ok (.aload_n 1, 1) := by decide +kernel
theorem d_15_81_41 : decode prog_15_method_81_code 41 = .ok (.getfield 407, 3) := by decide +kernel
theorem d_15_81_44 : decode prog_15_method_81_code 44 = .ok (.i2l, 1) := by decide +kernel
theorem d_15_81_45 : decode prog_15_method_81_code 45 = .ok (.lmul, 1) := by decide +kernel
theorem d_15_81_46 : decode prog_15_method_81_code 46 = .ok (.lload 6, 2) := by decide +kernel
theorem d_15_81_48 : decode prog_15_method_81_code 48 = .ok (.lload 8, 2) := by decide +kernel
theorem d_15_81_50 : decode prog_15_method_81_code 50 = .ok (.invokestatic 537, 3) := by decide +kernel
theorem d_15_81_53 : decode prog_15_method_81_code 53 = .ok (.ifCond .ge 6, 3) := by decide +kernel
theorem d_15_81_56 : decode prog_15_method_81_code 56 = .ok (.bipush 8, 2) := by decide +kernel
theorem d_15_81_58 : decode prog_15_method_81_code 58 = .ok (.ireturn, 1) := by decide +kernel
theorem d_15_81_59 : decode prog_15_method_81_code 59 = .ok (.lload_n 2, 1) := by decide +kernel
theorem d_15_81_60 : decode prog_15_method_81_code 60 = .ok (.lload 4, 2) := by decide +kernel
theorem d_15_81_62 : decode prog_15_method_81_code 62 = .ok (.lload 6, 2) := by decide +kernel
theorem d_15_81_64 : decode prog_15_method_81_code 64 = .ok (.lload 8, 2) := by decide +kernel
theorem d_15_81_66 : decode prog_15_method_81_code 66 = .ok (.aload_n 1, 1) := by decide +kernel
theorem d_15_81_67 : decode prog_15_method_81_code 67 = .ok (.invokestatic 673, 3) := by decide +kernel
theorem d_15_81_70 : decode prog_15_method_81_code 70 = .ok (.i2l, 1) := by decide +kernel
theorem d_15_81_71 : decode prog_15_method_81_code 71 = .ok (.aload_n 1, 1) := by decide +kernel
theorem d_15_81_72 : decode prog_15_method_81_code 72 = .ok (.getfield 407, 3) := by decide +kernel
theorem d_15_81_75 : decode prog_15_method_81_code 75 = .ok (.i2l, 1) := by decide +kernel
theorem d_15_81_76 : decode prog_15_method_81_code 76 = .ok (.invokestatic 677, 3) := by decide +kernel
theorem d_15_81_79 : decode prog_15_method_81_code 79 = .ok (.ifCond .eq 6, 3) := by decide +kernel
theorem d_15_81_85 : decode prog_15_method_81_code 85 = .ok (.bipush 6, 2) := by decide +kernel
theorem d_15_81_87 : decode prog_15_method_81_code 87 = .ok (.istore 10, 2) := by decide +kernel
theorem d_15_81_89 : decode prog_15_method_81_code 89 = .ok (.aload_n 1, 1) := by decide +kernel
theorem d_15_81_90 : decode prog_15_method_81_code 90 = .ok (.getfield 407, 3) := by decide +kernel
theorem d_15_81_93 : decode prog_15_method_81_code 93 = .ok (.i2l, 1) := by decide +kernel
theorem d_15_81_94 : decode prog_15_method_81_code 94 = .ok (.lstore 11, 2) := by decide +kernel
theorem d_15_81_82 : decode prog_15_method_81_code 82 = .ok (.bipush 7, 2) := by decide +kernel
theorem d_15_81_84 : decode prog_15_method_81_code 84 = .ok (.ireturn, 1) := by decide +kernel
theorem d_15_81_96 : decode prog_15_method_81_code 96 = .ok (.iload 10, 2) := by decide +kernel
theorem d_15_81_98 : decode prog_15_method_81_code 98 = .ok (.iconst 1, 1) := by decide +kernel
theorem d_15_81_99 : decode prog_15_method_81_code 99 = .ok (.if_icmp .le 36, 3) := by decide +kernel
theorem d_15_81_135 : decode prog_15_method_81_code 135 = .ok (.iconst 1, 1) := by decide +kernel
theorem d_15_81_136 : decode prog_15_method_81_code 136 = .ok (.ireturn, 1) := by decide +kernel
theorem d_15_81_102 : decode prog_15_method_81_code 102 = .ok (.lload_n 2, 1) := by decide +kernel
theorem d_15_81_103 : decode prog_15_method_81_code 103 = .ok (.lload 4, 2) := by decide +kernel
theorem d_15_81_105 : decode prog_15_method_81_code 105 = .ok (.lload 6, 2) := by decide +kernel
theorem d_15_81_107 : decode prog_15_method_81_code 107 = .ok (.lload 8, 2) := by decide +kernel
theorem d_15_81_109 : decode prog_15_method_81_code 109 = .ok (.lconst 1, 1) := by decide +kernel
theorem d_15_81_110 : decode prog_15_method_81_code 110 = .ok (.lload 11, 2) := by decide +kernel
theorem d_15_81_112 : decode prog_15_method_81_code 112 = .ok (.invokestatic 677, 3) := by decide +kernel
theorem d_15_81_115 : decode prog_15_method_81_code 115 = .ok (.ifCond .eq 6, 3) := by decide +kernel
theorem d_15_81_121 : decode prog_15_method_81_code 121 = .ok (.iinc 10 (-1), 3) := by decide +kernel
theorem d_15_81_124 : decode prog_15_method_81_code 124 = .ok (.lload 11, 2) := by decide +kernel
theorem d_15_81_126 : decode prog_15_method_81_code 126 = .ok (.ldc2_w 671, 3) := by decide +kernel
theorem d_15_81_129 : decode prog_15_method_81_code 129 = .ok (.lmul, 1) := by decide +kernel
theorem d_15_81_130 : decode prog_15_method_81_code 130 = .ok (.lstore 11, 2) := by decide +kernel
theorem d_15_81_132 : decode prog_15_method_81_code 132 = .ok (.goto (-36), 3) := by decide +kernel
theorem d_15_81_118 : decode prog_15_method_81_code 118 = .ok (.iload 10, 2) := by decide +kernel
theorem d_15_81_120 : decode prog_15_method_81_code 120 = .ok (.ireturn, 1) := by decide +kernel
theorem d_15_161_0 : decode prog_15_method_161_code 0 = .ok (.iload_n 1, 1) := by decide +kernel
theorem d_15_161_1 : decode prog_15_method_161_code 1 = .ok (.bipush 12, 2) := by decide +kernel
theorem d_15_161_3 : decode prog_15_method_161_code 3 = .ok (.irem, 1) := by decide +kernel
theorem d_15_161_4 : decode prog_15_method_161_code 4 = .ok (.invokestatic 1118, 3) := by decide +kernel
theorem d_15_161_7 : decode prog_15_method_161_code 7 = .ok (.lstore_n 2, 1) := by decide +kernel
theorem d_15_161_8 : decode prog_15_method_161_code 8 = .ok (.iload_n 1, 1) := by decide +kernel
theorem d_15_161_9 : decode prog_15_method_161_code 9 = .ok (.bipush 12, 2) := by decide +kernel
theorem d_15_161_11 : decode prog_15_method_161_code 11 = .ok (.idiv, 1) := by decide +kernel
theorem d_15_161_12 : decode prog_15_method_161_code 12 = .ok (.istore 4, 2) := by decide +kernel
theorem d_15_161_14 : decode prog_15_method_161_code 14 = .ok (.iload 4, 2) := by decide +kernel
theorem d_15_161_16 : decode prog_15_method_161_code 16 = .ok (.bipush 9, 2) := by decide +kernel
theorem d_15_161_18 : decode prog_15_method_161_code 18 = .ok (.if_icmp .ge 13, 3) := by decide +kernel
theorem d_15_161_31 : decode prog_15_method_161_code 31 = .ok (.lload_n 2, 1) := by decide +kernel
theorem d_15_161_32 : decode prog_15_method_161_code 32 = .ok (.iload 4, 2) := by decide +kernel
theorem d_15_161_34 : decode prog_15_method_161_code 34 = .ok (.bipush 9, 2) := by decide +kernel
theorem d_15_161_36 : decode prog_15_method_161_code 36 = .ok (.isub, 1) := by decide +kernel
theorem d_15_161_37 : decode prog_15_method_161_code 37 = .ok (.lshl, 1) := by decide +kernel
theorem d_15_161_38 : decode prog_15_method_161_code 38 = .ok (.ldc2_w 1121, 3) := by decide +kernel
theorem d_15_161_41 : decode prog_15_method_161_code 41 = .ok (.land, 1) := by decide +kernel
theorem d_15_161_21 : decode prog_15_method_161_code 21 = .ok (.lload_n 2, 1) := by decide +kernel
theorem d_15_161_22 : decode prog_15_method_161_code 22 = .ok (.bipush 9, 2) := by decide +kernel
theorem d_15_161_24 : decode prog_15_method_161_code 24 = .ok (.iload 4, 2) := by decide +kernel
theorem d_15_161_26 : decode prog_15_method_161_code 26 = .ok (.isub, 1) := by decide +kernel
theorem d_15_161_27 : decode prog_15_method_161_code 27 = .ok (.lshr, 1) := by decide +kernel
theorem d_15_161_28 : decode prog_15_method_161_code 28 = .ok (.goto 14, 3) := by decide +kernel
theorem d_15_161_42 : decode prog_15_method_161_code 42 = .ok (.lreturn, 1) := by decide +kernel
theorem d_15_164_0 : decode prog_15_method_164_code 0 = .ok (.iload_n 0, 1) := by decide +kernel
theorem d_15_164_1 : decode prog_15_method_164_code 1 = .ok (.iload_n 1, 1) := by decide +kernel
theorem d_15_164_2 : decode prog_15_method_164_code 2 = .ok (.if_icmp .ge 8, 3) := by decide +kernel
theorem d_15_164_10 : decode prog_15_method_164_code 10 = .ok (.iload_n 1, 1) := by decide +kernel
theorem d_15_164_11 : decode prog_15_method_164_code 11 = .ok (.ifCond .ne 7, 3) := by decide +kernel
theorem d_15_164_18 : decode prog_15_method_164_code 18 = .ok (.iload_n 1, 1) := by decide +kernel
theorem d_15_164_19 : decode prog_15_method_164_code 19 = .ok (.invokestatic 1147, 3) := by decide +kernel
theorem d_15_164_22 : decode prog_15_method_164_code 22 = .ok (.sipush 400, 3) := by decide +kernel
theorem d_15_164_25 : decode prog_15_method_164_code 25 = .ok (.iload_n 0, 1) := by decide +kernel
theorem d_15_164_26 : decode prog_15_method_164_code 26 = .ok (.iload_n 1, 1) := by decide +kernel
theorem d_15_164_27 : decode prog_15_method_164_code 27 = .ok (.isub, 1) := by decide +kernel
theorem d_15_164_28 : decode prog_15_method_164_code 28 = .ok (.isub, 1) := by decide +kernel
theorem d_15_164_29 : decode prog_15_method_164_code 29 = .ok (.imul, 1) := by decide +kernel
theorem d_15_164_30 : decode prog_15_method_164_code 30 = .ok (.sipush 400, 3) := by decide +kernel
theorem d_15_164_33 : decode prog_15_method_164_code 33 = .ok (.idiv, 1) := by decide +kernel
theorem d_15_164_14 : decode prog_15_method_164_code 14 = .ok (.iconst 0, 1) := by decide +kernel
theorem d_15_164_15 : decode prog_15_method_164_code 15 = .ok (.goto 19, 3) := by decide +kernel
theorem d_15_164_5 : decode prog_15_method_164_code 5 = .ok (.iload_n 0, 1) := by decide +kernel
theorem d_15_164_6 : decode prog_15_method_164_code 6 = .ok (.invokestatic 1147, 3) := by decide +kernel
theorem d_15_164_9 : decode prog_15_method_164_code 9 = .ok (.ireturn, 1) := by decide +kernel
theorem d_15_164_34 : decode prog_15_method_164_code 34 = .ok (.ireturn, 1) := by decide +kernel
theorem d_15_173_0 : decode prog_15_method_173_code 0 = .ok (.aload_n 0, 1) := by decide +kernel
theorem d_15_173_1 : decode prog_15_method_173_code 1 = .ok (.iconst 0, 1) := by decide +kernel
theorem d_15_173_2 : decode prog_15_method_173_code 2 = .ok (.putfield 1191, 3) := by decide +kernel
theorem d_15_173_5 : decode prog_15_method_173_code 5 = .ok (.aload_n 0, 1) := by decide +kernel
theorem d_15_173_6 : decode prog_15_method_173_code 6 = .ok (.sipush 1000, 3) := by decide +kernel
theorem d_15_173_9 : decode prog_15_method_173_code 9 = .ok (.putfield 1194, 3) := by decide +kernel
theorem d_15_173_12 : decode prog_15_method_173_code 12 = .ok (.iconst 0, 1) := by decide +kernel
theorem d_15_173_13 : decode prog_15_method_173_code 13 = .ok (.istore_n 3, 1) := by decide +kernel
theorem d_15_173_14 : decode prog_15_method_173_code 14 = .ok (.iload_n 3, 1) := by decide +kernel
theorem d_15_173_15 : decode prog_15_method_173_code 15 = .ok (.aload_n 1, 1) := by decide +kernel
theorem d_15_173_16 : decode prog_15_method_173_code 16 = .ok (.getfield 304, 3) := by decide +kernel
theorem d_15_173_19 : decode prog_15_method_173_code 19 = .ok (.if_icmp .ge 161, 3) := by decide +kernel
theorem d_15_173_180 : decode prog_15_method_173_code 180 = .ok (.return_, 1) := by decide +kernel
theorem d_15_173_22 : decode prog_15_method_173_code 22 = .ok (.sipush 1000, 3) := by decide +kernel
theorem d_15_173_25 : decode prog_15_method_173_code 25 = .ok (.iload_n 3, 1) := by decide +kernel
theorem d_15_173_26 : decode prog_15_method_173_code 26 = .ok (.imul, 1) := by decide +kernel
theorem d_15_173_27 : decode prog_15_method_173_code 27 = .ok (.aload_n 1, 1) := by decide +kernel
theorem d_15_173_28 : decode prog_15_method_173_code 28 = .ok (.getfield 1188, 3) := by decide +kernel
theorem d_15_173_31 : decode prog_15_method_173_code 31 = .ok (.iconst 4, 1) := by decide +kernel
theorem d_15_173_32 : decode prog_15_method_173_code 32 = .ok (.iload_n 2, 1) := by decide +kernel
theorem d_15_173_33 : decode prog_15_method_173_code 33 = .ok (.imul, 1) := by decide +kernel
theorem d_15_173_34 : decode prog_15_method_173_code 34 = .ok (.iload_n 3, 1) := by decide +kernel
theorem d_15_173_35 : decode prog_15_method_173_code 35 = .ok (.iadd, 1) := by decide +kernel
theorem d_15_173_36 : decode prog_15_method_173_code 36 = .ok (.iaload, 1) := by decide +kernel
theorem d_15_173_37 : decode prog_15_method_173_code 37 = .ok (.iadd, 1) := by decide +kernel
theorem d_15_173_38 : decode prog_15_method_173_code 38 = .ok (.istore 4, 2) := by decide +kernel
theorem d_15_173_40 : decode prog_15_method_173_code 40 = .ok (.bipush 6, 2) := by decide +kernel
theorem d_15_173_42 : decode prog_15_method_173_code 42 = .ok (.iload 4, 2) := by decide +kernel
theorem d_15_173_44 : decode prog_15_method_173_code 44 = .ok (.imul, 1) := by decide +kernel
theorem d_15_173_45 : decode prog_15_method_173_code 45 = .ok (.istore 5, 2) := by decide +kernel
theorem d_15_173_47 : decode prog_15_method_173_code 47 = .ok (.iload 5, 2) := by decide +kernel
theorem d_15_173_49 : decode prog_15_method_173_code 49 = .ok (.bipush 6, 2) := by decide +kernel
theorem d_15_173_51 : decode prog_15_method_173_code 51 = .ok (.iload 4, 2) := by decide +kernel
theorem d_15_173_53 : decode prog_15_method_173_code 53 = .ok (.imul, 1) := by decide +kernel
theorem d_15_173_54 : decode prog_15_method_173_code 54 = .ok (.aload_n 1, 1) := by decide +kernel
theorem d_15_173_55 : decode prog_15_method_173_code 55 = .ok (.getfield 598, 3) := by decide +kernel
theorem d_15_173_58 : decode prog_15_method_173_code 58 = .ok (.iload 4, 2) := by decide +kernel
theorem d_15_173_60 : decode prog_15_method_173_code 60 = .ok (.iaload, 1) := by decide +kernel
theorem d_15_173_61 : decode prog_15_method_173_code 61 = .ok (.iadd, 1) := by decide +kernel
theorem d_15_173_62 : decode prog_15_method_173_code 62 = .ok (.if_icmp .ge 112, 3) := by decide +kernel
theorem d_15_173_174 : decode prog_15_method_173_code 174 = .ok (.iinc 3 1, 3) := by decide +kernel
theorem d_15_173_177 : decode prog_15_method_173_code 177 = .ok (.goto (-163), 3) := by decide +kernel
theorem d_15_173_65 : decode prog_15_method_173_code 65 = .ok (.aload_n 0, 1) := by decide +kernel
theorem d_15_173_66 : decode prog_15_method_173_code 66 = .ok (.aload_n 1, 1) := by decide +kernel
theorem d_15_173_67 : decode prog_15_method_173_code 67 = .ok (.getfield 615, 3) := by decide +kernel
theorem d_15_173_70 : decode prog_15_method_173_code 70 = .ok (.iload 5, 2) := by decide +kernel
theorem d_15_173_72 : decode prog_15_method_173_code 72 = .ok (.iaload, 1) := by decide +kernel
theorem d_15_173_73 : decode prog_15_method_173_code 73 = .ok (.bipush 7, 2) := by decide +kernel
theorem d_15_173_75 : decode prog_15_method_173_code 75 = .ok (.irem, 1) := by decide +kernel
theorem d_15_173_76 : decode prog_15_method_173_code 76 = .ok (.aload_n 1, 1) := by decide +kernel
theorem d_15_173_77 : decode prog_15_method_173_code 77 = .ok (.getfield 618, 3) := by decide +kernel
theorem d_15_173_80 : decode prog_15_method_173_code 80 = .ok (.iload 5, 2) := by decide +kernel
theorem d_15_173_82 : decode prog_15_method_173_code 82 = .ok (.iaload, 1) := by decide +kernel
theorem d_15_173_83 : decode prog_15_method_173_code 83 = .ok (.invokevirtual 1196, 3) := by decide +kernel
theorem d_15_173_86 : decode prog_15_method_173_code 86 = .ok (.aload_n 1, 1) := by decide +kernel
theorem d_15_173_87 : decode prog_15_method_173_code 87 = .ok (.getfield 615, 3) := by decide +kernel
theorem d_15_173_90 : decode prog_15_method_173_code 90 = .ok (.iload 5, 2) := by decide +kernel
theorem d_15_173_92 : decode prog_15_method_173_code 92 = .ok (.iaload, 1) := by decide +kernel
theorem d_15_173_93 : decode prog_15_method_173_code 93 = .ok (.aload_n 1, 1) := by decide +kernel
theorem d_15_173_94 : decode prog_15_method_173_code 94 = .ok (.getfield 618, 3) := by decide +kernel
theorem d_15_173_97 : decode prog_15_method_173_code 97 = .ok (.iload 5, 2) := by decide +kernel
theorem d_15_173_99 : decode prog_15_method_173_code 99 = .ok (.iaload, 1) := by decide +kernel
theorem d_15_173_100 : decode prog_15_method_173_code 100 = .ok (.invokestatic 575, 3) := by decide +kernel
theorem d_15_173_103 : decode prog_15_method_173_code 103 = .ok (.istore 6, 2) := by decide +kernel
theorem d_15_173_105 : decode prog_15_method_173_code 105 = .ok (.iload 6, 2) := by decide +kernel
theorem d_15_173_107 : decode prog_15_method_173_code 107 = .ok (.aload_n 0, 1) := by decide +kernel
theorem d_15_173_108 : decode prog_15_method_173_code 108 = .ok (.getfield 1194, 3) := by decide +kernel
theorem d_15_173_111 : decode prog_15_method_173_code 111 = .ok (.if_icmp .gt 57, 3) := by decide +kernel
theorem d_15_173_114 : decode prog_15_method_173_code 114 = .ok (.iload 6, 2) := by decide +kernel
theorem d_15_173_116 : decode prog_15_method_173_code 116 = .ok (.aload_n 0, 1) := by decide +kernel
theorem d_15_173_117 : decode prog_15_method_173_code 117 = .ok (.getfield 1194, 3) := by decide +kernel
theorem d_15_173_120 : decode prog_15_method_173_code 120 = .ok (.if_icmp .ne 20, 3) := by decide +kernel
theorem d_15_173_123 : decode prog_15_method_173_code 123 = .ok (.aload_n 1, 1) := by decide +kernel
theorem d_15_173_124 : decode prog_15_method_173_code 124 = .ok (.getfield 615, 3) := by decide +kernel
theorem d_15_173_127 : decode prog_15_method_173_code 127 = .ok (.iload 5, 2) := by decide +kernel
theorem d_15_173_129 : decode prog_15_method_173_code 129 = .ok (.iaload, 1) := by decide +kernel
theorem d_15_173_130 : decode prog_15_method_173_code 130 = .ok (.aload_n 0, 1) := by decide +kernel
theorem d_15_173_131 : decode prog_15_method_173_code 131 = .ok (.getfield 1199, 3) := by decide +kernel
theorem d_15_173_134 : decode prog_15_method_173_code 134 = .ok (.if_icmp .lt 6, 3) := by decide +kernel
theorem d_15_173_137 : decode prog_15_method_173_code 137 = .ok (.goto 31, 3) := by decide +kernel
theorem d_15_173_168 : decode prog_15_method_173_code 168 = .ok (.iinc 5 1, 3) := by decide +kernel
theorem d_15_173_171 : decode prog_15_method_173_code 171 = .ok (.goto (-124), 3) := by decide +kernel
theorem d_15_173_140 : decode prog_15_method_173_code 140 = .ok (.aload_n 0, 1) := by decide +kernel
theorem d_15_173_141 : decode prog_15_method_173_code 141 = .ok (.iload 6, 2) := by decide +kernel
theorem d_15_173_143 : decode prog_15_method_173_code 143 = .ok (.putfield 1194, 3) := by decide +kernel
theorem d_15_173_146 : decode prog_15_method_173_code 146 = .ok (.aload_n 0, 1) := by decide +kernel
theorem d_15_173_147 : decode prog_15_method_173_code 147 = .ok (.aload_n 1, 1) := by decide +kernel
theorem d_15_173_148 : decode prog_15_method_173_code 148 = .ok (.getfield 615, 3) := by decide +kernel
theorem d_15_173_151 : decode prog_15_method_173_code 151 = .ok (.iload 5, 2) := by decide +kernel
theorem d_15_173_153 : decode prog_15_method_173_code 153 = .ok (.iaload, 1) := by decide +kernel
theorem d_15_173_154 : decode prog_15_method_173_code 154 = .ok (.putfield 1199, 3) := by decide +kernel
theorem d_15_173_157 : decode prog_15_method_173_code 157 = .ok (.aload_n 0, 1) := by decide +kernel
theorem d_15_173_158 : decode prog_15_method_173_code 158 = .ok (.aload_n 1, 1) := by decide +kernel
theorem d_15_173_159 : decode prog_15_method_173_code 159 = .ok (.getfield 618, 3) := by decide +kernel
theorem d_15_173_162 : decode prog_15_method_173_code 162 = .ok (.iload 5, 2) := by decide +kernel
theorem d_15_173_164 : decode prog_15_method_173_code 164 = .ok (.iaload, 1) := by decide +kernel
theorem d_15_173_165 : decode prog_15_method_173_code 165 = .ok (.putfield 1202, 3) := by decide +kernel
abbrev Q_M_moment_1 (D : va_G) (ca : Nat → ClassId) (ad : Nat → Int → Nat → Nat) (L : List Nat) (r : Int) (F : zF) (B : zB) (A : Nat → Prop) : Array Value → State → Outcome → State → Prop := va_Qv (S := Unit) (fun _ => True) (fun _ => zPo D ca ad lnM nM L F B A) A
def f_M_moment_1_83 (K : Nat) : Nat → Int → Int → Int → Int → Int → zF → zB → zO
  | 0, _, _, _, _, _, _, _ => none
  | n + 1, l6, l5, l0, l1, l3, F, B => if r32 l6 then if r32 l5 then (if l6 ≤ l5 then if 0 ≤ l0 ∧ l0 < 3 then if 0 ≤ l5 ∧ l5 < 800 then some (0, (zup3 F 13 l0 72 ((F 13 l0 72) + 1)), (zup4 (zup4 B 13 l0 73 l5 l1) 13 l0 74 l5 l3)) else none else none else if 0 ≤ l0 ∧ l0 < 3 then if 0 ≤ (l6 - 1) ∧ (l6 - 1) < 800 then if 0 ≤ l6 ∧ l6 < 800 then f_M_moment_1_83 K n (l6 - 1) l5 l0 l1 l3 F (zup4 (zup4 B 13 l0 73 l6 (B 13 l0 73 (l6 - 1))) 13 l0 74 l6 ((zup4 B 13 l0 73 l6 (B 13 l0 73 (l6 - 1))) 13 l0 74 (l6 - 1))) else none else none else none) else none else none
set_option maxHeartbeats 4000000 in
set_option maxRecDepth 100000 in
theorem b_M_moment_1_83 {D : va_G} {ca : Nat → ClassId} {ad : Nat → Int → Nat → Nat} {L : List Nat} {aS vS : Nat → Nat} {A : Nat → Prop} {p : Program} {l : Launch} {e : Env} {s : State} {m : MethodId} {args : Array Value} {below : List Frame} {meth : Method} {c : Code} {K : Nat} {r : Int} {F9 : zF} {B9 : zB} (X : zX D ca L aS vS A p s m args meth c prog_15_method_172_code 7 (Option.none : Option Jvm.ClassFile.FieldType) "StaveHouseModel") : ∀ {n : Nat} {l6 : Int} {l5 : Int} {l0 : Int} {l1 : Int} {l3 : Int} {F : zF} {B : zB} {H : Heap} {locs : List Loc} {ls : Array Slot}, f_M_moment_1_83 K n l6 l5 l0 l1 l3 F B = some (r, F9, B9) → zH D ca ad lnM nM L F B A H → va_S A s.heap H locs → lv_has ls 7 [(6, .int (iI l6)), (5, .int (iI l5)), (0, .ref (ad 13 l0 0)), (1, .long (lI l1)), (3, .long (lI l3))] → W p l e ({ frames := 2, cells := 0, slots := 0, locals := 62 } : Room) s m args below meth c H locs 0 0 (MQ below (Q_M_moment_1 D ca ad L r F9 B9 A) args s 0 0 A) (F0 m 83 ls []) := by
  obtain ⟨hx, hb, hr, hml, hown, hts, hlk, hK, hA, hL, hX⟩ := id X
  intro n
  induction n with
  | zero =>
    intros
    rename_i hf _ _ _
    cases hf
  | succ n ih =>
    intro l6 l5 l0 l1 l3 F B H locs ls hf hZ hS hl
    replace hf : (if r32 l6 then if r32 l5 then (if l6 ≤ l5 then if 0 ≤ l0 ∧ l0 < 3 then if 0 ≤ l5 ∧ l5 < 800 then some (0, (zup3 F 13 l0 72 ((F 13 l0 72) + 1)), (zup4 (zup4 B 13 l0 73 l5 l1) 13 l0 74 l5 l3)) else none else none else if 0 ≤ l0 ∧ l0 < 3 then if 0 ≤ (l6 - 1) ∧ (l6 - 1) < 800 then if 0 ≤ l6 ∧ l6 < 800 then f_M_moment_1_83 K n (l6 - 1) l5 l0 l1 l3 F (zup4 (zup4 B 13 l0 73 l6 (B 13 l0 73 (l6 - 1))) 13 l0 74 l6 ((zup4 B 13 l0 73 l6 (B 13 l0 73 (l6 - 1))) 13 l0 74 (l6 - 1))) else none else none else none) else none else none) = some (r, F9, B9) := hf
    refine lv_iload hx hb d_15_172_83 (lv_at hl 0 rfl) ?_
    refine lv_iload hx hb d_15_172_85 (lv_at hl 1 rfl) ?_
    obtain ⟨g20, hf⟩ := gif hf
    obtain ⟨g21, hf⟩ := gif hf
    refine zle (tgt := 128) hx hb g20 g21 d_15_172_87 (by decide) (fun h22 => ?_) (fun h22 => ?_)
    · replace hf := gpos hf h22
      refine lv_aload_n hx hb d_15_172_128 rfl (lv_at hl 2 rfl) ?_
      obtain ⟨g23, hf⟩ := gif hf
      refine zget (ci := 13) (C := RX13) (T := TX13) (v := .ref (ad 13 l0 (73 + 1))) (k := 73) hx hb hts inW_13 hown hK hZ g23.1 g23.2 rfl (by decide) k_10_13 rfl d_15_172_129 ?_
      refine lv_iload hx hb d_15_172_132 (lv_at hl 1 rfl) ?_
      refine lv_lload_n hx hb d_15_172_134 rfl (lv_at hl 3 rfl) ?_
      obtain ⟨g24, hf⟩ := gif hf
      refine zlast (ci := 13) (k := 73) hx hb hK rfl hZ hS g23.1 g23.2 rfl (Nat.le_of_ble_eq_true rfl) g24.1 g24.2 d_15_172_135 (fun H25 locs25 hZ25 hS25 => ?_)
      refine lv_aload_n hx hb d_15_172_136 rfl (lv_at hl 2 rfl) ?_
      refine zget (ci := 13) (C := RX13) (T := TX13) (v := .ref (ad 13 l0 (74 + 1))) (k := 74) hx hb hts inW_13 hown hK hZ25 g23.1 g23.2 rfl (by decide) k_10_15 rfl d_15_172_137 ?_
      refine lv_iload hx hb d_15_172_140 (lv_at hl 1 rfl) ?_
      refine lv_lload_n hx hb d_15_172_142 rfl (lv_at hl 4 rfl) ?_
      refine zlast (ci := 13) (k := 74) hx hb hK rfl hZ25 hS25 g23.1 g23.2 rfl (Nat.le_of_ble_eq_true rfl) g24.1 g24.2 d_15_172_143 (fun H26 locs26 hZ26 hS26 => ?_)
      refine lv_aload_n hx hb d_15_172_144 rfl (lv_at hl 2 rfl) ?_
      refine lv_dup hx hb d_15_172_145 rfl ?_
      refine zget (ci := 13) (C := RX13) (T := TX13) (v := .int (iI (F 13 l0 72))) (k := 72) hx hb hts inW_13 hown hK hZ26 g23.1 g23.2 rfl (by decide) k_10_11 rfl d_15_172_146 ?_
      refine lv_iconst (v := iI 1) hx hb d_15_172_149 rfl ?_
      refine zadd hx hb d_15_172_150 ?_
      refine zput (ci := 13) (C := RX13) (T := TX13) (k := 72) (v := ((F 13 l0 72) + 1)) (w := .int (iI ((F 13 l0 72) + 1))) hx hb hts inW_13 tyX13 tyX13_ok nmX13 hown hK hZ26 hS26 g23.1 g23.2 rfl (by decide) k_10_11 rfl (fun G h => congrArg (fun q => Value.int (iI q)) h) rfl rfl d_15_172_151 (fun H27 locs27 hZ27 hS27 => ?_)
      cases hf
      exact W.vret hx hb hr (fun t ht hW => ⟨⟨(), rfl, trivial, by rw [ht]; exact hZ27, va_K.moved hW.alike hK⟩, hS27.F ht⟩) hS27.2.2 d_15_172_154 hlk
    · replace hf := gneg hf h22
      refine lv_aload_n hx hb d_15_172_90 rfl (lv_at hl 2 rfl) ?_
      obtain ⟨g28, hf⟩ := gif hf
      refine zget (ci := 13) (C := RX13) (T := TX13) (v := .ref (ad 13 l0 (73 + 1))) (k := 73) hx hb hts inW_13 hown hK hZ g28.1 g28.2 rfl (by decide) k_10_13 rfl d_15_172_91 ?_
      refine lv_iload hx hb d_15_172_94 (lv_at hl 0 rfl) ?_
      refine lv_aload_n hx hb d_15_172_96 rfl (lv_at hl 2 rfl) ?_
      refine zget (ci := 13) (C := RX13) (T := TX13) (v := .ref (ad 13 l0 (73 + 1))) (k := 73) hx hb hts inW_13 hown hK hZ g28.1 g28.2 rfl (by decide) k_10_13 rfl d_15_172_97 ?_
      refine lv_iload hx hb d_15_172_100 (lv_at hl 0 rfl) ?_
      refine lv_iconst (v := iI 1) hx hb d_15_172_102 rfl ?_
      refine zsub hx hb d_15_172_103 ?_
      obtain ⟨g29, hf⟩ := gif hf
      refine zlald (ci := 13) (k := 73) hx hb hK rfl hZ g28.1 g28.2 rfl (Nat.le_of_ble_eq_true rfl) g29.1 g29.2 d_15_172_104 ?_
      obtain ⟨g30, hf⟩ := gif hf
      refine zlast (ci := 13) (k := 73) hx hb hK rfl hZ hS g28.1 g28.2 rfl (Nat.le_of_ble_eq_true rfl) g30.1 g30.2 d_15_172_105 (fun H31 locs31 hZ31 hS31 => ?_)
      refine lv_aload_n hx hb d_15_172_106 rfl (lv_at hl 2 rfl) ?_
      refine zget (ci := 13) (C := RX13) (T := TX13) (v := .ref (ad 13 l0 (74 + 1))) (k := 74) hx hb hts inW_13 hown hK hZ31 g28.1 g28.2 rfl (by decide) k_10_15 rfl d_15_172_107 ?_
      refine lv_iload hx hb d_15_172_110 (lv_at hl 0 rfl) ?_
      refine lv_aload_n hx hb d_15_172_112 rfl (lv_at hl 2 rfl) ?_
      refine zget (ci := 13) (C := RX13) (T := TX13) (v := .ref (ad 13 l0 (74 + 1))) (k := 74) hx hb hts inW_13 hown hK hZ31 g28.1 g28.2 rfl (by decide) k_10_15 rfl d_15_172_113 ?_
      refine lv_iload hx hb d_15_172_116 (lv_at hl 0 rfl) ?_
      refine lv_iconst (v := iI 1) hx hb d_15_172_118 rfl ?_
      refine zsub hx hb d_15_172_119 ?_
      refine zlald (ci := 13) (k := 74) hx hb hK rfl hZ31 g28.1 g28.2 rfl (Nat.le_of_ble_eq_true rfl) g29.1 g29.2 d_15_172_120 ?_
      refine zlast (ci := 13) (k := 74) hx hb hK rfl hZ31 hS31 g28.1 g28.2 rfl (Nat.le_of_ble_eq_true rfl) g30.1 g30.2 d_15_172_121 (fun H32 locs32 hZ32 hS32 => ?_)
      refine lv_iinc (v := iI (l6 - 1)) (lv' := [(6, .int (iI (l6 - 1))), (5, .int (iI l5)), (0, .ref (ad 13 l0 0)), (1, .long (lI l1)), (3, .long (lI l3))]) hx hb d_15_172_122 hl (k := 0) rfl (by rw [show Int32.ofInt (-1) = iI (-1) from rfl, iI_add]; congr 1) (by decide) rfl (fun ls hl => ?_)
      refine lv_goto (tgt := 83) hx hb d_15_172_125 (by decide) ?_
      exact ih hf hZ32 hS32 (lv_sub hl [0, 1, 2, 3, 4] rfl)

def f_M_moment_1_77 (K : Nat) (l5 : Int) (l0 : Int) (l1 : Int) (l3 : Int) (F : zF) (B : zB) : zO := if 0 ≤ l0 ∧ l0 < 3 then f_M_moment_1_83 K K (F 13 l0 72) l5 l0 l1 l3 F B else none
set_option maxHeartbeats 4000000 in
set_option maxRecDepth 100000 in
theorem b_M_moment_1_77 {D : va_G} {ca : Nat → ClassId} {ad : Nat → Int → Nat → Nat} {L : List Nat} {aS vS : Nat → Nat} {A : Nat → Prop} {p : Program} {l : Launch} {e : Env} {s : State} {m : MethodId} {args : Array Value} {below : List Frame} {meth : Method} {c : Code} {K : Nat} {r : Int} {F9 : zF} {B9 : zB} (X : zX D ca L aS vS A p s m args meth c prog_15_method_172_code 7 (Option.none : Option Jvm.ClassFile.FieldType) "StaveHouseModel") {l5 : Int} {l0 : Int} {l1 : Int} {l3 : Int} {F : zF} {B : zB} {H : Heap} {locs : List Loc} {ls : Array Slot} (hf : f_M_moment_1_77 K l5 l0 l1 l3 F B = some (r, F9, B9)) (hZ : zH D ca ad lnM nM L F B A H) (hS : va_S A s.heap H locs) (hl : lv_has ls 7 [(5, .int (iI l5)), (0, .ref (ad 13 l0 0)), (1, .long (lI l1)), (3, .long (lI l3))]) : W p l e ({ frames := 2, cells := 0, slots := 0, locals := 62 } : Room) s m args below meth c H locs 0 0 (MQ below (Q_M_moment_1 D ca ad L r F9 B9 A) args s 0 0 A) (F0 m 77 ls []) := by
  obtain ⟨hx, hb, hr, hml, hown, hts, hlk, hK, hA, hL, hX⟩ := id X
  replace hf : (if 0 ≤ l0 ∧ l0 < 3 then f_M_moment_1_83 K K (F 13 l0 72) l5 l0 l1 l3 F B else none) = some (r, F9, B9) := hf
  refine lv_aload_n hx hb d_15_172_77 rfl (lv_at hl 1 rfl) ?_
  obtain ⟨g19, hf⟩ := gif hf
  refine zget (ci := 13) (C := RX13) (T := TX13) (v := .int (iI (F 13 l0 72))) (k := 72) hx hb hts inW_13 hown hK hZ g19.1 g19.2 rfl (by decide) k_10_11 rfl d_15_172_78 ?_
  refine lv_istore (lv' := [(6, .int (iI (F 13 l0 72))), (5, .int (iI l5)), (0, .ref (ad 13 l0 0)), (1, .long (lI l1)), (3, .long (lI l3))]) hx hb d_15_172_81 hl (by decide) rfl (fun ls hl => ?_)
  exact b_M_moment_1_83 X hf hZ hS (lv_sub hl [0, 1, 2, 3, 4] rfl)

def f_M_moment_1_43 (K : Nat) (l5 : Int) (l0 : Int) (l1 : Int) (l3 : Int) (F : zF) (B : zB) : zO := if r32 l5 then (if l5 ≤ 0 then f_M_moment_1_77 K l5 l0 l1 l3 F B else if 0 ≤ l0 ∧ l0 < 3 then if 0 ≤ (l5 - 1) ∧ (l5 - 1) < 800 then if r64 (B 13 l0 73 (l5 - 1)) then if r64 l1 then (if (zcmp (B 13 l0 73 (l5 - 1)) l1) = 0 then if r64 (B 13 l0 74 (l5 - 1)) then if r64 l3 then (if (zcmp (B 13 l0 74 (l5 - 1)) l3) = 0 then some (0, F, B) else f_M_moment_1_77 K l5 l0 l1 l3 F B) else none else none else f_M_moment_1_77 K l5 l0 l1 l3 F B) else none else none else none else none) else none
set_option maxHeartbeats 4000000 in
set_option maxRecDepth 100000 in
theorem b_M_moment_1_43 {D : va_G} {ca : Nat → ClassId} {ad : Nat → Int → Nat → Nat} {L : List Nat} {aS vS : Nat → Nat} {A : Nat → Prop} {p : Program} {l : Launch} {e : Env} {s : State} {m : MethodId} {args : Array Value} {below : List Frame} {meth : Method} {c : Code} {K : Nat} {r : Int} {F9 : zF} {B9 : zB} (X : zX D ca L aS vS A p s m args meth c prog_15_method_172_code 7 (Option.none : Option Jvm.ClassFile.FieldType) "StaveHouseModel") {l5 : Int} {l0 : Int} {l1 : Int} {l3 : Int} {F : zF} {B : zB} {H : Heap} {locs : List Loc} {ls : Array Slot} (hf : f_M_moment_1_43 K l5 l0 l1 l3 F B = some (r, F9, B9)) (hZ : zH D ca ad lnM nM L F B A H) (hS : va_S A s.heap H locs) (hl : lv_has ls 7 [(5, .int (iI l5)), (0, .ref (ad 13 l0 0)), (1, .long (lI l1)), (3, .long (lI l3))]) : W p l e ({ frames := 2, cells := 0, slots := 0, locals := 62 } : Room) s m args below meth c H locs 0 0 (MQ below (Q_M_moment_1 D ca ad L r F9 B9 A) args s 0 0 A) (F0 m 43 ls []) := by
  obtain ⟨hx, hb, hr, hml, hown, hts, hlk, hK, hA, hL, hX⟩ := id X
  replace hf : (if r32 l5 then (if l5 ≤ 0 then f_M_moment_1_77 K l5 l0 l1 l3 F B else if 0 ≤ l0 ∧ l0 < 3 then if 0 ≤ (l5 - 1) ∧ (l5 - 1) < 800 then if r64 (B 13 l0 73 (l5 - 1)) then if r64 l1 then (if (zcmp (B 13 l0 73 (l5 - 1)) l1) = 0 then if r64 (B 13 l0 74 (l5 - 1)) then if r64 l3 then (if (zcmp (B 13 l0 74 (l5 - 1)) l3) = 0 then some (0, F, B) else f_M_moment_1_77 K l5 l0 l1 l3 F B) else none else none else f_M_moment_1_77 K l5 l0 l1 l3 F B) else none else none else none else none) else none) = some (r, F9, B9) := hf
  refine lv_iload hx hb d_15_172_43 (lv_at hl 0 rfl) ?_
  obtain ⟨g9, hf⟩ := gif hf
  refine z0le (tgt := 77) hx hb g9 d_15_172_45 (by decide) (fun h10 => ?_) (fun h10 => ?_)
  · replace hf := gpos hf h10
    exact b_M_moment_1_77 X hf hZ hS (lv_sub hl [0, 1, 2, 3] rfl)
  · replace hf := gneg hf h10
    refine lv_aload_n hx hb d_15_172_48 rfl (lv_at hl 1 rfl) ?_
    obtain ⟨g11, hf⟩ := gif hf
    refine zget (ci := 13) (C := RX13) (T := TX13) (v := .ref (ad 13 l0 (73 + 1))) (k := 73) hx hb hts inW_13 hown hK hZ g11.1 g11.2 rfl (by decide) k_10_13 rfl d_15_172_49 ?_
    refine lv_iload hx hb d_15_172_52 (lv_at hl 0 rfl) ?_
    refine lv_iconst (v := iI 1) hx hb d_15_172_54 rfl ?_
    refine zsub hx hb d_15_172_55 ?_
    obtain ⟨g12, hf⟩ := gif hf
    refine zlald (ci := 13) (k := 73) hx hb hK rfl hZ g11.1 g11.2 rfl (Nat.le_of_ble_eq_true rfl) g12.1 g12.2 d_15_172_56 ?_
    refine lv_lload_n hx hb d_15_172_57 rfl (lv_at hl 2 rfl) ?_
    obtain ⟨g13, hf⟩ := gif hf
    obtain ⟨g14, hf⟩ := gif hf
    refine zcmp_r hx hb g13 g14 d_15_172_58 ?_
    refine z0ne (tgt := 77) hx hb zcmp_32 d_15_172_59 (by decide) (fun h15 => ?_) (fun h15 => ?_)
    · replace hf := gneg hf h15
      exact b_M_moment_1_77 X hf hZ hS (lv_sub hl [0, 1, 2, 3] rfl)
    · replace hf := gpos hf h15
      refine lv_aload_n hx hb d_15_172_62 rfl (lv_at hl 1 rfl) ?_
      refine zget (ci := 13) (C := RX13) (T := TX13) (v := .ref (ad 13 l0 (74 + 1))) (k := 74) hx hb hts inW_13 hown hK hZ g11.1 g11.2 rfl (by decide) k_10_15 rfl d_15_172_63 ?_
      refine lv_iload hx hb d_15_172_66 (lv_at hl 0 rfl) ?_
      refine lv_iconst (v := iI 1) hx hb d_15_172_68 rfl ?_
      refine zsub hx hb d_15_172_69 ?_
      refine zlald (ci := 13) (k := 74) hx hb hK rfl hZ g11.1 g11.2 rfl (Nat.le_of_ble_eq_true rfl) g12.1 g12.2 d_15_172_70 ?_
      refine lv_lload_n hx hb d_15_172_71 rfl (lv_at hl 3 rfl) ?_
      obtain ⟨g16, hf⟩ := gif hf
      obtain ⟨g17, hf⟩ := gif hf
      refine zcmp_r hx hb g16 g17 d_15_172_72 ?_
      refine z0ne (tgt := 77) hx hb zcmp_32 d_15_172_73 (by decide) (fun h18 => ?_) (fun h18 => ?_)
      · replace hf := gneg hf h18
        exact b_M_moment_1_77 X hf hZ hS (lv_sub hl [0, 1, 2, 3] rfl)
      · replace hf := gpos hf h18
        cases hf
        exact W.vret hx hb hr (fun t ht hW => ⟨⟨(), rfl, trivial, by rw [ht]; exact hZ, va_K.moved hW.alike hK⟩, hS.F ht⟩) hS.2.2 d_15_172_76 hlk

def f_M_moment_1_6 (K : Nat) : Nat → Int → Int → Int → Int → zF → zB → zO
  | 0, _, _, _, _, _, _ => none
  | n + 1, l5, l0, l1, l3, F, B => if r32 l5 then (if l5 ≤ 0 then f_M_moment_1_43 K l5 l0 l1 l3 F B else if 0 ≤ l0 ∧ l0 < 3 then if 0 ≤ (l5 - 1) ∧ (l5 - 1) < 800 then zbind (f_M_compare K (B 13 l0 73 (l5 - 1)) (B 13 l0 74 (l5 - 1)) l1 l3 F B) (fun r6 F6 B6 => if r32 r6 then (if r6 ≤ 0 then f_M_moment_1_43 K l5 l0 l1 l3 F6 B6 else f_M_moment_1_6 K n (l5 - 1) l0 l1 l3 F6 B6) else none) else none else none) else none
set_option maxHeartbeats 4000000 in
set_option maxRecDepth 100000 in
theorem b_M_moment_1_6 {D : va_G} {ca : Nat → ClassId} {ad : Nat → Int → Nat → Nat} {L : List Nat} {aS vS : Nat → Nat} {A : Nat → Prop} {p : Program} {l : Launch} {e : Env} {s : State} {m : MethodId} {args : Array Value} {below : List Frame} {meth : Method} {c : Code} {K : Nat} {r : Int} {F9 : zF} {B9 : zB} (X : zX D ca L aS vS A p s m args meth c prog_15_method_172_code 7 (Option.none : Option Jvm.ClassFile.FieldType) "StaveHouseModel") : ∀ {n : Nat} {l5 : Int} {l0 : Int} {l1 : Int} {l3 : Int} {F : zF} {B : zB} {H : Heap} {locs : List Loc} {ls : Array Slot}, f_M_moment_1_6 K n l5 l0 l1 l3 F B = some (r, F9, B9) → zH D ca ad lnM nM L F B A H → va_S A s.heap H locs → lv_has ls 7 [(5, .int (iI l5)), (0, .ref (ad 13 l0 0)), (1, .long (lI l1)), (3, .long (lI l3))] → W p l e ({ frames := 2, cells := 0, slots := 0, locals := 62 } : Room) s m args below meth c H locs 0 0 (MQ below (Q_M_moment_1 D ca ad L r F9 B9 A) args s 0 0 A) (F0 m 6 ls []) := by
  obtain ⟨hx, hb, hr, hml, hown, hts, hlk, hK, hA, hL, hX⟩ := id X
  intro n
  induction n with
  | zero =>
    intros
    rename_i hf _ _ _
    cases hf
  | succ n ih =>
    intro l5 l0 l1 l3 F B H locs ls hf hZ hS hl
    replace hf : (if r32 l5 then (if l5 ≤ 0 then f_M_moment_1_43 K l5 l0 l1 l3 F B else if 0 ≤ l0 ∧ l0 < 3 then if 0 ≤ (l5 - 1) ∧ (l5 - 1) < 800 then zbind (f_M_compare K (B 13 l0 73 (l5 - 1)) (B 13 l0 74 (l5 - 1)) l1 l3 F B) (fun r6 F6 B6 => if r32 r6 then (if r6 ≤ 0 then f_M_moment_1_43 K l5 l0 l1 l3 F6 B6 else f_M_moment_1_6 K n (l5 - 1) l0 l1 l3 F6 B6) else none) else none else none) else none) = some (r, F9, B9) := hf
    refine lv_iload hx hb d_15_172_6 (lv_at hl 0 rfl) ?_
    obtain ⟨g2, hf⟩ := gif hf
    refine z0le (tgt := 43) hx hb g2 d_15_172_8 (by decide) (fun h3 => ?_) (fun h3 => ?_)
    · replace hf := gpos hf h3
      exact b_M_moment_1_43 X hf hZ hS (lv_sub hl [0, 1, 2, 3] rfl)
    · replace hf := gneg hf h3
      refine lv_aload_n hx hb d_15_172_11 rfl (lv_at hl 1 rfl) ?_
      obtain ⟨g4, hf⟩ := gif hf
      refine zget (ci := 13) (C := RX13) (T := TX13) (v := .ref (ad 13 l0 (73 + 1))) (k := 73) hx hb hts inW_13 hown hK hZ g4.1 g4.2 rfl (by decide) k_10_13 rfl d_15_172_12 ?_
      refine lv_iload hx hb d_15_172_15 (lv_at hl 0 rfl) ?_
      refine lv_iconst (v := iI 1) hx hb d_15_172_17 rfl ?_
      refine zsub hx hb d_15_172_18 ?_
      obtain ⟨g5, hf⟩ := gif hf
      refine zlald (ci := 13) (k := 73) hx hb hK rfl hZ g4.1 g4.2 rfl (Nat.le_of_ble_eq_true rfl) g5.1 g5.2 d_15_172_19 ?_
      refine lv_aload_n hx hb d_15_172_20 rfl (lv_at hl 1 rfl) ?_
      refine zget (ci := 13) (C := RX13) (T := TX13) (v := .ref (ad 13 l0 (74 + 1))) (k := 74) hx hb hts inW_13 hown hK hZ g4.1 g4.2 rfl (by decide) k_10_15 rfl d_15_172_21 ?_
      refine lv_iload hx hb d_15_172_24 (lv_at hl 0 rfl) ?_
      refine lv_iconst (v := iI 1) hx hb d_15_172_26 rfl ?_
      refine zsub hx hb d_15_172_27 ?_
      refine zlald (ci := 13) (k := 74) hx hb hK rfl hZ g4.1 g4.2 rfl (Nat.le_of_ble_eq_true rfl) g5.1 g5.2 d_15_172_28 ?_
      refine lv_lload_n hx hb d_15_172_29 rfl (lv_at hl 2 rfl) ?_
      refine lv_lload_n hx hb d_15_172_30 rfl (lv_at hl 3 rfl) ?_
      obtain ⟨r6, F6, B6, hc6, hf⟩ := gbind hf
      refine va_calli (va_runS (As := [.long (lI (B 13 l0 73 (l5 - 1))), .long (lI (B 13 l0 74 (l5 - 1))), .long (lI l1), .long (lI l3)]) (rest := []) ⟨hx, hb, hml, hown, hts⟩ (c_M_compare (l := l) hc6) (va_cwS 4 hts (gdS k_13_104 k_13_105 k_1_9 k_13_106) rfl rfl rfl (by decide +kernel) ⟨Nat.le_of_ble_eq_true rfl, Nat.le_of_ble_eq_true rfl⟩) (zPS X hZ hS [.long (lI (B 13 l0 73 (l5 - 1))), .long (lI (B 13 l0 74 (l5 - 1))), .long (lI l1), .long (lI l3)]) rfl rfl hl.1 rfl (lv_room (Nat.le_of_ble_eq_true rfl)) d_15_172_31 ⟨Nat.le_of_ble_eq_true rfl, Nat.le_of_ble_eq_true rfl⟩) hS (fun q _ h => zAin X hS q h) (zAin X hS) (fun p6 u6 t6 H6 locs6 ht6 hv6 hw6 hB6 hz6 hk6 hS6 => ?_)
      have hZ6 := zBack X ht6 hB6
      subst hw6
      obtain ⟨g7, hf⟩ := gif hf
      refine z0le (tgt := 43) hx hb g7 d_15_172_34 (by decide) (fun h8 => ?_) (fun h8 => ?_)
      · replace hf := gpos hf h8
        exact b_M_moment_1_43 X hf hZ6 hS6 (lv_sub hl [0, 1, 2, 3] rfl)
      · replace hf := gneg hf h8
        refine lv_iinc (v := iI (l5 - 1)) (lv' := [(5, .int (iI (l5 - 1))), (0, .ref (ad 13 l0 0)), (1, .long (lI l1)), (3, .long (lI l3))]) hx hb d_15_172_37 hl (k := 0) rfl (by rw [show Int32.ofInt (-1) = iI (-1) from rfl, iI_add]; congr 1) (by decide) rfl (fun ls hl => ?_)
        refine lv_goto (tgt := 6) hx hb d_15_172_40 (by decide) ?_
        exact ih hf hZ6 hS6 (lv_sub hl [0, 1, 2, 3] rfl)

def f_M_moment_1 (K : Nat) (l0 : Int) (l1 : Int) (l3 : Int) (F : zF) (B : zB) : zO := if 0 ≤ l0 ∧ l0 < 3 then f_M_moment_1_6 K K (F 13 l0 72) l0 l1 l3 F B else none
set_option maxHeartbeats 4000000 in
set_option maxRecDepth 100000 in
theorem c_M_moment_1 {l : Launch} {D : va_G} {ca : Nat → ClassId} {ad : Nat → Int → Nat → Nat} {L : List Nat} {aS vS : Nat → Nat} {sz K : Nat} {l0 : Int} {l1 : Int} {l3 : Int} {F F9 : zF} {B B9 : zB} {r : Int} (hf : f_M_moment_1 K l0 l1 l3 F B = some (r, F9, B9)) : Met l ({ cls := "StaveHouseModel", name := "moment", desc := "(LStaveHouseModel$Piece;JJ)V" } : Jvm.MethodName) (Cond.code ({ cls := "StaveHouseModel", name := "moment", desc := "(LStaveHouseModel$Piece;JJ)V" } : Jvm.MethodName) prog_15_method_172_code 7 (Option.none : Option Jvm.ClassFile.FieldType) :: wAll) ({ frames := 2, cells := 0, slots := 0, locals := 62 } : Room) (va_Pc [.ref (ad 13 l0 0), .long (lI l1), .long (lI l3)] (zPre D ca ad lnM nM L aS vS F B sz)) (Q_M_moment_1 D ca ad L r F9 B9 (zA L sz)) 0 0 (zA L sz) := by
  refine zMet (Qc := Q_M_moment_1 D ca ad L r F9 B9) (lv := [(0, .ref (ad 13 l0 0)), (1, .long (lI l1)), (3, .long (lI l3))]) (by decide) (Nat.le_of_ble_eq_true rfl) rfl (fun A p e s m below meth c ls X hZ hS hl => ?_)
  obtain ⟨hx, hb, hr, hml, hown, hts, hlk, hK, hA, hL, hX⟩ := id X
  replace hf : (if 0 ≤ l0 ∧ l0 < 3 then f_M_moment_1_6 K K (F 13 l0 72) l0 l1 l3 F B else none) = some (r, F9, B9) := hf
  refine lv_aload_n hx hb d_15_172_0 rfl (lv_at hl 0 rfl) ?_
  obtain ⟨g1, hf⟩ := gif hf
  refine zget (ci := 13) (C := RX13) (T := TX13) (v := .int (iI (F 13 l0 72))) (k := 72) hx hb hts inW_13 hown hK hZ g1.1 g1.2 rfl (by decide) k_10_11 rfl d_15_172_1 ?_
  refine lv_istore (lv' := [(5, .int (iI (F 13 l0 72))), (0, .ref (ad 13 l0 0)), (1, .long (lI l1)), (3, .long (lI l3))]) hx hb d_15_172_4 hl (by decide) rfl (fun ls hl => ?_)
  exact b_M_moment_1_6 X hf hZ hS (lv_sub hl [0, 1, 2, 3] rfl)

abbrev Q_M_lineAt (D : va_G) (ca : Nat → ClassId) (ad : Nat → Int → Nat → Nat) (L : List Nat) (r : Int) (F : zF) (B : zB) (A : Nat → Prop) : Array Value → State → Outcome → State → Prop := va_Qi (S := Unit) (fun p _ => p = iI r) (fun _ => zPo D ca ad lnM nM L F B A) A
def f_M_lineAt (K : Nat) (l0 : Int) (l1 : Int) (l2 : Int) (F : zF) (B : zB) : zO := if 0 ≤ l0 ∧ l0 < 3 then if 0 ≤ ((4 * l1) + l2) ∧ ((4 * l1) + l2) < 3200 then zbind (f_M_lineOf K l0 ((1000 * l2) + (B 13 l0 75 ((4 * l1) + l2))) F B) (fun r3 F3 B3 => some (r3, F3, B3)) else none else none
set_option maxHeartbeats 4000000 in
set_option maxRecDepth 100000 in
theorem c_M_lineAt {l : Launch} {D : va_G} {ca : Nat → ClassId} {ad : Nat → Int → Nat → Nat} {L : List Nat} {aS vS : Nat → Nat} {sz K : Nat} {l0 : Int} {l1 : Int} {l2 : Int} {F F9 : zF} {B B9 : zB} {r : Int} (hf : f_M_lineAt K l0 l1 l2 F B = some (r, F9, B9)) : Met l ({ cls := "StaveHouseModel", name := "lineAt", desc := "(LStaveHouseModel$Piece;II)I" } : Jvm.MethodName) (Cond.code ({ cls := "StaveHouseModel", name := "lineAt", desc := "(LStaveHouseModel$Piece;II)I" } : Jvm.MethodName) prog_15_method_183_code 3 (Option.some Jvm.ClassFile.FieldType.int) :: wAll) ({ frames := 2, cells := 0, slots := 0, locals := 46 } : Room) (va_Pc [.ref (ad 13 l0 0), .int (iI l1), .int (iI l2)] (zPre D ca ad lnM nM L aS vS F B sz)) (Q_M_lineAt D ca ad L r F9 B9 (zA L sz)) 0 0 (zA L sz) := by
  refine zMet (Qc := Q_M_lineAt D ca ad L r F9 B9) (lv := [(0, .ref (ad 13 l0 0)), (1, .int (iI l1)), (2, .int (iI l2))]) (by decide) (Nat.le_of_ble_eq_true rfl) rfl (fun A p e s m below meth c ls X hZ hS hl => ?_)
  obtain ⟨hx, hb, hr, hml, hown, hts, hlk, hK, hA, hL, hX⟩ := id X
  replace hf : (if 0 ≤ l0 ∧ l0 < 3 then if 0 ≤ ((4 * l1) + l2) ∧ ((4 * l1) + l2) < 3200 then zbind (f_M_lineOf K l0 ((1000 * l2) + (B 13 l0 75 ((4 * l1) + l2))) F B) (fun r3 F3 B3 => some (r3, F3, B3)) else none else none) = some (r, F9, B9) := hf
  refine lv_aload_n hx hb d_15_183_0 rfl (lv_at hl 0 rfl) ?_
  refine lv_sipush (v := iI 1000) hx hb d_15_183_1 (by decide) ?_
  refine lv_iload_n hx hb d_15_183_4 rfl (lv_at hl 2 rfl) ?_
  refine zmul hx hb d_15_183_5 ?_
  refine lv_aload_n hx hb d_15_183_6 rfl (lv_at hl 0 rfl) ?_
  obtain ⟨g1, hf⟩ := gif hf
  refine zget (ci := 13) (C := RX13) (T := TX13) (v := .ref (ad 13 l0 (75 + 1))) (k := 75) hx hb hts inW_13 hown hK hZ g1.1 g1.2 rfl (by decide) k_10_17 rfl d_15_183_7 ?_
  refine lv_iconst (v := iI 4) hx hb d_15_183_10 rfl ?_
  refine lv_iload_n hx hb d_15_183_11 rfl (lv_at hl 1 rfl) ?_
  refine zmul hx hb d_15_183_12 ?_
  refine lv_iload_n hx hb d_15_183_13 rfl (lv_at hl 2 rfl) ?_
  refine zadd hx hb d_15_183_14 ?_
  obtain ⟨g2, hf⟩ := gif hf
  refine zald (ci := 13) (k := 75) hx hb hK rfl hZ g1.1 g1.2 rfl (Nat.le_of_ble_eq_true rfl) g2.1 g2.2 d_15_183_15 ?_
  refine zadd hx hb d_15_183_16 ?_
  obtain ⟨r3, F3, B3, hc3, hf⟩ := gbind hf
  refine va_calli (va_runS (As := [.ref (ad 13 l0 0), .int (iI ((1000 * l2) + (B 13 l0 75 ((4 * l1) + l2))))]) (rest := []) ⟨hx, hb, hml, hown, hts⟩ (c_M_lineOf (l := l) hc3) (va_cwS 2 hts (gdS k_14_61 k_14_62 k_1_9 k_14_63) rfl rfl rfl (by decide +kernel) ⟨Nat.le_of_ble_eq_true rfl, Nat.le_of_ble_eq_true rfl⟩) (zPS X hZ hS [.ref (ad 13 l0 0), .int (iI ((1000 * l2) + (B 13 l0 75 ((4 * l1) + l2))))]) rfl rfl hl.1 rfl (lv_room (Nat.le_of_ble_eq_true rfl)) d_15_183_17 ⟨Nat.le_of_ble_eq_true rfl, Nat.le_of_ble_eq_true rfl⟩) hS (fun q _ h => zAin X hS q h) (zAin X hS) (fun p3 u3 t3 H3 locs3 ht3 hv3 hw3 hB3 hz3 hk3 hS3 => ?_)
  have hZ3 := zBack X ht3 hB3
  subst hw3
  cases hf
  exact W.iret hx hb hr (fun t ht hW => ⟨⟨_, (), rfl, rfl, by rw [ht]; exact hZ3, va_K.moved hW.alike hK⟩, hS3.F ht⟩) hS3.2.2 d_15_183_20 hlk

abbrev Q_M_beginsAt (D : va_G) (ca : Nat → ClassId) (ad : Nat → Int → Nat → Nat) (L : List Nat) (r : Int) (F : zF) (B : zB) (A : Nat → Prop) : Array Value → State → Outcome → State → Prop := va_Qi (S := Unit) (fun p _ => p = iI r) (fun _ => zPo D ca ad lnM nM L F B A) A
def f_M_beginsAt_30 (K : Nat) (s0 : Int) (F : zF) (B : zB) : zO := if (s0 = 0 ∨ s0 = 1) then some (s0, F, B) else none
set_option maxHeartbeats 4000000 in
set_option maxRecDepth 100000 in
theorem b_M_beginsAt_30 {D : va_G} {ca : Nat → ClassId} {ad : Nat → Int → Nat → Nat} {L : List Nat} {aS vS : Nat → Nat} {A : Nat → Prop} {p : Program} {l : Launch} {e : Env} {s : State} {m : MethodId} {args : Array Value} {below : List Frame} {meth : Method} {c : Code} {K : Nat} {r : Int} {F9 : zF} {B9 : zB} (X : zX D ca L aS vS A p s m args meth c prog_15_method_185_code 3 (Option.some Jvm.ClassFile.FieldType.boolean) "StaveHouseModel") {s0 : Int} {F : zF} {B : zB} {H : Heap} {locs : List Loc} {ls : Array Slot} (hf : f_M_beginsAt_30 K s0 F B = some (r, F9, B9)) (hZ : zH D ca ad lnM nM L F B A H) (hS : va_S A s.heap H locs) (hl : lv_has ls 3 []) : W p l e ({ frames := 0, cells := 0, slots := 0, locals := 0 } : Room) s m args below meth c H locs 0 0 (MQ below (Q_M_beginsAt D ca ad L r F9 B9 A) args s 0 0 A) (F0 m 30 ls [.int (iI s0)]) := by
  obtain ⟨hx, hb, hr, hml, hown, hts, hlk, hK, hA, hL, hX⟩ := id X
  replace hf : (if (s0 = 0 ∨ s0 = 1) then some (s0, F, B) else none) = some (r, F9, B9) := hf
  obtain ⟨g7, hf⟩ := gif hf
  cases hf
  exact W.zret hx hb hr (zbool g7) (fun t ht hW => ⟨⟨_, (), rfl, rfl, by rw [ht]; exact hZ, va_K.moved hW.alike hK⟩, hS.F ht⟩) hS.2.2 d_15_185_30 hlk

def f_M_beginsAt (K : Nat) (l0 : Int) (l1 : Int) (l2 : Int) (F : zF) (B : zB) : zO := if 0 ≤ l0 ∧ l0 < 3 then if 0 ≤ ((4 * l1) + l2) ∧ ((4 * l1) + l2) < 3200 then if 0 ≤ ((4 * (l1 - 1)) + l2) ∧ ((4 * (l1 - 1)) + l2) < 3200 then if r32 (B 13 l0 75 ((4 * l1) + l2)) then if r32 (B 13 l0 75 ((4 * (l1 - 1)) + l2)) then (if (B 13 l0 75 ((4 * l1) + l2)) = (B 13 l0 75 ((4 * (l1 - 1)) + l2)) then f_M_beginsAt_30 K 0 F B else f_M_beginsAt_30 K 1 F B) else none else none else none else none else none
set_option maxHeartbeats 4000000 in
set_option maxRecDepth 100000 in
theorem c_M_beginsAt {l : Launch} {D : va_G} {ca : Nat → ClassId} {ad : Nat → Int → Nat → Nat} {L : List Nat} {aS vS : Nat → Nat} {sz K : Nat} {l0 : Int} {l1 : Int} {l2 : Int} {F F9 : zF} {B B9 : zB} {r : Int} (hf : f_M_beginsAt K l0 l1 l2 F B = some (r, F9, B9)) : Met l ({ cls := "StaveHouseModel", name := "beginsAt", desc := "(LStaveHouseModel$Piece;II)Z" } : Jvm.MethodName) (Cond.code ({ cls := "StaveHouseModel", name := "beginsAt", desc := "(LStaveHouseModel$Piece;II)Z" } : Jvm.MethodName) prog_15_method_185_code 3 (Option.some Jvm.ClassFile.FieldType.boolean) :: wAll) ({ frames := 0, cells := 0, slots := 0, locals := 0 } : Room) (va_Pc [.ref (ad 13 l0 0), .int (iI l1), .int (iI l2)] (zPre D ca ad lnM nM L aS vS F B sz)) (Q_M_beginsAt D ca ad L r F9 B9 (zA L sz)) 0 0 (zA L sz) := by
  refine zMet (Qc := Q_M_beginsAt D ca ad L r F9 B9) (lv := [(0, .ref (ad 13 l0 0)), (1, .int (iI l1)), (2, .int (iI l2))]) (by decide) (Nat.le_of_ble_eq_true rfl) rfl (fun A p e s m below meth c ls X hZ hS hl => ?_)
  obtain ⟨hx, hb, hr, hml, hown, hts, hlk, hK, hA, hL, hX⟩ := id X
  replace hf : (if 0 ≤ l0 ∧ l0 < 3 then if 0 ≤ ((4 * l1) + l2) ∧ ((4 * l1) + l2) < 3200 then if 0 ≤ ((4 * (l1 - 1)) + l2) ∧ ((4 * (l1 - 1)) + l2) < 3200 then if r32 (B 13 l0 75 ((4 * l1) + l2)) then if r32 (B 13 l0 75 ((4 * (l1 - 1)) + l2)) then (if (B 13 l0 75 ((4 * l1) + l2)) = (B 13 l0 75 ((4 * (l1 - 1)) + l2)) then f_M_beginsAt_30 K 0 F B else f_M_beginsAt_30 K 1 F B) else none else none else none else none else none) = some (r, F9, B9) := hf
  refine lv_aload_n hx hb d_15_185_0 rfl (lv_at hl 0 rfl) ?_
  obtain ⟨g1, hf⟩ := gif hf
  refine zget (ci := 13) (C := RX13) (T := TX13) (v := .ref (ad 13 l0 (75 + 1))) (k := 75) hx hb hts inW_13 hown hK hZ g1.1 g1.2 rfl (by decide) k_10_17 rfl d_15_185_1 ?_
  refine lv_iconst (v := iI 4) hx hb d_15_185_4 rfl ?_
  refine lv_iload_n hx hb d_15_185_5 rfl (lv_at hl 1 rfl) ?_
  refine zmul hx hb d_15_185_6 ?_
  refine lv_iload_n hx hb d_15_185_7 rfl (lv_at hl 2 rfl) ?_
  refine zadd hx hb d_15_185_8 ?_
  obtain ⟨g2, hf⟩ := gif hf
  refine zald (ci := 13) (k := 75) hx hb hK rfl hZ g1.1 g1.2 rfl (Nat.le_of_ble_eq_true rfl) g2.1 g2.2 d_15_185_9 ?_
  refine lv_aload_n hx hb d_15_185_10 rfl (lv_at hl 0 rfl) ?_
  refine zget (ci := 13) (C := RX13) (T := TX13) (v := .ref (ad 13 l0 (75 + 1))) (k := 75) hx hb hts inW_13 hown hK hZ g1.1 g1.2 rfl (by decide) k_10_17 rfl d_15_185_11 ?_
  refine lv_iconst (v := iI 4) hx hb d_15_185_14 rfl ?_
  refine lv_iload_n hx hb d_15_185_15 rfl (lv_at hl 1 rfl) ?_
  refine lv_iconst (v := iI 1) hx hb d_15_185_16 rfl ?_
  refine zsub hx hb d_15_185_17 ?_
  refine zmul hx hb d_15_185_18 ?_
  refine lv_iload_n hx hb d_15_185_19 rfl (lv_at hl 2 rfl) ?_
  refine zadd hx hb d_15_185_20 ?_
  obtain ⟨g3, hf⟩ := gif hf
  refine zald (ci := 13) (k := 75) hx hb hK rfl hZ g1.1 g1.2 rfl (Nat.le_of_ble_eq_true rfl) g3.1 g3.2 d_15_185_21 ?_
  obtain ⟨g4, hf⟩ := gif hf
  obtain ⟨g5, hf⟩ := gif hf
  refine zeq (tgt := 29) hx hb g4 g5 d_15_185_22 (by decide) (fun h6 => ?_) (fun h6 => ?_)
  · replace hf := gpos hf h6
    refine lv_iconst (v := iI 0) hx hb d_15_185_29 rfl ?_
    exact b_M_beginsAt_30 X hf hZ hS (lv_sub hl [] rfl)
  · replace hf := gneg hf h6
    refine lv_iconst (v := iI 1) hx hb d_15_185_25 rfl ?_
    refine lv_goto (tgt := 30) hx hb d_15_185_26 (by decide) ?_
    exact b_M_beginsAt_30 X hf hZ hS (lv_sub hl [] rfl)

abbrev Q_M_toneAt (D : va_G) (ca : Nat → ClassId) (ad : Nat → Int → Nat → Nat) (L : List Nat) (r : Int) (F : zF) (B : zB) (A : Nat → Prop) : Array Value → State → Outcome → State → Prop := va_Qi (S := Unit) (fun p _ => p = iI r) (fun _ => zPo D ca ad lnM nM L F B A) A
def f_M_toneAt (K : Nat) (l0 : Int) (l1 : Int) (F : zF) (B : zB) : zO := if 0 ≤ l0 ∧ l0 < 3 then if 0 ≤ l1 ∧ l1 < 24000 then zbind (f_M_tone K (B 13 l0 28 l1) (B 13 l0 29 l1) F B) (fun r3 F3 B3 => some (r3, F3, B3)) else none else none
set_option maxHeartbeats 4000000 in
set_option maxRecDepth 100000 in
theorem c_M_toneAt {l : Launch} {D : va_G} {ca : Nat → ClassId} {ad : Nat → Int → Nat → Nat} {L : List Nat} {aS vS : Nat → Nat} {sz K : Nat} {l0 : Int} {l1 : Int} {F F9 : zF} {B B9 : zB} {r : Int} (hf : f_M_toneAt K l0 l1 F B = some (r, F9, B9)) : Met l ({ cls := "StaveHouseModel", name := "toneAt", desc := "(LStaveHouseModel$Piece;I)I" } : Jvm.MethodName) (Cond.code ({ cls := "StaveHouseModel", name := "toneAt", desc := "(LStaveHouseModel$Piece;I)I" } : Jvm.MethodName) prog_15_method_184_code 2 (Option.some Jvm.ClassFile.FieldType.int) :: wAll) ({ frames := 1, cells := 0, slots := 0, locals := 23 } : Room) (va_Pc [.ref (ad 13 l0 0), .int (iI l1)] (zPre D ca ad lnM nM L aS vS F B sz)) (Q_M_toneAt D ca ad L r F9 B9 (zA L sz)) 0 0 (zA L sz) := by
  refine zMet (Qc := Q_M_toneAt D ca ad L r F9 B9) (lv := [(0, .ref (ad 13 l0 0)), (1, .int (iI l1))]) (by decide) (Nat.le_of_ble_eq_true rfl) rfl (fun A p e s m below meth c ls X hZ hS hl => ?_)
  obtain ⟨hx, hb, hr, hml, hown, hts, hlk, hK, hA, hL, hX⟩ := id X
  replace hf : (if 0 ≤ l0 ∧ l0 < 3 then if 0 ≤ l1 ∧ l1 < 24000 then zbind (f_M_tone K (B 13 l0 28 l1) (B 13 l0 29 l1) F B) (fun r3 F3 B3 => some (r3, F3, B3)) else none else none) = some (r, F9, B9) := hf
  refine lv_aload_n hx hb d_15_184_0 rfl (lv_at hl 0 rfl) ?_
  obtain ⟨g1, hf⟩ := gif hf
  refine zget (ci := 13) (C := RX13) (T := TX13) (v := .ref (ad 13 l0 (28 + 1))) (k := 28) hx hb hts inW_13 hown hK hZ g1.1 g1.2 rfl (by decide) k_9_174 rfl d_15_184_1 ?_
  refine lv_iload_n hx hb d_15_184_4 rfl (lv_at hl 1 rfl) ?_
  obtain ⟨g2, hf⟩ := gif hf
  refine zald (ci := 13) (k := 28) hx hb hK rfl hZ g1.1 g1.2 rfl (Nat.le_of_ble_eq_true rfl) g2.1 g2.2 d_15_184_5 ?_
  refine lv_aload_n hx hb d_15_184_6 rfl (lv_at hl 0 rfl) ?_
  refine zget (ci := 13) (C := RX13) (T := TX13) (v := .ref (ad 13 l0 (29 + 1))) (k := 29) hx hb hts inW_13 hown hK hZ g1.1 g1.2 rfl (by decide) k_9_176 rfl d_15_184_7 ?_
  refine lv_iload_n hx hb d_15_184_10 rfl (lv_at hl 1 rfl) ?_
  refine zald (ci := 13) (k := 29) hx hb hK rfl hZ g1.1 g1.2 rfl (Nat.le_of_ble_eq_true rfl) g2.1 g2.2 d_15_184_11 ?_
  obtain ⟨r3, F3, B3, hc3, hf⟩ := gbind hf
  refine va_calli (va_runS (As := [.int (iI (B 13 l0 28 l1)), .int (iI (B 13 l0 29 l1))]) (rest := []) ⟨hx, hb, hml, hown, hts⟩ (c_M_tone (l := l) hc3) (va_cwS 2 hts (gdS k_12_158 k_12_159 k_1_9 k_12_160) rfl rfl rfl (by decide +kernel) ⟨Nat.le_of_ble_eq_true rfl, Nat.le_of_ble_eq_true rfl⟩) (zPS X hZ hS [.int (iI (B 13 l0 28 l1)), .int (iI (B 13 l0 29 l1))]) rfl rfl hl.1 rfl (lv_room (Nat.le_of_ble_eq_true rfl)) d_15_184_12 ⟨Nat.le_of_ble_eq_true rfl, Nat.le_of_ble_eq_true rfl⟩) hS (fun q _ h => zAin X hS q h) (zAin X hS) (fun p3 u3 t3 H3 locs3 ht3 hv3 hw3 hB3 hz3 hk3 hS3 => ?_)
  have hZ3 := zBack X ht3 hB3
  subst hw3
  cases hf
  exact W.iret hx hb hr (fun t ht hW => ⟨⟨_, (), rfl, rfl, by rw [ht]; exact hZ3, va_K.moved hW.alike hK⟩, hS3.F ht⟩) hS3.2.2 d_15_184_15 hlk

abbrev Q_M_isPlainStep (D : va_G) (ca : Nat → ClassId) (ad : Nat → Int → Nat → Nat) (L : List Nat) (r : Int) (F : zF) (B : zB) (A : Nat → Prop) : Array Value → State → Outcome → State → Prop := va_Qi (S := Unit) (fun p _ => p = iI r) (fun _ => zPo D ca ad lnM nM L F B A) A
def f_M_isPlainStep_131 (K : Nat) (s0 : Int) (F : zF) (B : zB) : zO := if (s0 = 0 ∨ s0 = 1) then some (s0, F, B) else none
set_option maxHeartbeats 4000000 in
set_option maxRecDepth 100000 in
theorem b_M_isPlainStep_131 {D : va_G} {ca : Nat → ClassId} {ad : Nat → Int → Nat → Nat} {L : List Nat} {aS vS : Nat → Nat} {A : Nat → Prop} {p : Program} {l : Launch} {e : Env} {s : State} {m : MethodId} {args : Array Value} {below : List Frame} {meth : Method} {c : Code} {K : Nat} {r : Int} {F9 : zF} {B9 : zB} (X : zX D ca L aS vS A p s m args meth c prog_15_method_193_code 2 (Option.some Jvm.ClassFile.FieldType.boolean) "StaveHouseModel") {s0 : Int} {F : zF} {B : zB} {H : Heap} {locs : List Loc} {ls : Array Slot} (hf : f_M_isPlainStep_131 K s0 F B = some (r, F9, B9)) (hZ : zH D ca ad lnM nM L F B A H) (hS : va_S A s.heap H locs) (hl : lv_has ls 2 []) : W p l e ({ frames := 0, cells := 0, slots := 0, locals := 0 } : Room) s m args below meth c H locs 0 0 (MQ below (Q_M_isPlainStep D ca ad L r F9 B9 A) args s 0 0 A) (F0 m 131 ls [.int (iI s0)]) := by
  obtain ⟨hx, hb, hr, hml, hown, hts, hlk, hK, hA, hL, hX⟩ := id X
  replace hf : (if (s0 = 0 ∨ s0 = 1) then some (s0, F, B) else none) = some (r, F9, B9) := hf
  obtain ⟨g31, hf⟩ := gif hf
  cases hf
  exact W.zret hx hb hr (zbool g31) (fun t ht hW => ⟨⟨_, (), rfl, rfl, by rw [ht]; exact hZ, va_K.moved hW.alike hK⟩, hS.F ht⟩) hS.2.2 d_15_193_131 hlk

def f_M_isPlainStep_126 (K : Nat)  (F : zF) (B : zB) : zO := f_M_isPlainStep_131 K 1 F B
set_option maxHeartbeats 4000000 in
set_option maxRecDepth 100000 in
theorem b_M_isPlainStep_126 {D : va_G} {ca : Nat → ClassId} {ad : Nat → Int → Nat → Nat} {L : List Nat} {aS vS : Nat → Nat} {A : Nat → Prop} {p : Program} {l : Launch} {e : Env} {s : State} {m : MethodId} {args : Array Value} {below : List Frame} {meth : Method} {c : Code} {K : Nat} {r : Int} {F9 : zF} {B9 : zB} (X : zX D ca L aS vS A p s m args meth c prog_15_method_193_code 2 (Option.some Jvm.ClassFile.FieldType.boolean) "StaveHouseModel")  {F : zF} {B : zB} {H : Heap} {locs : List Loc} {ls : Array Slot} (hf : f_M_isPlainStep_126 K  F B = some (r, F9, B9)) (hZ : zH D ca ad lnM nM L F B A H) (hS : va_S A s.heap H locs) (hl : lv_has ls 2 []) : W p l e ({ frames := 0, cells := 0, slots := 0, locals := 0 } : Room) s m args below meth c H locs 0 0 (MQ below (Q_M_isPlainStep D ca ad L r F9 B9 A) args s 0 0 A) (F0 m 126 ls []) := by
  obtain ⟨hx, hb, hr, hml, hown, hts, hlk, hK, hA, hL, hX⟩ := id X
  replace hf : (f_M_isPlainStep_131 K 1 F B) = some (r, F9, B9) := hf
  refine lv_iconst (v := iI 1) hx hb d_15_193_126 rfl ?_
  refine lv_goto (tgt := 131) hx hb d_15_193_127 (by decide) ?_
  exact b_M_isPlainStep_131 X hf hZ hS (lv_sub hl [] rfl)

def f_M_isPlainStep_106 (K : Nat)  (F : zF) (B : zB) : zO := f_M_isPlainStep_131 K 1 F B
set_option maxHeartbeats 4000000 in
set_option maxRecDepth 100000 in
theorem b_M_isPlainStep_106 {D : va_G} {ca : Nat → ClassId} {ad : Nat → Int → Nat → Nat} {L : List Nat} {aS vS : Nat → Nat} {A : Nat → Prop} {p : Program} {l : Launch} {e : Env} {s : State} {m : MethodId} {args : Array Value} {below : List Frame} {meth : Method} {c : Code} {K : Nat} {r : Int} {F9 : zF} {B9 : zB} (X : zX D ca L aS vS A p s m args meth c prog_15_method_193_code 2 (Option.some Jvm.ClassFile.FieldType.boolean) "StaveHouseModel")  {F : zF} {B : zB} {H : Heap} {locs : List Loc} {ls : Array Slot} (hf : f_M_isPlainStep_106 K  F B = some (r, F9, B9)) (hZ : zH D ca ad lnM nM L F B A H) (hS : va_S A s.heap H locs) (hl : lv_has ls 2 []) : W p l e ({ frames := 0, cells := 0, slots := 0, locals := 0 } : Room) s m args below meth c H locs 0 0 (MQ below (Q_M_isPlainStep D ca ad L r F9 B9 A) args s 0 0 A) (F0 m 106 ls []) := by
  obtain ⟨hx, hb, hr, hml, hown, hts, hlk, hK, hA, hL, hX⟩ := id X
  replace hf : (f_M_isPlainStep_131 K 1 F B) = some (r, F9, B9) := hf
  refine lv_iconst (v := iI 1) hx hb d_15_193_106 rfl ?_
  refine lv_goto (tgt := 131) hx hb d_15_193_107 (by decide) ?_
  exact b_M_isPlainStep_131 X hf hZ hS (lv_sub hl [] rfl)

def f_M_isPlainStep_88 (K : Nat) (s0 : Int) (F : zF) (B : zB) : zO := if (s0 = 0 ∨ s0 = 1) then some (s0, F, B) else none
set_option maxHeartbeats 4000000 in
set_option maxRecDepth 100000 in
theorem b_M_isPlainStep_88 {D : va_G} {ca : Nat → ClassId} {ad : Nat → Int → Nat → Nat} {L : List Nat} {aS vS : Nat → Nat} {A : Nat → Prop} {p : Program} {l : Launch} {e : Env} {s : State} {m : MethodId} {args : Array Value} {below : List Frame} {meth : Method} {c : Code} {K : Nat} {r : Int} {F9 : zF} {B9 : zB} (X : zX D ca L aS vS A p s m args meth c prog_15_method_193_code 2 (Option.some Jvm.ClassFile.FieldType.boolean) "StaveHouseModel") {s0 : Int} {F : zF} {B : zB} {H : Heap} {locs : List Loc} {ls : Array Slot} (hf : f_M_isPlainStep_88 K s0 F B = some (r, F9, B9)) (hZ : zH D ca ad lnM nM L F B A H) (hS : va_S A s.heap H locs) (hl : lv_has ls 2 []) : W p l e ({ frames := 0, cells := 0, slots := 0, locals := 0 } : Room) s m args below meth c H locs 0 0 (MQ below (Q_M_isPlainStep D ca ad L r F9 B9 A) args s 0 0 A) (F0 m 88 ls [.int (iI s0)]) := by
  obtain ⟨hx, hb, hr, hml, hown, hts, hlk, hK, hA, hL, hX⟩ := id X
  replace hf : (if (s0 = 0 ∨ s0 = 1) then some (s0, F, B) else none) = some (r, F9, B9) := hf
  obtain ⟨g30, hf⟩ := gif hf
  cases hf
  exact W.zret hx hb hr (zbool g30) (fun t ht hW => ⟨⟨_, (), rfl, rfl, by rw [ht]; exact hZ, va_K.moved hW.alike hK⟩, hS.F ht⟩) hS.2.2 d_15_193_88 hlk

def f_M_isPlainStep_71 (K : Nat) (s0 : Int) (F : zF) (B : zB) : zO := if (s0 = 0 ∨ s0 = 1) then some (s0, F, B) else none
set_option maxHeartbeats 4000000 in
set_option maxRecDepth 100000 in
theorem b_M_isPlainStep_71 {D : va_G} {ca : Nat → ClassId} {ad : Nat → Int → Nat → Nat} {L : List Nat} {aS vS : Nat → Nat} {A : Nat → Prop} {p : Program} {l : Launch} {e : Env} {s : State} {m : MethodId} {args : Array Value} {below : List Frame} {meth : Method} {c : Code} {K : Nat} {r : Int} {F9 : zF} {B9 : zB} (X : zX D ca L aS vS A p s m args meth c prog_15_method_193_code 2 (Option.some Jvm.ClassFile.FieldType.boolean) "StaveHouseModel") {s0 : Int} {F : zF} {B : zB} {H : Heap} {locs : List Loc} {ls : Array Slot} (hf : f_M_isPlainStep_71 K s0 F B = some (r, F9, B9)) (hZ : zH D ca ad lnM nM L F B A H) (hS : va_S A s.heap H locs) (hl : lv_has ls 2 []) : W p l e ({ frames := 0, cells := 0, slots := 0, locals := 0 } : Room) s m args below meth c H locs 0 0 (MQ below (Q_M_isPlainStep D ca ad L r F9 B9 A) args s 0 0 A) (F0 m 71 ls [.int (iI s0)]) := by
  obtain ⟨hx, hb, hr, hml, hown, hts, hlk, hK, hA, hL, hX⟩ := id X
  replace hf : (if (s0 = 0 ∨ s0 = 1) then some (s0, F, B) else none) = some (r, F9, B9) := hf
  obtain ⟨g29, hf⟩ := gif hf
  cases hf
  exact W.zret hx hb hr (zbool g29) (fun t ht hW => ⟨⟨_, (), rfl, rfl, by rw [ht]; exact hZ, va_K.moved hW.alike hK⟩, hS.F ht⟩) hS.2.2 d_15_193_71 hlk

def f_M_isPlainStep_55 (K : Nat) (s0 : Int) (F : zF) (B : zB) : zO := if (s0 = 0 ∨ s0 = 1) then some (s0, F, B) else none
set_option maxHeartbeats 4000000 in
set_option maxRecDepth 100000 in
theorem b_M_isPlainStep_55 {D : va_G} {ca : Nat → ClassId} {ad : Nat → Int → Nat → Nat} {L : List Nat} {aS vS : Nat → Nat} {A : Nat → Prop} {p : Program} {l : Launch} {e : Env} {s : State} {m : MethodId} {args : Array Value} {below : List Frame} {meth : Method} {c : Code} {K : Nat} {r : Int} {F9 : zF} {B9 : zB} (X : zX D ca L aS vS A p s m args meth c prog_15_method_193_code 2 (Option.some Jvm.ClassFile.FieldType.boolean) "StaveHouseModel") {s0 : Int} {F : zF} {B : zB} {H : Heap} {locs : List Loc} {ls : Array Slot} (hf : f_M_isPlainStep_55 K s0 F B = some (r, F9, B9)) (hZ : zH D ca ad lnM nM L F B A H) (hS : va_S A s.heap H locs) (hl : lv_has ls 2 []) : W p l e ({ frames := 0, cells := 0, slots := 0, locals := 0 } : Room) s m args below meth c H locs 0 0 (MQ below (Q_M_isPlainStep D ca ad L r F9 B9 A) args s 0 0 A) (F0 m 55 ls [.int (iI s0)]) := by
  obtain ⟨hx, hb, hr, hml, hown, hts, hlk, hK, hA, hL, hX⟩ := id X
  replace hf : (if (s0 = 0 ∨ s0 = 1) then some (s0, F, B) else none) = some (r, F9, B9) := hf
  obtain ⟨g28, hf⟩ := gif hf
  cases hf
  exact W.zret hx hb hr (zbool g28) (fun t ht hW => ⟨⟨_, (), rfl, rfl, by rw [ht]; exact hZ, va_K.moved hW.alike hK⟩, hS.F ht⟩) hS.2.2 d_15_193_55 hlk

def f_M_isPlainStep_50 (K : Nat)  (F : zF) (B : zB) : zO := f_M_isPlainStep_55 K 1 F B
set_option maxHeartbeats 4000000 in
set_option maxRecDepth 100000 in
theorem b_M_isPlainStep_50 {D : va_G} {ca : Nat → ClassId} {ad : Nat → Int → Nat → Nat} {L : List Nat} {aS vS : Nat → Nat} {A : Nat → Prop} {p : Program} {l : Launch} {e : Env} {s : State} {m : MethodId} {args : Array Value} {below : List Frame} {meth : Method} {c : Code} {K : Nat} {r : Int} {F9 : zF} {B9 : zB} (X : zX D ca L aS vS A p s m args meth c prog_15_method_193_code 2 (Option.some Jvm.ClassFile.FieldType.boolean) "StaveHouseModel")  {F : zF} {B : zB} {H : Heap} {locs : List Loc} {ls : Array Slot} (hf : f_M_isPlainStep_50 K  F B = some (r, F9, B9)) (hZ : zH D ca ad lnM nM L F B A H) (hS : va_S A s.heap H locs) (hl : lv_has ls 2 []) : W p l e ({ frames := 0, cells := 0, slots := 0, locals := 0 } : Room) s m args below meth c H locs 0 0 (MQ below (Q_M_isPlainStep D ca ad L r F9 B9 A) args s 0 0 A) (F0 m 50 ls []) := by
  obtain ⟨hx, hb, hr, hml, hown, hts, hlk, hK, hA, hL, hX⟩ := id X
  replace hf : (f_M_isPlainStep_55 K 1 F B) = some (r, F9, B9) := hf
  refine lv_iconst (v := iI 1) hx hb d_15_193_50 rfl ?_
  refine lv_goto (tgt := 55) hx hb d_15_193_51 (by decide) ?_
  exact b_M_isPlainStep_55 X hf hZ hS (lv_sub hl [] rfl)

def f_M_isPlainStep_34 (K : Nat) (s0 : Int) (F : zF) (B : zB) : zO := if (s0 = 0 ∨ s0 = 1) then some (s0, F, B) else none
set_option maxHeartbeats 4000000 in
set_option maxRecDepth 100000 in
theorem b_M_isPlainStep_34 {D : va_G} {ca : Nat → ClassId} {ad : Nat → Int → Nat → Nat} {L : List Nat} {aS vS : Nat → Nat} {A : Nat → Prop} {p : Program} {l : Launch} {e : Env} {s : State} {m : MethodId} {args : Array Value} {below : List Frame} {meth : Method} {c : Code} {K : Nat} {r : Int} {F9 : zF} {B9 : zB} (X : zX D ca L aS vS A p s m args meth c prog_15_method_193_code 2 (Option.some Jvm.ClassFile.FieldType.boolean) "StaveHouseModel") {s0 : Int} {F : zF} {B : zB} {H : Heap} {locs : List Loc} {ls : Array Slot} (hf : f_M_isPlainStep_34 K s0 F B = some (r, F9, B9)) (hZ : zH D ca ad lnM nM L F B A H) (hS : va_S A s.heap H locs) (hl : lv_has ls 2 []) : W p l e ({ frames := 0, cells := 0, slots := 0, locals := 0 } : Room) s m args below meth c H locs 0 0 (MQ below (Q_M_isPlainStep D ca ad L r F9 B9 A) args s 0 0 A) (F0 m 34 ls [.int (iI s0)]) := by
  obtain ⟨hx, hb, hr, hml, hown, hts, hlk, hK, hA, hL, hX⟩ := id X
  replace hf : (if (s0 = 0 ∨ s0 = 1) then some (s0, F, B) else none) = some (r, F9, B9) := hf
  obtain ⟨g27, hf⟩ := gif hf
  cases hf
  exact W.zret hx hb hr (zbool g27) (fun t ht hW => ⟨⟨_, (), rfl, rfl, by rw [ht]; exact hZ, va_K.moved hW.alike hK⟩, hS.F ht⟩) hS.2.2 d_15_193_34 hlk

def f_M_isPlainStep_29 (K : Nat)  (F : zF) (B : zB) : zO := f_M_isPlainStep_34 K 1 F B
set_option maxHeartbeats 4000000 in
set_option maxRecDepth 100000 in
theorem b_M_isPlainStep_29 {D : va_G} {ca : Nat → ClassId} {ad : Nat → Int → Nat → Nat} {L : List Nat} {aS vS : Nat → Nat} {A : Nat → Prop} {p : Program} {l : Launch} {e : Env} {s : State} {m : MethodId} {args : Array Value} {below : List Frame} {meth : Method} {c : Code} {K : Nat} {r : Int} {F9 : zF} {B9 : zB} (X : zX D ca L aS vS A p s m args meth c prog_15_method_193_code 2 (Option.some Jvm.ClassFile.FieldType.boolean) "StaveHouseModel")  {F : zF} {B : zB} {H : Heap} {locs : List Loc} {ls : Array Slot} (hf : f_M_isPlainStep_29 K  F B = some (r, F9, B9)) (hZ : zH D ca ad lnM nM L F B A H) (hS : va_S A s.heap H locs) (hl : lv_has ls 2 []) : W p l e ({ frames := 0, cells := 0, slots := 0, locals := 0 } : Room) s m args below meth c H locs 0 0 (MQ below (Q_M_isPlainStep D ca ad L r F9 B9 A) args s 0 0 A) (F0 m 29 ls []) := by
  obtain ⟨hx, hb, hr, hml, hown, hts, hlk, hK, hA, hL, hX⟩ := id X
  replace hf : (f_M_isPlainStep_34 K 1 F B) = some (r, F9, B9) := hf
  refine lv_iconst (v := iI 1) hx hb d_15_193_29 rfl ?_
  refine lv_goto (tgt := 34) hx hb d_15_193_30 (by decide) ?_
  exact b_M_isPlainStep_34 X hf hZ hS (lv_sub hl [] rfl)

def f_M_isPlainStep_13 (K : Nat) (s0 : Int) (F : zF) (B : zB) : zO := if (s0 = 0 ∨ s0 = 1) then some (s0, F, B) else none
set_option maxHeartbeats 4000000 in
set_option maxRecDepth 100000 in
theorem b_M_isPlainStep_13 {D : va_G} {ca : Nat → ClassId} {ad : Nat → Int → Nat → Nat} {L : List Nat} {aS vS : Nat → Nat} {A : Nat → Prop} {p : Program} {l : Launch} {e : Env} {s : State} {m : MethodId} {args : Array Value} {below : List Frame} {meth : Method} {c : Code} {K : Nat} {r : Int} {F9 : zF} {B9 : zB} (X : zX D ca L aS vS A p s m args meth c prog_15_method_193_code 2 (Option.some Jvm.ClassFile.FieldType.boolean) "StaveHouseModel") {s0 : Int} {F : zF} {B : zB} {H : Heap} {locs : List Loc} {ls : Array Slot} (hf : f_M_isPlainStep_13 K s0 F B = some (r, F9, B9)) (hZ : zH D ca ad lnM nM L F B A H) (hS : va_S A s.heap H locs) (hl : lv_has ls 2 []) : W p l e ({ frames := 0, cells := 0, slots := 0, locals := 0 } : Room) s m args below meth c H locs 0 0 (MQ below (Q_M_isPlainStep D ca ad L r F9 B9 A) args s 0 0 A) (F0 m 13 ls [.int (iI s0)]) := by
  obtain ⟨hx, hb, hr, hml, hown, hts, hlk, hK, hA, hL, hX⟩ := id X
  replace hf : (if (s0 = 0 ∨ s0 = 1) then some (s0, F, B) else none) = some (r, F9, B9) := hf
  obtain ⟨g26, hf⟩ := gif hf
  cases hf
  exact W.zret hx hb hr (zbool g26) (fun t ht hW => ⟨⟨_, (), rfl, rfl, by rw [ht]; exact hZ, va_K.moved hW.alike hK⟩, hS.F ht⟩) hS.2.2 d_15_193_13 hlk

def f_M_isPlainStep (K : Nat) (l0 : Int) (l1 : Int) (F : zF) (B : zB) : zO := if r32 l0 then (if l0 = 0 then if r32 l1 then (if l1 = 0 then f_M_isPlainStep_13 K 1 F B else f_M_isPlainStep_13 K 0 F B) else none else (if l0 = 1 then if r32 l1 then (if l1 = 1 then f_M_isPlainStep_29 K F B else (if l1 = 2 then f_M_isPlainStep_29 K F B else f_M_isPlainStep_34 K 0 F B)) else none else (if l0 = 2 then if r32 l1 then (if l1 = 3 then f_M_isPlainStep_50 K F B else (if l1 = 4 then f_M_isPlainStep_50 K F B else f_M_isPlainStep_55 K 0 F B)) else none else (if l0 = 3 then if r32 l1 then (if l1 = 5 then f_M_isPlainStep_71 K 1 F B else f_M_isPlainStep_71 K 0 F B) else none else (if l0 = 4 then if r32 l1 then (if l1 = 7 then f_M_isPlainStep_88 K 1 F B else f_M_isPlainStep_88 K 0 F B) else none else (if l0 = 5 then if r32 l1 then (if l1 = 8 then f_M_isPlainStep_106 K F B else (if l1 = 9 then f_M_isPlainStep_106 K F B else f_M_isPlainStep_131 K 0 F B)) else none else if r32 l1 then (if l1 = 10 then f_M_isPlainStep_126 K F B else (if l1 = 11 then f_M_isPlainStep_126 K F B else f_M_isPlainStep_131 K 0 F B)) else none)))))) else none
set_option maxHeartbeats 4000000 in
set_option maxRecDepth 100000 in
theorem c_M_isPlainStep {l : Launch} {D : va_G} {ca : Nat → ClassId} {ad : Nat → Int → Nat → Nat} {L : List Nat} {aS vS : Nat → Nat} {sz K : Nat} {l0 : Int} {l1 : Int} {F F9 : zF} {B B9 : zB} {r : Int} (hf : f_M_isPlainStep K l0 l1 F B = some (r, F9, B9)) : Met l ({ cls := "StaveHouseModel", name := "isPlainStep", desc := "(II)Z" } : Jvm.MethodName) (Cond.code ({ cls := "StaveHouseModel", name := "isPlainStep", desc := "(II)Z" } : Jvm.MethodName) prog_15_method_193_code 2 (Option.some Jvm.ClassFile.FieldType.boolean) :: wAll) ({ frames := 0, cells := 0, slots := 0, locals := 0 } : Room) (va_Pc [.int (iI l0), .int (iI l1)] (zPre D ca ad lnM nM L aS vS F B sz)) (Q_M_isPlainStep D ca ad L r F9 B9 (zA L sz)) 0 0 (zA L sz) := by
  refine zMet (Qc := Q_M_isPlainStep D ca ad L r F9 B9) (lv := [(0, .int (iI l0)), (1, .int (iI l1))]) (by decide) (Nat.le_of_ble_eq_true rfl) rfl (fun A p e s m below meth c ls X hZ hS hl => ?_)
  obtain ⟨hx, hb, hr, hml, hown, hts, hlk, hK, hA, hL, hX⟩ := id X
  replace hf : (if r32 l0 then (if l0 = 0 then if r32 l1 then (if l1 = 0 then f_M_isPlainStep_13 K 1 F B else f_M_isPlainStep_13 K 0 F B) else none else (if l0 = 1 then if r32 l1 then (if l1 = 1 then f_M_isPlainStep_29 K F B else (if l1 = 2 then f_M_isPlainStep_29 K F B else f_M_isPlainStep_34 K 0 F B)) else none else (if l0 = 2 then if r32 l1 then (if l1 = 3 then f_M_isPlainStep_50 K F B else (if l1 = 4 then f_M_isPlainStep_50 K F B else f_M_isPlainStep_55 K 0 F B)) else none else (if l0 = 3 then if r32 l1 then (if l1 = 5 then f_M_isPlainStep_71 K 1 F B else f_M_isPlainStep_71 K 0 F B) else none else (if l0 = 4 then if r32 l1 then (if l1 = 7 then f_M_isPlainStep_88 K 1 F B else f_M_isPlainStep_88 K 0 F B) else none else (if l0 = 5 then if r32 l1 then (if l1 = 8 then f_M_isPlainStep_106 K F B else (if l1 = 9 then f_M_isPlainStep_106 K F B else f_M_isPlainStep_131 K 0 F B)) else none else if r32 l1 then (if l1 = 10 then f_M_isPlainStep_126 K F B else (if l1 = 11 then f_M_isPlainStep_126 K F B else f_M_isPlainStep_131 K 0 F B)) else none)))))) else none) = some (r, F9, B9) := hf
  refine lv_iload_n hx hb d_15_193_0 rfl (lv_at hl 0 rfl) ?_
  obtain ⟨g1, hf⟩ := gif hf
  refine z0ne (tgt := 14) hx hb g1 d_15_193_1 (by decide) (fun h2 => ?_) (fun h2 => ?_)
  · replace hf := gneg hf h2
    refine lv_iload_n hx hb d_15_193_14 rfl (lv_at hl 0 rfl) ?_
    refine lv_iconst (v := iI 1) hx hb d_15_193_15 rfl ?_
    refine zne (tgt := 35) hx hb g1 (by decide) d_15_193_16 (by decide) (fun h3 => ?_) (fun h3 => ?_)
    · replace hf := gneg hf h3
      refine lv_iload_n hx hb d_15_193_35 rfl (lv_at hl 0 rfl) ?_
      refine lv_iconst (v := iI 2) hx hb d_15_193_36 rfl ?_
      refine zne (tgt := 56) hx hb g1 (by decide) d_15_193_37 (by decide) (fun h4 => ?_) (fun h4 => ?_)
      · replace hf := gneg hf h4
        refine lv_iload_n hx hb d_15_193_56 rfl (lv_at hl 0 rfl) ?_
        refine lv_iconst (v := iI 3) hx hb d_15_193_57 rfl ?_
        refine zne (tgt := 72) hx hb g1 (by decide) d_15_193_58 (by decide) (fun h5 => ?_) (fun h5 => ?_)
        · replace hf := gneg hf h5
          refine lv_iload_n hx hb d_15_193_72 rfl (lv_at hl 0 rfl) ?_
          refine lv_iconst (v := iI 4) hx hb d_15_193_73 rfl ?_
          refine zne (tgt := 89) hx hb g1 (by decide) d_15_193_74 (by decide) (fun h6 => ?_) (fun h6 => ?_)
          · replace hf := gneg hf h6
            refine lv_iload_n hx hb d_15_193_89 rfl (lv_at hl 0 rfl) ?_
            refine lv_iconst (v := iI 5) hx hb d_15_193_90 rfl ?_
            refine zne (tgt := 114) hx hb g1 (by decide) d_15_193_91 (by decide) (fun h7 => ?_) (fun h7 => ?_)
            · replace hf := gneg hf h7
              refine lv_iload_n hx hb d_15_193_114 rfl (lv_at hl 1 rfl) ?_
              refine lv_bipush (v := iI 10) hx hb d_15_193_115 (by decide) ?_
              obtain ⟨g8, hf⟩ := gif hf
              refine zeq (tgt := 126) hx hb g8 (by decide) d_15_193_117 (by decide) (fun h9 => ?_) (fun h9 => ?_)
              · replace hf := gpos hf h9
                exact b_M_isPlainStep_126 X hf hZ hS (lv_sub hl [] rfl)
              · replace hf := gneg hf h9
                refine lv_iload_n hx hb d_15_193_120 rfl (lv_at hl 1 rfl) ?_
                refine lv_bipush (v := iI 11) hx hb d_15_193_121 (by decide) ?_
                refine zne (tgt := 130) hx hb g8 (by decide) d_15_193_123 (by decide) (fun h10 => ?_) (fun h10 => ?_)
                · replace hf := gneg hf h10
                  refine lv_iconst (v := iI 0) hx hb d_15_193_130 rfl ?_
                  exact b_M_isPlainStep_131 X hf hZ hS (lv_sub hl [] rfl)
                · replace hf := gpos hf h10
                  exact b_M_isPlainStep_126 X hf hZ hS (lv_sub hl [] rfl)
            · replace hf := gpos hf h7
              refine lv_iload_n hx hb d_15_193_94 rfl (lv_at hl 1 rfl) ?_
              refine lv_bipush (v := iI 8) hx hb d_15_193_95 (by decide) ?_
              obtain ⟨g11, hf⟩ := gif hf
              refine zeq (tgt := 106) hx hb g11 (by decide) d_15_193_97 (by decide) (fun h12 => ?_) (fun h12 => ?_)
              · replace hf := gpos hf h12
                exact b_M_isPlainStep_106 X hf hZ hS (lv_sub hl [] rfl)
              · replace hf := gneg hf h12
                refine lv_iload_n hx hb d_15_193_100 rfl (lv_at hl 1 rfl) ?_
                refine lv_bipush (v := iI 9) hx hb d_15_193_101 (by decide) ?_
                refine zne (tgt := 110) hx hb g11 (by decide) d_15_193_103 (by decide) (fun h13 => ?_) (fun h13 => ?_)
                · replace hf := gneg hf h13
                  refine lv_iconst (v := iI 0) hx hb d_15_193_110 rfl ?_
                  refine lv_goto (tgt := 131) hx hb d_15_193_111 (by decide) ?_
                  exact b_M_isPlainStep_131 X hf hZ hS (lv_sub hl [] rfl)
                · replace hf := gpos hf h13
                  exact b_M_isPlainStep_106 X hf hZ hS (lv_sub hl [] rfl)
          · replace hf := gpos hf h6
            refine lv_iload_n hx hb d_15_193_77 rfl (lv_at hl 1 rfl) ?_
            refine lv_bipush (v := iI 7) hx hb d_15_193_78 (by decide) ?_
            obtain ⟨g14, hf⟩ := gif hf
            refine zne (tgt := 87) hx hb g14 (by decide) d_15_193_80 (by decide) (fun h15 => ?_) (fun h15 => ?_)
            · replace hf := gneg hf h15
              refine lv_iconst (v := iI 0) hx hb d_15_193_87 rfl ?_
              exact b_M_isPlainStep_88 X hf hZ hS (lv_sub hl [] rfl)
            · replace hf := gpos hf h15
              refine lv_iconst (v := iI 1) hx hb d_15_193_83 rfl ?_
              refine lv_goto (tgt := 88) hx hb d_15_193_84 (by decide) ?_
              exact b_M_isPlainStep_88 X hf hZ hS (lv_sub hl [] rfl)
        · replace hf := gpos hf h5
          refine lv_iload_n hx hb d_15_193_61 rfl (lv_at hl 1 rfl) ?_
          refine lv_iconst (v := iI 5) hx hb d_15_193_62 rfl ?_
          obtain ⟨g16, hf⟩ := gif hf
          refine zne (tgt := 70) hx hb g16 (by decide) d_15_193_63 (by decide) (fun h17 => ?_) (fun h17 => ?_)
          · replace hf := gneg hf h17
            refine lv_iconst (v := iI 0) hx hb d_15_193_70 rfl ?_
            exact b_M_isPlainStep_71 X hf hZ hS (lv_sub hl [] rfl)
          · replace hf := gpos hf h17
            refine lv_iconst (v := iI 1) hx hb d_15_193_66 rfl ?_
            refine lv_goto (tgt := 71) hx hb d_15_193_67 (by decide) ?_
            exact b_M_isPlainStep_71 X hf hZ hS (lv_sub hl [] rfl)
      · replace hf := gpos hf h4
        refine lv_iload_n hx hb d_15_193_40 rfl (lv_at hl 1 rfl) ?_
        refine lv_iconst (v := iI 3) hx hb d_15_193_41 rfl ?_
        obtain ⟨g18, hf⟩ := gif hf
        refine zeq (tgt := 50) hx hb g18 (by decide) d_15_193_42 (by decide) (fun h19 => ?_) (fun h19 => ?_)
        · replace hf := gpos hf h19
          exact b_M_isPlainStep_50 X hf hZ hS (lv_sub hl [] rfl)
        · replace hf := gneg hf h19
          refine lv_iload_n hx hb d_15_193_45 rfl (lv_at hl 1 rfl) ?_
          refine lv_iconst (v := iI 4) hx hb d_15_193_46 rfl ?_
          refine zne (tgt := 54) hx hb g18 (by decide) d_15_193_47 (by decide) (fun h20 => ?_) (fun h20 => ?_)
          · replace hf := gneg hf h20
            refine lv_iconst (v := iI 0) hx hb d_15_193_54 rfl ?_
            exact b_M_isPlainStep_55 X hf hZ hS (lv_sub hl [] rfl)
          · replace hf := gpos hf h20
            exact b_M_isPlainStep_50 X hf hZ hS (lv_sub hl [] rfl)
    · replace hf := gpos hf h3
      refine lv_iload_n hx hb d_15_193_19 rfl (lv_at hl 1 rfl) ?_
      refine lv_iconst (v := iI 1) hx hb d_15_193_20 rfl ?_
      obtain ⟨g21, hf⟩ := gif hf
      refine zeq (tgt := 29) hx hb g21 (by decide) d_15_193_21 (by decide) (fun h22 => ?_) (fun h22 => ?_)
      · replace hf := gpos hf h22
        exact b_M_isPlainStep_29 X hf hZ hS (lv_sub hl [] rfl)
      · replace hf := gneg hf h22
        refine lv_iload_n hx hb d_15_193_24 rfl (lv_at hl 1 rfl) ?_
        refine lv_iconst (v := iI 2) hx hb d_15_193_25 rfl ?_
        refine zne (tgt := 33) hx hb g21 (by decide) d_15_193_26 (by decide) (fun h23 => ?_) (fun h23 => ?_)
        · replace hf := gneg hf h23
          refine lv_iconst (v := iI 0) hx hb d_15_193_33 rfl ?_
          exact b_M_isPlainStep_34 X hf hZ hS (lv_sub hl [] rfl)
        · replace hf := gpos hf h23
          exact b_M_isPlainStep_29 X hf hZ hS (lv_sub hl [] rfl)
  · replace hf := gpos hf h2
    refine lv_iload_n hx hb d_15_193_4 rfl (lv_at hl 1 rfl) ?_
    obtain ⟨g24, hf⟩ := gif hf
    refine z0ne (tgt := 12) hx hb g24 d_15_193_5 (by decide) (fun h25 => ?_) (fun h25 => ?_)
    · replace hf := gneg hf h25
      refine lv_iconst (v := iI 0) hx hb d_15_193_12 rfl ?_
      exact b_M_isPlainStep_13 X hf hZ hS (lv_sub hl [] rfl)
    · replace hf := gpos hf h25
      refine lv_iconst (v := iI 1) hx hb d_15_193_8 rfl ?_
      refine lv_goto (tgt := 13) hx hb d_15_193_9 (by decide) ?_
      exact b_M_isPlainStep_13 X hf hZ hS (lv_sub hl [] rfl)

abbrev Q_M_fault_1 (D : va_G) (ca : Nat → ClassId) (ad : Nat → Int → Nat → Nat) (L : List Nat) (r : Int) (F : zF) (B : zB) (A : Nat → Prop) : Array Value → State → Outcome → State → Prop := va_Qv (S := Unit) (fun _ => True) (fun _ => zPo D ca ad lnM nM L F B A) A
def f_M_fault_1 (K : Nat) (l0 : Int) (l1 : Int) (l2 : Int) (l3 : Int) (l4 : Int) (F : zF) (B : zB) : zO := if 0 ≤ l0 ∧ l0 < 3 then if r32 (F 13 l0 76) then (if (F 13 l0 76) = 300 then some (0, F, B) else if 0 ≤ (F 13 l0 76) ∧ (F 13 l0 76) < 300 then some (0, (zup3 F 13 l0 76 ((F 13 l0 76) + 1)), (zup4 (zup4 (zup4 (zup4 B 13 l0 77 (F 13 l0 76) l1) 13 l0 78 (F 13 l0 76) l2) 13 l0 79 (F 13 l0 76) l3) 13 l0 80 (F 13 l0 76) l4)) else none) else none else none
set_option maxHeartbeats 4000000 in
set_option maxRecDepth 100000 in
theorem c_M_fault_1 {l : Launch} {D : va_G} {ca : Nat → ClassId} {ad : Nat → Int → Nat → Nat} {L : List Nat} {aS vS : Nat → Nat} {sz K : Nat} {l0 : Int} {l1 : Int} {l2 : Int} {l3 : Int} {l4 : Int} {F F9 : zF} {B B9 : zB} {r : Int} (hf : f_M_fault_1 K l0 l1 l2 l3 l4 F B = some (r, F9, B9)) : Met l ({ cls := "StaveHouseModel", name := "fault", desc := "(LStaveHouseModel$Piece;IIII)V" } : Jvm.MethodName) (Cond.code ({ cls := "StaveHouseModel", name := "fault", desc := "(LStaveHouseModel$Piece;IIII)V" } : Jvm.MethodName) prog_15_method_187_code 5 (Option.none : Option Jvm.ClassFile.FieldType) :: wAll) ({ frames := 0, cells := 0, slots := 0, locals := 0 } : Room) (va_Pc [.ref (ad 13 l0 0), .int (iI l1), .int (iI l2), .int (iI l3), .int (iI l4)] (zPre D ca ad lnM nM L aS vS F B sz)) (Q_M_fault_1 D ca ad L r F9 B9 (zA L sz)) 0 0 (zA L sz) := by
  refine zMet (Qc := Q_M_fault_1 D ca ad L r F9 B9) (lv := [(0, .ref (ad 13 l0 0)), (1, .int (iI l1)), (2, .int (iI l2)), (3, .int (iI l3)), (4, .int (iI l4))]) (by decide) (Nat.le_of_ble_eq_true rfl) rfl (fun A p e s m below meth c ls X hZ hS hl => ?_)
  obtain ⟨hx, hb, hr, hml, hown, hts, hlk, hK, hA, hL, hX⟩ := id X
  replace hf : (if 0 ≤ l0 ∧ l0 < 3 then if r32 (F 13 l0 76) then (if (F 13 l0 76) = 300 then some (0, F, B) else if 0 ≤ (F 13 l0 76) ∧ (F 13 l0 76) < 300 then some (0, (zup3 F 13 l0 76 ((F 13 l0 76) + 1)), (zup4 (zup4 (zup4 (zup4 B 13 l0 77 (F 13 l0 76) l1) 13 l0 78 (F 13 l0 76) l2) 13 l0 79 (F 13 l0 76) l3) 13 l0 80 (F 13 l0 76) l4)) else none) else none else none) = some (r, F9, B9) := hf
  refine lv_aload_n hx hb d_15_187_0 rfl (lv_at hl 0 rfl) ?_
  obtain ⟨g1, hf⟩ := gif hf
  refine zget (ci := 13) (C := RX13) (T := TX13) (v := .int (iI (F 13 l0 76))) (k := 76) hx hb hts inW_13 hown hK hZ g1.1 g1.2 rfl (by decide) k_10_18 rfl d_15_187_1 ?_
  refine lv_sipush (v := iI 300) hx hb d_15_187_4 (by decide) ?_
  obtain ⟨g2, hf⟩ := gif hf
  refine zne (tgt := 11) hx hb g2 (by decide) d_15_187_7 (by decide) (fun h3 => ?_) (fun h3 => ?_)
  · replace hf := gneg hf h3
    refine lv_aload_n hx hb d_15_187_11 rfl (lv_at hl 0 rfl) ?_
    refine zget (ci := 13) (C := RX13) (T := TX13) (v := .ref (ad 13 l0 (77 + 1))) (k := 77) hx hb hts inW_13 hown hK hZ g1.1 g1.2 rfl (by decide) k_10_20 rfl d_15_187_12 ?_
    refine lv_aload_n hx hb d_15_187_15 rfl (lv_at hl 0 rfl) ?_
    refine zget (ci := 13) (C := RX13) (T := TX13) (v := .int (iI (F 13 l0 76))) (k := 76) hx hb hts inW_13 hown hK hZ g1.1 g1.2 rfl (by decide) k_10_18 rfl d_15_187_16 ?_
    refine lv_iload_n hx hb d_15_187_19 rfl (lv_at hl 1 rfl) ?_
    obtain ⟨g4, hf⟩ := gif hf
    refine zast (ci := 13) (k := 77) hx hb hK rfl hZ hS g1.1 g1.2 rfl (Nat.le_of_ble_eq_true rfl) g4.1 g4.2 d_15_187_20 (fun H5 locs5 hZ5 hS5 => ?_)
    refine lv_aload_n hx hb d_15_187_21 rfl (lv_at hl 0 rfl) ?_
    refine zget (ci := 13) (C := RX13) (T := TX13) (v := .ref (ad 13 l0 (78 + 1))) (k := 78) hx hb hts inW_13 hown hK hZ5 g1.1 g1.2 rfl (by decide) k_10_22 rfl d_15_187_22 ?_
    refine lv_aload_n hx hb d_15_187_25 rfl (lv_at hl 0 rfl) ?_
    refine zget (ci := 13) (C := RX13) (T := TX13) (v := .int (iI (F 13 l0 76))) (k := 76) hx hb hts inW_13 hown hK hZ5 g1.1 g1.2 rfl (by decide) k_10_18 rfl d_15_187_26 ?_
    refine lv_iload_n hx hb d_15_187_29 rfl (lv_at hl 2 rfl) ?_
    refine zast (ci := 13) (k := 78) hx hb hK rfl hZ5 hS5 g1.1 g1.2 rfl (Nat.le_of_ble_eq_true rfl) g4.1 g4.2 d_15_187_30 (fun H6 locs6 hZ6 hS6 => ?_)
    refine lv_aload_n hx hb d_15_187_31 rfl (lv_at hl 0 rfl) ?_
    refine zget (ci := 13) (C := RX13) (T := TX13) (v := .ref (ad 13 l0 (79 + 1))) (k := 79) hx hb hts inW_13 hown hK hZ6 g1.1 g1.2 rfl (by decide) k_10_24 rfl d_15_187_32 ?_
    refine lv_aload_n hx hb d_15_187_35 rfl (lv_at hl 0 rfl) ?_
    refine zget (ci := 13) (C := RX13) (T := TX13) (v := .int (iI (F 13 l0 76))) (k := 76) hx hb hts inW_13 hown hK hZ6 g1.1 g1.2 rfl (by decide) k_10_18 rfl d_15_187_36 ?_
    refine lv_iload_n hx hb d_15_187_39 rfl (lv_at hl 3 rfl) ?_
    refine zast (ci := 13) (k := 79) hx hb hK rfl hZ6 hS6 g1.1 g1.2 rfl (Nat.le_of_ble_eq_true rfl) g4.1 g4.2 d_15_187_40 (fun H7 locs7 hZ7 hS7 => ?_)
    refine lv_aload_n hx hb d_15_187_41 rfl (lv_at hl 0 rfl) ?_
    refine zget (ci := 13) (C := RX13) (T := TX13) (v := .ref (ad 13 l0 (80 + 1))) (k := 80) hx hb hts inW_13 hown hK hZ7 g1.1 g1.2 rfl (by decide) k_10_26 rfl d_15_187_42 ?_
    refine lv_aload_n hx hb d_15_187_45 rfl (lv_at hl 0 rfl) ?_
    refine zget (ci := 13) (C := RX13) (T := TX13) (v := .int (iI (F 13 l0 76))) (k := 76) hx hb hts inW_13 hown hK hZ7 g1.1 g1.2 rfl (by decide) k_10_18 rfl d_15_187_46 ?_
    refine lv_iload hx hb d_15_187_49 (lv_at hl 4 rfl) ?_
    refine zast (ci := 13) (k := 80) hx hb hK rfl hZ7 hS7 g1.1 g1.2 rfl (Nat.le_of_ble_eq_true rfl) g4.1 g4.2 d_15_187_51 (fun H8 locs8 hZ8 hS8 => ?_)
    refine lv_aload_n hx hb d_15_187_52 rfl (lv_at hl 0 rfl) ?_
    refine lv_dup hx hb d_15_187_53 rfl ?_
    refine zget (ci := 13) (C := RX13) (T := TX13) (v := .int (iI (F 13 l0 76))) (k := 76) hx hb hts inW_13 hown hK hZ8 g1.1 g1.2 rfl (by decide) k_10_18 rfl d_15_187_54 ?_
    refine lv_iconst (v := iI 1) hx hb d_15_187_57 rfl ?_
    refine zadd hx hb d_15_187_58 ?_
    refine zput (ci := 13) (C := RX13) (T := TX13) (k := 76) (v := ((F 13 l0 76) + 1)) (w := .int (iI ((F 13 l0 76) + 1))) hx hb hts inW_13 tyX13 tyX13_ok nmX13 hown hK hZ8 hS8 g1.1 g1.2 rfl (by decide) k_10_18 rfl (fun G h => congrArg (fun q => Value.int (iI q)) h) rfl rfl d_15_187_59 (fun H9 locs9 hZ9 hS9 => ?_)
    cases hf
    exact W.vret hx hb hr (fun t ht hW => ⟨⟨(), rfl, trivial, by rw [ht]; exact hZ9, va_K.moved hW.alike hK⟩, hS9.F ht⟩) hS9.2.2 d_15_187_62 hlk
  · replace hf := gpos hf h3
    cases hf
    exact W.vret hx hb hr (fun t ht hW => ⟨⟨(), rfl, trivial, by rw [ht]; exact hZ, va_K.moved hW.alike hK⟩, hS.F ht⟩) hS.2.2 d_15_187_10 hlk

abbrev Q_M_isOver (D : va_G) (ca : Nat → ClassId) (ad : Nat → Int → Nat → Nat) (L : List Nat) (r : Int) (F : zF) (B : zB) (A : Nat → Prop) : Array Value → State → Outcome → State → Prop := va_Qi (S := Unit) (fun p _ => p = iI r) (fun _ => zPo D ca ad lnM nM L F B A) A
def f_M_isOver_26 (K : Nat) (s0 : Int) (F : zF) (B : zB) : zO := if (s0 = 0 ∨ s0 = 1) then some (s0, F, B) else none
set_option maxHeartbeats 4000000 in
set_option maxRecDepth 100000 in
theorem b_M_isOver_26 {D : va_G} {ca : Nat → ClassId} {ad : Nat → Int → Nat → Nat} {L : List Nat} {aS vS : Nat → Nat} {A : Nat → Prop} {p : Program} {l : Launch} {e : Env} {s : State} {m : MethodId} {args : Array Value} {below : List Frame} {meth : Method} {c : Code} {K : Nat} {r : Int} {F9 : zF} {B9 : zB} (X : zX D ca L aS vS A p s m args meth c prog_15_method_190_code 3 (Option.some Jvm.ClassFile.FieldType.boolean) "StaveHouseModel") {s0 : Int} {F : zF} {B : zB} {H : Heap} {locs : List Loc} {ls : Array Slot} (hf : f_M_isOver_26 K s0 F B = some (r, F9, B9)) (hZ : zH D ca ad lnM nM L F B A H) (hS : va_S A s.heap H locs) (hl : lv_has ls 3 []) : W p l e ({ frames := 2, cells := 0, slots := 0, locals := 44 } : Room) s m args below meth c H locs 0 0 (MQ below (Q_M_isOver D ca ad L r F9 B9 A) args s 0 0 A) (F0 m 26 ls [.int (iI s0)]) := by
  obtain ⟨hx, hb, hr, hml, hown, hts, hlk, hK, hA, hL, hX⟩ := id X
  replace hf : (if (s0 = 0 ∨ s0 = 1) then some (s0, F, B) else none) = some (r, F9, B9) := hf
  obtain ⟨g10, hf⟩ := gif hf
  cases hf
  exact W.zret hx hb hr (zbool g10) (fun t ht hW => ⟨⟨_, (), rfl, rfl, by rw [ht]; exact hZ, va_K.moved hW.alike hK⟩, hS.F ht⟩) hS.2.2 d_15_190_26 hlk

def f_M_isOver_25 (K : Nat)  (F : zF) (B : zB) : zO := f_M_isOver_26 K 0 F B
set_option maxHeartbeats 4000000 in
set_option maxRecDepth 100000 in
theorem b_M_isOver_25 {D : va_G} {ca : Nat → ClassId} {ad : Nat → Int → Nat → Nat} {L : List Nat} {aS vS : Nat → Nat} {A : Nat → Prop} {p : Program} {l : Launch} {e : Env} {s : State} {m : MethodId} {args : Array Value} {below : List Frame} {meth : Method} {c : Code} {K : Nat} {r : Int} {F9 : zF} {B9 : zB} (X : zX D ca L aS vS A p s m args meth c prog_15_method_190_code 3 (Option.some Jvm.ClassFile.FieldType.boolean) "StaveHouseModel")  {F : zF} {B : zB} {H : Heap} {locs : List Loc} {ls : Array Slot} (hf : f_M_isOver_25 K  F B = some (r, F9, B9)) (hZ : zH D ca ad lnM nM L F B A H) (hS : va_S A s.heap H locs) (hl : lv_has ls 3 []) : W p l e ({ frames := 2, cells := 0, slots := 0, locals := 44 } : Room) s m args below meth c H locs 0 0 (MQ below (Q_M_isOver D ca ad L r F9 B9 A) args s 0 0 A) (F0 m 25 ls []) := by
  obtain ⟨hx, hb, hr, hml, hown, hts, hlk, hK, hA, hL, hX⟩ := id X
  replace hf : (f_M_isOver_26 K 0 F B) = some (r, F9, B9) := hf
  refine lv_iconst (v := iI 0) hx hb d_15_190_25 rfl ?_
  exact b_M_isOver_26 X hf hZ hS (lv_sub hl [] rfl)

def f_M_isOver (K : Nat) (l0 : Int) (l1 : Int) (l2 : Int) (F : zF) (B : zB) : zO := if r32 l1 then (if l1 < 0 then f_M_isOver_25 K F B else if r32 l2 then (if l2 < 0 then f_M_isOver_25 K F B else zbind (f_M_toneAt K l0 l2 F B) (fun r5 F5 B5 => zbind (f_M_toneAt K l0 l1 F5 B5) (fun r6 F6 B6 => if r32 r5 then if r32 r6 then (if r5 ≤ r6 then f_M_isOver_25 K F6 B6 else f_M_isOver_26 K 1 F6 B6) else none else none))) else none) else none
set_option maxHeartbeats 4000000 in
set_option maxRecDepth 100000 in
theorem c_M_isOver {l : Launch} {D : va_G} {ca : Nat → ClassId} {ad : Nat → Int → Nat → Nat} {L : List Nat} {aS vS : Nat → Nat} {sz K : Nat} {l0 : Int} {l1 : Int} {l2 : Int} {F F9 : zF} {B B9 : zB} {r : Int} (hf : f_M_isOver K l0 l1 l2 F B = some (r, F9, B9)) : Met l ({ cls := "StaveHouseModel", name := "isOver", desc := "(LStaveHouseModel$Piece;II)Z" } : Jvm.MethodName) (Cond.code ({ cls := "StaveHouseModel", name := "isOver", desc := "(LStaveHouseModel$Piece;II)Z" } : Jvm.MethodName) prog_15_method_190_code 3 (Option.some Jvm.ClassFile.FieldType.boolean) :: wAll) ({ frames := 2, cells := 0, slots := 0, locals := 44 } : Room) (va_Pc [.ref (ad 13 l0 0), .int (iI l1), .int (iI l2)] (zPre D ca ad lnM nM L aS vS F B sz)) (Q_M_isOver D ca ad L r F9 B9 (zA L sz)) 0 0 (zA L sz) := by
  refine zMet (Qc := Q_M_isOver D ca ad L r F9 B9) (lv := [(0, .ref (ad 13 l0 0)), (1, .int (iI l1)), (2, .int (iI l2))]) (by decide) (Nat.le_of_ble_eq_true rfl) rfl (fun A p e s m below meth c ls X hZ hS hl => ?_)
  obtain ⟨hx, hb, hr, hml, hown, hts, hlk, hK, hA, hL, hX⟩ := id X
  replace hf : (if r32 l1 then (if l1 < 0 then f_M_isOver_25 K F B else if r32 l2 then (if l2 < 0 then f_M_isOver_25 K F B else zbind (f_M_toneAt K l0 l2 F B) (fun r5 F5 B5 => zbind (f_M_toneAt K l0 l1 F5 B5) (fun r6 F6 B6 => if r32 r5 then if r32 r6 then (if r5 ≤ r6 then f_M_isOver_25 K F6 B6 else f_M_isOver_26 K 1 F6 B6) else none else none))) else none) else none) = some (r, F9, B9) := hf
  refine lv_iload_n hx hb d_15_190_0 rfl (lv_at hl 1 rfl) ?_
  obtain ⟨g1, hf⟩ := gif hf
  refine z0lt (tgt := 25) hx hb g1 d_15_190_1 (by decide) (fun h2 => ?_) (fun h2 => ?_)
  · replace hf := gpos hf h2
    exact b_M_isOver_25 X hf hZ hS (lv_sub hl [] rfl)
  · replace hf := gneg hf h2
    refine lv_iload_n hx hb d_15_190_4 rfl (lv_at hl 2 rfl) ?_
    obtain ⟨g3, hf⟩ := gif hf
    refine z0lt (tgt := 25) hx hb g3 d_15_190_5 (by decide) (fun h4 => ?_) (fun h4 => ?_)
    · replace hf := gpos hf h4
      exact b_M_isOver_25 X hf hZ hS (lv_sub hl [] rfl)
    · replace hf := gneg hf h4
      refine lv_aload_n hx hb d_15_190_8 rfl (lv_at hl 0 rfl) ?_
      refine lv_iload_n hx hb d_15_190_9 rfl (lv_at hl 2 rfl) ?_
      obtain ⟨r5, F5, B5, hc5, hf⟩ := gbind hf
      refine va_calli (va_runS (As := [.ref (ad 13 l0 0), .int (iI l2)]) (rest := []) ⟨hx, hb, hml, hown, hts⟩ (c_M_toneAt (l := l) hc5) (va_cwS 2 hts (gdS k_15_121 k_15_122 k_1_9 k_15_123) rfl rfl rfl (by decide +kernel) ⟨Nat.le_of_ble_eq_true rfl, Nat.le_of_ble_eq_true rfl⟩) (zPS X hZ hS [.ref (ad 13 l0 0), .int (iI l2)]) rfl rfl hl.1 rfl (lv_room (Nat.le_of_ble_eq_true rfl)) d_15_190_10 ⟨Nat.le_of_ble_eq_true rfl, Nat.le_of_ble_eq_true rfl⟩) hS (fun q _ h => zAin X hS q h) (zAin X hS) (fun p5 u5 t5 H5 locs5 ht5 hv5 hw5 hB5 hz5 hk5 hS5 => ?_)
      have hZ5 := zBack X ht5 hB5
      subst hw5
      refine lv_aload_n hx hb d_15_190_13 rfl (lv_at hl 0 rfl) ?_
      refine lv_iload_n hx hb d_15_190_14 rfl (lv_at hl 1 rfl) ?_
      obtain ⟨r6, F6, B6, hc6, hf⟩ := gbind hf
      refine va_calli (va_runS (As := [.ref (ad 13 l0 0), .int (iI l1)]) (rest := [.int (iI r5)]) ⟨hx, hb, hml, hown, hts⟩ (c_M_toneAt (l := l) hc6) (va_cwS 2 hts (gdS k_15_121 k_15_122 k_1_9 k_15_123) rfl rfl rfl (by decide +kernel) ⟨Nat.le_of_ble_eq_true rfl, Nat.le_of_ble_eq_true rfl⟩) (zPS X hZ5 hS5 [.ref (ad 13 l0 0), .int (iI l1)]) rfl rfl hl.1 rfl (lv_room (Nat.le_of_ble_eq_true rfl)) d_15_190_15 ⟨Nat.le_of_ble_eq_true rfl, Nat.le_of_ble_eq_true rfl⟩) hS5 (fun q _ h => zAin X hS5 q h) (zAin X hS5) (fun p6 u6 t6 H6 locs6 ht6 hv6 hw6 hB6 hz6 hk6 hS6 => ?_)
      have hZ6 := zBack X ht6 hB6
      subst hw6
      obtain ⟨g7, hf⟩ := gif hf
      obtain ⟨g8, hf⟩ := gif hf
      refine zle (tgt := 25) hx hb g7 g8 d_15_190_18 (by decide) (fun h9 => ?_) (fun h9 => ?_)
      · replace hf := gpos hf h9
        exact b_M_isOver_25 X hf hZ6 hS6 (lv_sub hl [] rfl)
      · replace hf := gneg hf h9
        refine lv_iconst (v := iI 1) hx hb d_15_190_21 rfl ?_
        refine lv_goto (tgt := 26) hx hb d_15_190_22 (by decide) ?_
        exact b_M_isOver_26 X hf hZ6 hS6 (lv_sub hl [] rfl)

abbrev Q_M_lineWide (D : va_G) (ca : Nat → ClassId) (ad : Nat → Int → Nat → Nat) (L : List Nat) (r : Int) (F : zF) (B : zB) (A : Nat → Prop) : Array Value → State → Outcome → State → Prop := va_Qi (S := Unit) (fun p _ => p = iI r) (fun _ => zPo D ca ad lnM nM L F B A) A
def f_M_lineWide_9 (K : Nat) : Nat → Int → Int → Int → Int → Int → zF → zB → zO
  | 0, _, _, _, _, _, _, _ => none
  | n + 1, l4, l3, l0, l1, l2, F, B => if r32 l4 then if r32 (l1 + l2) then (if (l1 + l2) ≤ l4 then some (l3, F, B) else if 0 ≤ l0 ∧ l0 < 3 then if 0 ≤ l4 ∧ l4 < 100 then f_M_lineWide_9 K n (l4 + 1) (l3 + (B 13 l0 46 l4)) l0 l1 l2 F B else none else none) else none else none
set_option maxHeartbeats 4000000 in
set_option maxRecDepth 100000 in
theorem b_M_lineWide_9 {D : va_G} {ca : Nat → ClassId} {ad : Nat → Int → Nat → Nat} {L : List Nat} {aS vS : Nat → Nat} {A : Nat → Prop} {p : Program} {l : Launch} {e : Env} {s : State} {m : MethodId} {args : Array Value} {below : List Frame} {meth : Method} {c : Code} {K : Nat} {r : Int} {F9 : zF} {B9 : zB} (X : zX D ca L aS vS A p s m args meth c prog_15_method_106_code 5 (Option.some Jvm.ClassFile.FieldType.int) "StaveHouseModel") : ∀ {n : Nat} {l4 : Int} {l3 : Int} {l0 : Int} {l1 : Int} {l2 : Int} {F : zF} {B : zB} {H : Heap} {locs : List Loc} {ls : Array Slot}, f_M_lineWide_9 K n l4 l3 l0 l1 l2 F B = some (r, F9, B9) → zH D ca ad lnM nM L F B A H → va_S A s.heap H locs → lv_has ls 5 [(4, .int (iI l4)), (3, .int (iI l3)), (0, .ref (ad 13 l0 0)), (1, .int (iI l1)), (2, .int (iI l2))] → W p l e ({ frames := 1, cells := 0, slots := 0, locals := 21 } : Room) s m args below meth c H locs 0 0 (MQ below (Q_M_lineWide D ca ad L r F9 B9 A) args s 0 0 A) (F0 m 9 ls []) := by
  obtain ⟨hx, hb, hr, hml, hown, hts, hlk, hK, hA, hL, hX⟩ := id X
  intro n
  induction n with
  | zero =>
    intros
    rename_i hf _ _ _
    cases hf
  | succ n ih =>
    intro l4 l3 l0 l1 l2 F B H locs ls hf hZ hS hl
    replace hf : (if r32 l4 then if r32 (l1 + l2) then (if (l1 + l2) ≤ l4 then some (l3, F, B) else if 0 ≤ l0 ∧ l0 < 3 then if 0 ≤ l4 ∧ l4 < 100 then f_M_lineWide_9 K n (l4 + 1) (l3 + (B 13 l0 46 l4)) l0 l1 l2 F B else none else none) else none else none) = some (r, F9, B9) := hf
    refine lv_iload hx hb d_15_106_9 (lv_at hl 0 rfl) ?_
    refine lv_iload_n hx hb d_15_106_11 rfl (lv_at hl 3 rfl) ?_
    refine lv_iload_n hx hb d_15_106_12 rfl (lv_at hl 4 rfl) ?_
    refine zadd hx hb d_15_106_13 ?_
    obtain ⟨g2, hf⟩ := gif hf
    obtain ⟨g3, hf⟩ := gif hf
    refine zge (tgt := 33) hx hb g2 g3 d_15_106_14 (by decide) (fun h4 => ?_) (fun h4 => ?_)
    · replace hf := gpos hf h4
      refine lv_iload_n hx hb d_15_106_33 rfl (lv_at hl 1 rfl) ?_
      cases hf
      exact W.iret hx hb hr (fun t ht hW => ⟨⟨_, (), rfl, rfl, by rw [ht]; exact hZ, va_K.moved hW.alike hK⟩, hS.F ht⟩) hS.2.2 d_15_106_34 hlk
    · replace hf := gneg hf h4
      refine lv_iload_n hx hb d_15_106_17 rfl (lv_at hl 1 rfl) ?_
      refine lv_aload_n hx hb d_15_106_18 rfl (lv_at hl 2 rfl) ?_
      obtain ⟨g5, hf⟩ := gif hf
      refine zget (ci := 13) (C := RX13) (T := TX13) (v := .ref (ad 13 l0 (46 + 1))) (k := 46) hx hb hts inW_13 hown hK hZ g5.1 g5.2 rfl (by decide) k_9_210 rfl d_15_106_19 ?_
      refine lv_iload hx hb d_15_106_22 (lv_at hl 0 rfl) ?_
      obtain ⟨g6, hf⟩ := gif hf
      refine zald (ci := 13) (k := 46) hx hb hK rfl hZ g5.1 g5.2 rfl (Nat.le_of_ble_eq_true rfl) g6.1 g6.2 d_15_106_24 ?_
      refine zadd hx hb d_15_106_25 ?_
      refine lv_istore_n (lv' := [(3, .int (iI (l3 + (B 13 l0 46 l4)))), (4, .int (iI l4)), (0, .ref (ad 13 l0 0)), (1, .int (iI l1)), (2, .int (iI l2))]) hx hb d_15_106_26 rfl hl (by decide) rfl (fun ls hl => ?_)
      refine lv_iinc (v := iI (l4 + 1)) (lv' := [(4, .int (iI (l4 + 1))), (3, .int (iI (l3 + (B 13 l0 46 l4)))), (0, .ref (ad 13 l0 0)), (1, .int (iI l1)), (2, .int (iI l2))]) hx hb d_15_106_27 hl (k := 1) rfl (iI_add _ 1) (by decide) rfl (fun ls hl => ?_)
      refine lv_goto (tgt := 9) hx hb d_15_106_30 (by decide) ?_
      exact ih hf hZ hS (lv_sub hl [0, 1, 2, 3, 4] rfl)

def f_M_lineWide (K : Nat) (l0 : Int) (l1 : Int) (l2 : Int) (F : zF) (B : zB) : zO := zbind (f_M_ahead K l0 l1 F B) (fun r1 F1 B1 => f_M_lineWide_9 K K l1 r1 l0 l1 l2 F1 B1)
set_option maxHeartbeats 4000000 in
set_option maxRecDepth 100000 in
theorem c_M_lineWide {l : Launch} {D : va_G} {ca : Nat → ClassId} {ad : Nat → Int → Nat → Nat} {L : List Nat} {aS vS : Nat → Nat} {sz K : Nat} {l0 : Int} {l1 : Int} {l2 : Int} {F F9 : zF} {B B9 : zB} {r : Int} (hf : f_M_lineWide K l0 l1 l2 F B = some (r, F9, B9)) : Met l ({ cls := "StaveHouseModel", name := "lineWide", desc := "(LStaveHouseModel$Piece;II)I" } : Jvm.MethodName) (Cond.code ({ cls := "StaveHouseModel", name := "lineWide", desc := "(LStaveHouseModel$Piece;II)I" } : Jvm.MethodName) prog_15_method_106_code 5 (Option.some Jvm.ClassFile.FieldType.int) :: wAll) ({ frames := 1, cells := 0, slots := 0, locals := 21 } : Room) (va_Pc [.ref (ad 13 l0 0), .int (iI l1), .int (iI l2)] (zPre D ca ad lnM nM L aS vS F B sz)) (Q_M_lineWide D ca ad L r F9 B9 (zA L sz)) 0 0 (zA L sz) := by
  refine zMet (Qc := Q_M_lineWide D ca ad L r F9 B9) (lv := [(0, .ref (ad 13 l0 0)), (1, .int (iI l1)), (2, .int (iI l2))]) (by decide) (Nat.le_of_ble_eq_true rfl) rfl (fun A p e s m below meth c ls X hZ hS hl => ?_)
  obtain ⟨hx, hb, hr, hml, hown, hts, hlk, hK, hA, hL, hX⟩ := id X
  replace hf : (zbind (f_M_ahead K l0 l1 F B) (fun r1 F1 B1 => f_M_lineWide_9 K K l1 r1 l0 l1 l2 F1 B1)) = some (r, F9, B9) := hf
  refine lv_aload_n hx hb d_15_106_0 rfl (lv_at hl 0 rfl) ?_
  refine lv_iload_n hx hb d_15_106_1 rfl (lv_at hl 1 rfl) ?_
  obtain ⟨r1, F1, B1, hc1, hf⟩ := gbind hf
  refine va_calli (va_runS (As := [.ref (ad 13 l0 0), .int (iI l1)]) (rest := []) ⟨hx, hb, hml, hown, hts⟩ (c_M_ahead (l := l) hc1) (va_cwS 2 hts (gdS k_12_102 k_12_103 k_1_9 k_12_104) rfl rfl rfl (by decide +kernel) ⟨Nat.le_of_ble_eq_true rfl, Nat.le_of_ble_eq_true rfl⟩) (zPS X hZ hS [.ref (ad 13 l0 0), .int (iI l1)]) rfl rfl hl.1 rfl (lv_room (Nat.le_of_ble_eq_true rfl)) d_15_106_2 ⟨Nat.le_of_ble_eq_true rfl, Nat.le_of_ble_eq_true rfl⟩) hS (fun q _ h => zAin X hS q h) (zAin X hS) (fun p1 u1 t1 H1 locs1 ht1 hv1 hw1 hB1 hz1 hk1 hS1 => ?_)
  have hZ1 := zBack X ht1 hB1
  subst hw1
  refine lv_istore_n (lv' := [(3, .int (iI r1)), (0, .ref (ad 13 l0 0)), (1, .int (iI l1)), (2, .int (iI l2))]) hx hb d_15_106_5 rfl hl (by decide) rfl (fun ls hl => ?_)
  refine lv_iload_n hx hb d_15_106_6 rfl (lv_at hl 2 rfl) ?_
  refine lv_istore (lv' := [(4, .int (iI l1)), (3, .int (iI r1)), (0, .ref (ad 13 l0 0)), (1, .int (iI l1)), (2, .int (iI l2))]) hx hb d_15_106_7 hl (by decide) rfl (fun ls hl => ?_)
  exact b_M_lineWide_9 X hf hZ1 hS1 (lv_sub hl [0, 1, 2, 3, 4] rfl)

abbrev Q_M_ties (D : va_G) (ca : Nat → ClassId) (ad : Nat → Int → Nat → Nat) (L : List Nat) (r : Int) (F : zF) (B : zB) (A : Nat → Prop) : Array Value → State → Outcome → State → Prop := va_Qi (S := Unit) (fun p _ => p = iI r) (fun _ => zPo D ca ad lnM nM L F B A) A
def f_M_ties_38 (K : Nat) (s0 : Int) (F : zF) (B : zB) : zO := if (s0 = 0 ∨ s0 = 1) then some (s0, F, B) else none
set_option maxHeartbeats 4000000 in
set_option maxRecDepth 100000 in
theorem b_M_ties_38 {D : va_G} {ca : Nat → ClassId} {ad : Nat → Int → Nat → Nat} {L : List Nat} {aS vS : Nat → Nat} {A : Nat → Prop} {p : Program} {l : Launch} {e : Env} {s : State} {m : MethodId} {args : Array Value} {below : List Frame} {meth : Method} {c : Code} {K : Nat} {r : Int} {F9 : zF} {B9 : zB} (X : zX D ca L aS vS A p s m args meth c prog_15_method_115_code 4 (Option.some Jvm.ClassFile.FieldType.boolean) "StaveHouseModel") {s0 : Int} {F : zF} {B : zB} {H : Heap} {locs : List Loc} {ls : Array Slot} (hf : f_M_ties_38 K s0 F B = some (r, F9, B9)) (hZ : zH D ca ad lnM nM L F B A H) (hS : va_S A s.heap H locs) (hl : lv_has ls 4 []) : W p l e ({ frames := 1, cells := 0, slots := 0, locals := 24 } : Room) s m args below meth c H locs 0 0 (MQ below (Q_M_ties D ca ad L r F9 B9 A) args s 0 0 A) (F0 m 38 ls [.int (iI s0)]) := by
  obtain ⟨hx, hb, hr, hml, hown, hts, hlk, hK, hA, hL, hX⟩ := id X
  replace hf : (if (s0 = 0 ∨ s0 = 1) then some (s0, F, B) else none) = some (r, F9, B9) := hf
  obtain ⟨g11, hf⟩ := gif hf
  cases hf
  exact W.zret hx hb hr (zbool g11) (fun t ht hW => ⟨⟨_, (), rfl, rfl, by rw [ht]; exact hZ, va_K.moved hW.alike hK⟩, hS.F ht⟩) hS.2.2 d_15_115_38 hlk

def f_M_ties_37 (K : Nat)  (F : zF) (B : zB) : zO := f_M_ties_38 K 0 F B
set_option maxHeartbeats 4000000 in
set_option maxRecDepth 100000 in
theorem b_M_ties_37 {D : va_G} {ca : Nat → ClassId} {ad : Nat → Int → Nat → Nat} {L : List Nat} {aS vS : Nat → Nat} {A : Nat → Prop} {p : Program} {l : Launch} {e : Env} {s : State} {m : MethodId} {args : Array Value} {below : List Frame} {meth : Method} {c : Code} {K : Nat} {r : Int} {F9 : zF} {B9 : zB} (X : zX D ca L aS vS A p s m args meth c prog_15_method_115_code 4 (Option.some Jvm.ClassFile.FieldType.boolean) "StaveHouseModel")  {F : zF} {B : zB} {H : Heap} {locs : List Loc} {ls : Array Slot} (hf : f_M_ties_37 K  F B = some (r, F9, B9)) (hZ : zH D ca ad lnM nM L F B A H) (hS : va_S A s.heap H locs) (hl : lv_has ls 4 []) : W p l e ({ frames := 1, cells := 0, slots := 0, locals := 24 } : Room) s m args below meth c H locs 0 0 (MQ below (Q_M_ties D ca ad L r F9 B9 A) args s 0 0 A) (F0 m 37 ls []) := by
  obtain ⟨hx, hb, hr, hml, hown, hts, hlk, hK, hA, hL, hX⟩ := id X
  replace hf : (f_M_ties_38 K 0 F B) = some (r, F9, B9) := hf
  refine lv_iconst (v := iI 0) hx hb d_15_115_37 rfl ?_
  exact b_M_ties_38 X hf hZ hS (lv_sub hl [] rfl)

def f_M_ties (K : Nat) (l0 : Int) (l1 : Int) (l2 : Int) (l3 : Int) (F : zF) (B : zB) : zO := if 0 ≤ l0 ∧ l0 < 3 then if 0 ≤ l1 ∧ l1 < 4000 then if r32 (zand (B 13 l0 18 l1) 1) then (if (zand (B 13 l0 18 l1) 1) ≤ 0 then f_M_ties_37 K F B else zbind (f_M_has K l0 l1 l2 l3 F B) (fun r5 F5 B5 => if r32 r5 then (if r5 < 0 then f_M_ties_37 K F5 B5 else zbind (f_M_has K l0 (l1 + 1) l2 l3 F5 B5) (fun r8 F8 B8 => if r32 r8 then (if r8 < 0 then f_M_ties_37 K F8 B8 else f_M_ties_38 K 1 F8 B8) else none)) else none)) else none else none else none
set_option maxHeartbeats 4000000 in
set_option maxRecDepth 100000 in
theorem c_M_ties {l : Launch} {D : va_G} {ca : Nat → ClassId} {ad : Nat → Int → Nat → Nat} {L : List Nat} {aS vS : Nat → Nat} {sz K : Nat} {l0 : Int} {l1 : Int} {l2 : Int} {l3 : Int} {F F9 : zF} {B B9 : zB} {r : Int} (hf : f_M_ties K l0 l1 l2 l3 F B = some (r, F9, B9)) : Met l ({ cls := "StaveHouseModel", name := "ties", desc := "(LStaveHouseModel$Piece;III)Z" } : Jvm.MethodName) (Cond.code ({ cls := "StaveHouseModel", name := "ties", desc := "(LStaveHouseModel$Piece;III)Z" } : Jvm.MethodName) prog_15_method_115_code 4 (Option.some Jvm.ClassFile.FieldType.boolean) :: wAll) ({ frames := 1, cells := 0, slots := 0, locals := 24 } : Room) (va_Pc [.ref (ad 13 l0 0), .int (iI l1), .int (iI l2), .int (iI l3)] (zPre D ca ad lnM nM L aS vS F B sz)) (Q_M_ties D ca ad L r F9 B9 (zA L sz)) 0 0 (zA L sz) := by
  refine zMet (Qc := Q_M_ties D ca ad L r F9 B9) (lv := [(0, .ref (ad 13 l0 0)), (1, .int (iI l1)), (2, .int (iI l2)), (3, .int (iI l3))]) (by decide) (Nat.le_of_ble_eq_true rfl) rfl (fun A p e s m below meth c ls X hZ hS hl => ?_)
  obtain ⟨hx, hb, hr, hml, hown, hts, hlk, hK, hA, hL, hX⟩ := id X
  replace hf : (if 0 ≤ l0 ∧ l0 < 3 then if 0 ≤ l1 ∧ l1 < 4000 then if r32 (zand (B 13 l0 18 l1) 1) then (if (zand (B 13 l0 18 l1) 1) ≤ 0 then f_M_ties_37 K F B else zbind (f_M_has K l0 l1 l2 l3 F B) (fun r5 F5 B5 => if r32 r5 then (if r5 < 0 then f_M_ties_37 K F5 B5 else zbind (f_M_has K l0 (l1 + 1) l2 l3 F5 B5) (fun r8 F8 B8 => if r32 r8 then (if r8 < 0 then f_M_ties_37 K F8 B8 else f_M_ties_38 K 1 F8 B8) else none)) else none)) else none else none else none) = some (r, F9, B9) := hf
  refine lv_aload_n hx hb d_15_115_0 rfl (lv_at hl 0 rfl) ?_
  obtain ⟨g1, hf⟩ := gif hf
  refine zget (ci := 13) (C := RX13) (T := TX13) (v := .ref (ad 13 l0 (18 + 1))) (k := 18) hx hb hts inW_13 hown hK hZ g1.1 g1.2 rfl (by decide) k_9_154 rfl d_15_115_1 ?_
  refine lv_iload_n hx hb d_15_115_4 rfl (lv_at hl 1 rfl) ?_
  obtain ⟨g2, hf⟩ := gif hf
  refine zald (ci := 13) (k := 18) hx hb hK rfl hZ g1.1 g1.2 rfl (Nat.le_of_ble_eq_true rfl) g2.1 g2.2 d_15_115_5 ?_
  refine lv_iconst (v := iI 1) hx hb d_15_115_6 rfl ?_
  refine zand_r hx hb d_15_115_7 ?_
  obtain ⟨g3, hf⟩ := gif hf
  refine z0le (tgt := 37) hx hb g3 d_15_115_8 (by decide) (fun h4 => ?_) (fun h4 => ?_)
  · replace hf := gpos hf h4
    exact b_M_ties_37 X hf hZ hS (lv_sub hl [] rfl)
  · replace hf := gneg hf h4
    refine lv_aload_n hx hb d_15_115_11 rfl (lv_at hl 0 rfl) ?_
    refine lv_iload_n hx hb d_15_115_12 rfl (lv_at hl 1 rfl) ?_
    refine lv_iload_n hx hb d_15_115_13 rfl (lv_at hl 2 rfl) ?_
    refine lv_iload_n hx hb d_15_115_14 rfl (lv_at hl 3 rfl) ?_
    obtain ⟨r5, F5, B5, hc5, hf⟩ := gbind hf
    refine va_calli (va_runS (As := [.ref (ad 13 l0 0), .int (iI l1), .int (iI l2), .int (iI l3)]) (rest := []) ⟨hx, hb, hml, hown, hts⟩ (c_M_has (l := l) hc5) (va_cwS 4 hts (gdS k_12_132 k_12_133 k_1_9 k_12_134) rfl rfl rfl (by decide +kernel) ⟨Nat.le_of_ble_eq_true rfl, Nat.le_of_ble_eq_true rfl⟩) (zPS X hZ hS [.ref (ad 13 l0 0), .int (iI l1), .int (iI l2), .int (iI l3)]) rfl rfl hl.1 rfl (lv_room (Nat.le_of_ble_eq_true rfl)) d_15_115_15 ⟨Nat.le_of_ble_eq_true rfl, Nat.le_of_ble_eq_true rfl⟩) hS (fun q _ h => zAin X hS q h) (zAin X hS) (fun p5 u5 t5 H5 locs5 ht5 hv5 hw5 hB5 hz5 hk5 hS5 => ?_)
    have hZ5 := zBack X ht5 hB5
    subst hw5
    obtain ⟨g6, hf⟩ := gif hf
    refine z0lt (tgt := 37) hx hb g6 d_15_115_18 (by decide) (fun h7 => ?_) (fun h7 => ?_)
    · replace hf := gpos hf h7
      exact b_M_ties_37 X hf hZ5 hS5 (lv_sub hl [] rfl)
    · replace hf := gneg hf h7
      refine lv_aload_n hx hb d_15_115_21 rfl (lv_at hl 0 rfl) ?_
      refine lv_iload_n hx hb d_15_115_22 rfl (lv_at hl 1 rfl) ?_
      refine lv_iconst (v := iI 1) hx hb d_15_115_23 rfl ?_
      refine zadd hx hb d_15_115_24 ?_
      refine lv_iload_n hx hb d_15_115_25 rfl (lv_at hl 2 rfl) ?_
      refine lv_iload_n hx hb d_15_115_26 rfl (lv_at hl 3 rfl) ?_
      obtain ⟨r8, F8, B8, hc8, hf⟩ := gbind hf
      refine va_calli (va_runS (As := [.ref (ad 13 l0 0), .int (iI (l1 + 1)), .int (iI l2), .int (iI l3)]) (rest := []) ⟨hx, hb, hml, hown, hts⟩ (c_M_has (l := l) hc8) (va_cwS 4 hts (gdS k_12_132 k_12_133 k_1_9 k_12_134) rfl rfl rfl (by decide +kernel) ⟨Nat.le_of_ble_eq_true rfl, Nat.le_of_ble_eq_true rfl⟩) (zPS X hZ5 hS5 [.ref (ad 13 l0 0), .int (iI (l1 + 1)), .int (iI l2), .int (iI l3)]) rfl rfl hl.1 rfl (lv_room (Nat.le_of_ble_eq_true rfl)) d_15_115_27 ⟨Nat.le_of_ble_eq_true rfl, Nat.le_of_ble_eq_true rfl⟩) hS5 (fun q _ h => zAin X hS5 q h) (zAin X hS5) (fun p8 u8 t8 H8 locs8 ht8 hv8 hw8 hB8 hz8 hk8 hS8 => ?_)
      have hZ8 := zBack X ht8 hB8
      subst hw8
      obtain ⟨g9, hf⟩ := gif hf
      refine z0lt (tgt := 37) hx hb g9 d_15_115_30 (by decide) (fun h10 => ?_) (fun h10 => ?_)
      · replace hf := gpos hf h10
        exact b_M_ties_37 X hf hZ8 hS8 (lv_sub hl [] rfl)
      · replace hf := gneg hf h10
        refine lv_iconst (v := iI 1) hx hb d_15_115_33 rfl ?_
        refine lv_goto (tgt := 38) hx hb d_15_115_34 (by decide) ?_
        exact b_M_ties_38 X hf hZ8 hS8 (lv_sub hl [] rfl)

abbrev Q_M_plus (D : va_G) (ca : Nat → ClassId) (ad : Nat → Int → Nat → Nat) (L : List Nat) (r : Int) (F : zF) (B : zB) (A : Nat → Prop) : Array Value → State → Outcome → State → Prop := va_Qv (S := Unit) (fun _ => True) (fun _ => zPo D ca ad lnM nM L F B A) A
def f_M_plus (K : Nat) (l1 : Int) (l3 : Int) (l5 : Int) (l7 : Int) (F : zF) (B : zB) : zO := zbind (f_M_gcd K l3 l7 F B) (fun r1 F1 B1 => if ¬ lI r1 = 0 then zbind (f_M_is K ((l1 * (zldv l7 r1)) + (l5 * (zldv l3 r1))) ((zldv l3 r1) * l7) F1 B1) (fun r3 F3 B3 => some (0, F3, B3)) else none)
set_option maxHeartbeats 4000000 in
set_option maxRecDepth 100000 in
theorem c_M_plus {l : Launch} {D : va_G} {ca : Nat → ClassId} {ad : Nat → Int → Nat → Nat} {L : List Nat} {aS vS : Nat → Nat} {sz K : Nat} {l1 : Int} {l3 : Int} {l5 : Int} {l7 : Int} {F F9 : zF} {B B9 : zB} {r : Int} (hf : f_M_plus K l1 l3 l5 l7 F B = some (r, F9, B9)) : Met l ({ cls := "StaveHouseModel", name := "plus", desc := "(JJJJ)V" } : Jvm.MethodName) (Cond.code ({ cls := "StaveHouseModel", name := "plus", desc := "(JJJJ)V" } : Jvm.MethodName) prog_15_method_3_code 11 (Option.none : Option Jvm.ClassFile.FieldType) :: wAll) ({ frames := 2, cells := 0, slots := 0, locals := 55 } : Room) (va_Pc [.ref (ad 14 0 0), .long (lI l1), .long (lI l3), .long (lI l5), .long (lI l7)] (zPre D ca ad lnM nM L aS vS F B sz)) (Q_M_plus D ca ad L r F9 B9 (zA L sz)) 0 0 (zA L sz) := by
  refine zMet (Qc := Q_M_plus D ca ad L r F9 B9) (lv := [(0, .ref (ad 14 0 0)), (1, .long (lI l1)), (3, .long (lI l3)), (5, .long (lI l5)), (7, .long (lI l7))]) (by decide) (Nat.le_of_ble_eq_true rfl) rfl (fun A p e s m below meth c ls X hZ hS hl => ?_)
  obtain ⟨hx, hb, hr, hml, hown, hts, hlk, hK, hA, hL, hX⟩ := id X
  replace hf : (zbind (f_M_gcd K l3 l7 F B) (fun r1 F1 B1 => if ¬ lI r1 = 0 then zbind (f_M_is K ((l1 * (zldv l7 r1)) + (l5 * (zldv l3 r1))) ((zldv l3 r1) * l7) F1 B1) (fun r3 F3 B3 => some (0, F3, B3)) else none)) = some (r, F9, B9) := hf
  refine lv_lload_n hx hb d_15_3_0 rfl (lv_at hl 2 rfl) ?_
  refine lv_lload hx hb d_15_3_1 (lv_at hl 4 rfl) ?_
  obtain ⟨r1, F1, B1, hc1, hf⟩ := gbind hf
  refine va_calll (va_runS (As := [.long (lI l3), .long (lI l7)]) (rest := []) ⟨hx, hb, hml, hown, hts⟩ (c_M_gcd (l := l) hc1) (va_cwS 2 hts (gdS k_12_151 k_12_152 k_1_9 k_12_153) rfl rfl rfl (by decide +kernel) ⟨Nat.le_of_ble_eq_true rfl, Nat.le_of_ble_eq_true rfl⟩) (zPS X hZ hS [.long (lI l3), .long (lI l7)]) rfl rfl hl.1 rfl (lv_room (Nat.le_of_ble_eq_true rfl)) d_15_3_3 ⟨Nat.le_of_ble_eq_true rfl, Nat.le_of_ble_eq_true rfl⟩) hS (fun q _ h => zAin X hS q h) (zAin X hS) (fun p1 u1 t1 H1 locs1 ht1 hv1 hw1 hB1 hz1 hk1 hS1 => ?_)
  have hZ1 := zBack X ht1 hB1
  subst hw1
  refine lv_lstore (lv' := [(9, .long (lI r1)), (0, .ref (ad 14 0 0)), (1, .long (lI l1)), (3, .long (lI l3)), (5, .long (lI l5)), (7, .long (lI l7))]) hx hb d_15_3_6 hl (by decide) rfl (fun ls hl => ?_)
  refine lv_aload_n hx hb d_15_3_8 rfl (lv_at hl 1 rfl) ?_
  refine lv_lload_n hx hb d_15_3_9 rfl (lv_at hl 2 rfl) ?_
  refine lv_lload hx hb d_15_3_10 (lv_at hl 5 rfl) ?_
  refine lv_lload hx hb d_15_3_12 (lv_at hl 0 rfl) ?_
  obtain ⟨g2, hf⟩ := gif hf
  refine zldv_r hx hb g2 d_15_3_14 ?_
  refine zlmul hx hb d_15_3_15 ?_
  refine lv_lload hx hb d_15_3_16 (lv_at hl 4 rfl) ?_
  refine lv_lload_n hx hb d_15_3_18 rfl (lv_at hl 3 rfl) ?_
  refine lv_lload hx hb d_15_3_19 (lv_at hl 0 rfl) ?_
  refine zldv_r hx hb g2 d_15_3_21 ?_
  refine zlmul hx hb d_15_3_22 ?_
  refine zladd hx hb d_15_3_23 ?_
  refine lv_lload_n hx hb d_15_3_24 rfl (lv_at hl 3 rfl) ?_
  refine lv_lload hx hb d_15_3_25 (lv_at hl 0 rfl) ?_
  refine zldv_r hx hb g2 d_15_3_27 ?_
  refine lv_lload hx hb d_15_3_28 (lv_at hl 5 rfl) ?_
  refine zlmul hx hb d_15_3_30 ?_
  obtain ⟨r3, F3, B3, hc3, hf⟩ := gbind hf
  refine va_callv (va_runV (As := [.long (lI ((l1 * (zldv l7 r1)) + (l5 * (zldv l3 r1)))), .long (lI ((zldv l3 r1) * l7))]) (rest := []) ⟨hx, hb, hml, hown, hts⟩ (c_M_is (l := l) hc3) (cwV 2 hts (gdV k_12_154 k_12_156 ks_136 k_1_9 k_12_157) rfl rfl rfl (by decide +kernel) ⟨Nat.le_of_ble_eq_true rfl, Nat.le_of_ble_eq_true rfl⟩) (zPV X hZ1 hS1 (ci := 14) (by decide) (by decide) (r := (RX14, TX14, 107)) rfl [.long (lI ((l1 * (zldv l7 r1)) + (l5 * (zldv l3 r1)))), .long (lI ((zldv l3 r1) * l7))]) rfl rfl hl.1 rfl (lv_room (Nat.le_of_ble_eq_true rfl)) d_15_3_31 ⟨Nat.le_of_ble_eq_true rfl, Nat.le_of_ble_eq_true rfl⟩) hS1 (fun q _ h => zAin X hS1 q h) (zAin X hS1) (fun u3 t3 H3 locs3 ht3 hv3 hw3 hB3 hz3 hk3 hS3 => ?_)
  have hZ3 := zBack X ht3 hB3
  cases hf
  exact W.vret hx hb hr (fun t ht hW => ⟨⟨(), rfl, trivial, by rw [ht]; exact hZ3, va_K.moved hW.alike hK⟩, hS3.F ht⟩) hS3.2.2 d_15_3_34 hlk

abbrev Q_M_mod (D : va_G) (ca : Nat → ClassId) (ad : Nat → Int → Nat → Nat) (L : List Nat) (r : Int) (F : zF) (B : zB) (A : Nat → Prop) : Array Value → State → Outcome → State → Prop := va_Qi (S := Unit) (fun p _ => p = iI r) (fun _ => zPo D ca ad lnM nM L F B A) A
def f_M_mod (K : Nat) (l0 : Int) (l1 : Int) (F : zF) (B : zB) : zO := zbind (f_M_floor K l0 l1 F B) (fun r1 F1 B1 => some (l0 - (l1 * r1), F1, B1))
set_option maxHeartbeats 4000000 in
set_option maxRecDepth 100000 in
theorem c_M_mod {l : Launch} {D : va_G} {ca : Nat → ClassId} {ad : Nat → Int → Nat → Nat} {L : List Nat} {aS vS : Nat → Nat} {sz K : Nat} {l0 : Int} {l1 : Int} {F F9 : zF} {B B9 : zB} {r : Int} (hf : f_M_mod K l0 l1 F B = some (r, F9, B9)) : Met l ({ cls := "StaveHouseModel", name := "mod", desc := "(II)I" } : Jvm.MethodName) (Cond.code ({ cls := "StaveHouseModel", name := "mod", desc := "(II)I" } : Jvm.MethodName) prog_15_method_10_code 2 (Option.some Jvm.ClassFile.FieldType.int) :: wAll) ({ frames := 1, cells := 0, slots := 0, locals := 22 } : Room) (va_Pc [.int (iI l0), .int (iI l1)] (zPre D ca ad lnM nM L aS vS F B sz)) (Q_M_mod D ca ad L r F9 B9 (zA L sz)) 0 0 (zA L sz) := by
  refine zMet (Qc := Q_M_mod D ca ad L r F9 B9) (lv := [(0, .int (iI l0)), (1, .int (iI l1))]) (by decide) (Nat.le_of_ble_eq_true rfl) rfl (fun A p e s m below meth c ls X hZ hS hl => ?_)
  obtain ⟨hx, hb, hr, hml, hown, hts, hlk, hK, hA, hL, hX⟩ := id X
  replace hf : (zbind (f_M_floor K l0 l1 F B) (fun r1 F1 B1 => some (l0 - (l1 * r1), F1, B1))) = some (r, F9, B9) := hf
  refine lv_iload_n hx hb d_15_10_0 rfl (lv_at hl 0 rfl) ?_
  refine lv_iload_n hx hb d_15_10_1 rfl (lv_at hl 1 rfl) ?_
  refine lv_iload_n hx hb d_15_10_2 rfl (lv_at hl 0 rfl) ?_
  refine lv_iload_n hx hb d_15_10_3 rfl (lv_at hl 1 rfl) ?_
  obtain ⟨r1, F1, B1, hc1, hf⟩ := gbind hf
  refine va_calli (va_runS (As := [.int (iI l0), .int (iI l1)]) (rest := [.int (iI l1), .int (iI l0)]) ⟨hx, hb, hml, hown, hts⟩ (c_M_floor (l := l) hc1) (va_cwS 2 hts (gdS k_12_167 k_12_168 k_1_9 k_12_169) rfl rfl rfl (by decide +kernel) ⟨Nat.le_of_ble_eq_true rfl, Nat.le_of_ble_eq_true rfl⟩) (zPS X hZ hS [.int (iI l0), .int (iI l1)]) rfl rfl hl.1 rfl (lv_room (Nat.le_of_ble_eq_true rfl)) d_15_10_4 ⟨Nat.le_of_ble_eq_true rfl, Nat.le_of_ble_eq_true rfl⟩) hS (fun q _ h => zAin X hS q h) (zAin X hS) (fun p1 u1 t1 H1 locs1 ht1 hv1 hw1 hB1 hz1 hk1 hS1 => ?_)
  have hZ1 := zBack X ht1 hB1
  subst hw1
  refine zmul hx hb d_15_10_7 ?_
  refine zsub hx hb d_15_10_8 ?_
  cases hf
  exact W.iret hx hb hr (fun t ht hW => ⟨⟨_, (), rfl, rfl, by rw [ht]; exact hZ1, va_K.moved hW.alike hK⟩, hS1.F ht⟩) hS1.2.2 d_15_10_9 hlk

abbrev Q_M_next (D : va_G) (ca : Nat → ClassId) (ad : Nat → Int → Nat → Nat) (L : List Nat) (r : Int) (F : zF) (B : zB) (A : Nat → Prop) : Array Value → State → Outcome → State → Prop := va_Qi (S := Unit) (fun p _ => p = iI r) (fun _ => zPo D ca ad lnM nM L F B A) A
def f_M_next_60 (K : Nat) (s1 : Int) (s2 : Int) (F : zF) (B : zB) : zO := if r32 s2 then zbind (f_M_failByte K s1 s2 F B) (fun r17 F17 B17 => some (0, F17, B17)) else none
set_option maxHeartbeats 4000000 in
set_option maxRecDepth 100000 in
theorem b_M_next_60 {D : va_G} {ca : Nat → ClassId} {ad : Nat → Int → Nat → Nat} {L : List Nat} {aS vS : Nat → Nat} {A : Nat → Prop} {p : Program} {l : Launch} {e : Env} {s : State} {m : MethodId} {args : Array Value} {below : List Frame} {meth : Method} {c : Code} {K : Nat} {r : Int} {F9 : zF} {B9 : zB} (X : zX D ca L aS vS A p s m args meth c prog_15_method_136_code 1 (Option.some Jvm.ClassFile.FieldType.int) "StaveHouseModel") {s1 : Int} {s2 : Int} {F : zF} {B : zB} {H : Heap} {locs : List Loc} {ls : Array Slot} (hf : f_M_next_60 K s1 s2 F B = some (r, F9, B9)) (hZ : zH D ca ad lnM nM L F B A H) (hS : va_S A s.heap H locs) (hl : lv_has ls 1 []) : W p l e ({ frames := 1, cells := 0, slots := 0, locals := 22 } : Room) s m args below meth c H locs 0 0 (MQ below (Q_M_next D ca ad L r F9 B9 A) args s 0 0 A) (F0 m 60 ls [.long (lI s2), .int (iI s1), .ref (ad 14 0 0)]) := by
  obtain ⟨hx, hb, hr, hml, hown, hts, hlk, hK, hA, hL, hX⟩ := id X
  replace hf : (if r32 s2 then zbind (f_M_failByte K s1 s2 F B) (fun r17 F17 B17 => some (0, F17, B17)) else none) = some (r, F9, B9) := hf
  obtain ⟨g16, hf⟩ := gif hf
  refine zl2i hx hb g16 d_15_136_60 ?_
  obtain ⟨r17, F17, B17, hc17, hf⟩ := gbind hf
  refine va_callv (va_runV (As := [.int (iI s1), .int (iI s2)]) (rest := []) ⟨hx, hb, hml, hown, hts⟩ (c_M_failByte (l := l) hc17) (cwV 2 hts (gdV k_13_19 k_13_21 ks_153 k_1_9 k_13_22) rfl rfl rfl (by decide +kernel) ⟨Nat.le_of_ble_eq_true rfl, Nat.le_of_ble_eq_true rfl⟩) (zPV X hZ hS (ci := 14) (by decide) (by decide) (r := (RX14, TX14, 107)) rfl [.int (iI s1), .int (iI s2)]) rfl rfl hl.1 rfl (lv_room (Nat.le_of_ble_eq_true rfl)) d_15_136_61 ⟨Nat.le_of_ble_eq_true rfl, Nat.le_of_ble_eq_true rfl⟩) hS (fun q _ h => zAin X hS q h) (zAin X hS) (fun u17 t17 H17 locs17 ht17 hv17 hw17 hB17 hz17 hk17 hS17 => ?_)
  have hZ17 := zBack X ht17 hB17
  refine lv_iconst (v := iI 0) hx hb d_15_136_64 rfl ?_
  cases hf
  exact W.iret hx hb hr (fun t ht hW => ⟨⟨_, (), rfl, rfl, by rw [ht]; exact hZ17, va_K.moved hW.alike hK⟩, hS17.F ht⟩) hS17.2.2 d_15_136_65 hlk

def f_M_next_33 (K : Nat)  (F : zF) (B : zB) : zO := if r32 (F 14 0 3) then if r64 (F 14 0 90) then if r64 (F 14 0 3) then (if 0 ≤ (zcmp (F 14 0 90) (F 14 0 3)) then f_M_next_60 K 2 (F 14 0 3) F B else f_M_next_60 K 2 (F 14 0 90) F B) else none else none else none
set_option maxHeartbeats 4000000 in
set_option maxRecDepth 100000 in
theorem b_M_next_33 {D : va_G} {ca : Nat → ClassId} {ad : Nat → Int → Nat → Nat} {L : List Nat} {aS vS : Nat → Nat} {A : Nat → Prop} {p : Program} {l : Launch} {e : Env} {s : State} {m : MethodId} {args : Array Value} {below : List Frame} {meth : Method} {c : Code} {K : Nat} {r : Int} {F9 : zF} {B9 : zB} (X : zX D ca L aS vS A p s m args meth c prog_15_method_136_code 1 (Option.some Jvm.ClassFile.FieldType.int) "StaveHouseModel")  {F : zF} {B : zB} {H : Heap} {locs : List Loc} {ls : Array Slot} (hf : f_M_next_33 K  F B = some (r, F9, B9)) (hZ : zH D ca ad lnM nM L F B A H) (hS : va_S A s.heap H locs) (hl : lv_has ls 1 [(0, .ref (ad 14 0 0))]) : W p l e ({ frames := 1, cells := 0, slots := 0, locals := 22 } : Room) s m args below meth c H locs 0 0 (MQ below (Q_M_next D ca ad L r F9 B9 A) args s 0 0 A) (F0 m 33 ls []) := by
  obtain ⟨hx, hb, hr, hml, hown, hts, hlk, hK, hA, hL, hX⟩ := id X
  replace hf : (if r32 (F 14 0 3) then if r64 (F 14 0 90) then if r64 (F 14 0 3) then (if 0 ≤ (zcmp (F 14 0 90) (F 14 0 3)) then f_M_next_60 K 2 (F 14 0 3) F B else f_M_next_60 K 2 (F 14 0 90) F B) else none else none else none) = some (r, F9, B9) := hf
  refine lv_aload_n hx hb d_15_136_33 rfl (lv_at hl 0 rfl) ?_
  refine lv_iconst (v := iI 2) hx hb d_15_136_34 rfl ?_
  refine lv_aload_n hx hb d_15_136_35 rfl (lv_at hl 0 rfl) ?_
  refine zget (ci := 14) (C := RX14) (T := TX14) (v := .long (lI (F 14 0 90))) (k := 90) hx hb hts inW_14 hown hK hZ (by decide) (by decide) rfl (by decide) k_11_88 rfl d_15_136_36 ?_
  refine lv_aload_n hx hb d_15_136_39 rfl (lv_at hl 0 rfl) ?_
  refine zget (ci := 14) (C := RX14) (T := TX14) (v := .int (iI (F 14 0 3))) (k := 3) hx hb hts inW_14 hown hK hZ (by decide) (by decide) rfl (by decide) k_11_1 rfl d_15_136_40 ?_
  obtain ⟨g12, hf⟩ := gif hf
  refine zi2l hx hb g12 d_15_136_43 ?_
  obtain ⟨g13, hf⟩ := gif hf
  obtain ⟨g14, hf⟩ := gif hf
  refine zcmp_r hx hb g13 g14 d_15_136_44 ?_
  refine z0ge (tgt := 55) hx hb zcmp_32 d_15_136_45 (by decide) (fun h15 => ?_) (fun h15 => ?_)
  · replace hf := gpos hf h15
    refine lv_aload_n hx hb d_15_136_55 rfl (lv_at hl 0 rfl) ?_
    refine zget (ci := 14) (C := RX14) (T := TX14) (v := .int (iI (F 14 0 3))) (k := 3) hx hb hts inW_14 hown hK hZ (by decide) (by decide) rfl (by decide) k_11_1 rfl d_15_136_56 ?_
    refine zi2l hx hb g12 d_15_136_59 ?_
    exact b_M_next_60 X hf hZ hS (lv_sub hl [] rfl)
  · replace hf := gneg hf h15
    refine lv_aload_n hx hb d_15_136_48 rfl (lv_at hl 0 rfl) ?_
    refine zget (ci := 14) (C := RX14) (T := TX14) (v := .long (lI (F 14 0 90))) (k := 90) hx hb hts inW_14 hown hK hZ (by decide) (by decide) rfl (by decide) k_11_88 rfl d_15_136_49 ?_
    refine lv_goto (tgt := 60) hx hb d_15_136_52 (by decide) ?_
    exact b_M_next_60 X hf hZ hS (lv_sub hl [] rfl)

def f_M_next (K : Nat)  (F : zF) (B : zB) : zO := zbind (f_M_good K F B) (fun r1 F1 B1 => if r32 r1 then (if r1 = 0 then some (0, F1, B1) else if r32 (F1 14 0 89) then if r64 (F1 14 0 89) then if r64 (F1 14 0 90) then (if 0 ≤ (zcmp (F1 14 0 89) (F1 14 0 90)) then f_M_next_33 K F1 B1 else if r32 (F1 14 0 3) then (if (F1 14 0 89) < (F1 14 0 3) then zbind (f_M_byteAt K (((F1 14 0 89) + 1) - 1) (zup3 F1 14 0 89 ((F1 14 0 89) + 1)) B1) (fun r11 F11 B11 => some (r11, F11, B11)) else f_M_next_33 K F1 B1) else none) else none else none else none) else none)
set_option maxHeartbeats 4000000 in
set_option maxRecDepth 100000 in
theorem c_M_next {l : Launch} {D : va_G} {ca : Nat → ClassId} {ad : Nat → Int → Nat → Nat} {L : List Nat} {aS vS : Nat → Nat} {sz K : Nat}  {F F9 : zF} {B B9 : zB} {r : Int} (hf : f_M_next K  F B = some (r, F9, B9)) : Met l ({ cls := "StaveHouseModel", name := "next", desc := "()I" } : Jvm.MethodName) (Cond.code ({ cls := "StaveHouseModel", name := "next", desc := "()I" } : Jvm.MethodName) prog_15_method_136_code 1 (Option.some Jvm.ClassFile.FieldType.int) :: wAll) ({ frames := 1, cells := 0, slots := 0, locals := 22 } : Room) (va_Pc [.ref (ad 14 0 0)] (zPre D ca ad lnM nM L aS vS F B sz)) (Q_M_next D ca ad L r F9 B9 (zA L sz)) 0 0 (zA L sz) := by
  refine zMet (Qc := Q_M_next D ca ad L r F9 B9) (lv := [(0, .ref (ad 14 0 0))]) (by decide) (Nat.le_of_ble_eq_true rfl) rfl (fun A p e s m below meth c ls X hZ hS hl => ?_)
  obtain ⟨hx, hb, hr, hml, hown, hts, hlk, hK, hA, hL, hX⟩ := id X
  replace hf : (zbind (f_M_good K F B) (fun r1 F1 B1 => if r32 r1 then (if r1 = 0 then some (0, F1, B1) else if r32 (F1 14 0 89) then if r64 (F1 14 0 89) then if r64 (F1 14 0 90) then (if 0 ≤ (zcmp (F1 14 0 89) (F1 14 0 90)) then f_M_next_33 K F1 B1 else if r32 (F1 14 0 3) then (if (F1 14 0 89) < (F1 14 0 3) then zbind (f_M_byteAt K (((F1 14 0 89) + 1) - 1) (zup3 F1 14 0 89 ((F1 14 0 89) + 1)) B1) (fun r11 F11 B11 => some (r11, F11, B11)) else f_M_next_33 K F1 B1) else none) else none else none else none) else none)) = some (r, F9, B9) := hf
  refine lv_aload_n hx hb d_15_136_0 rfl (lv_at hl 0 rfl) ?_
  obtain ⟨r1, F1, B1, hc1, hf⟩ := gbind hf
  refine va_calli (va_runV (As := []) (rest := []) ⟨hx, hb, hml, hown, hts⟩ (c_M_good (l := l) hc1) (cwV 0 hts (gdV k_13_15 k_13_17 ks_152 k_1_9 k_13_18) rfl rfl rfl (by decide +kernel) ⟨Nat.le_of_ble_eq_true rfl, Nat.le_of_ble_eq_true rfl⟩) (zPV X hZ hS (ci := 14) (by decide) (by decide) (r := (RX14, TX14, 107)) rfl []) rfl rfl hl.1 rfl (lv_room (Nat.le_of_ble_eq_true rfl)) d_15_136_1 ⟨Nat.le_of_ble_eq_true rfl, Nat.le_of_ble_eq_true rfl⟩) hS (fun q _ h => zAin X hS q h) (zAin X hS) (fun p1 u1 t1 H1 locs1 ht1 hv1 hw1 hB1 hz1 hk1 hS1 => ?_)
  have hZ1 := zBack X ht1 hB1
  subst hw1
  obtain ⟨g2, hf⟩ := gif hf
  refine z0ne (tgt := 9) hx hb g2 d_15_136_4 (by decide) (fun h3 => ?_) (fun h3 => ?_)
  · replace hf := gneg hf h3
    refine lv_aload_n hx hb d_15_136_9 rfl (lv_at hl 0 rfl) ?_
    refine zget (ci := 14) (C := RX14) (T := TX14) (v := .int (iI (F1 14 0 89))) (k := 89) hx hb hts inW_14 hown hK hZ1 (by decide) (by decide) rfl (by decide) k_11_87 rfl d_15_136_10 ?_
    obtain ⟨g4, hf⟩ := gif hf
    refine zi2l hx hb g4 d_15_136_13 ?_
    refine lv_aload_n hx hb d_15_136_14 rfl (lv_at hl 0 rfl) ?_
    refine zget (ci := 14) (C := RX14) (T := TX14) (v := .long (lI (F1 14 0 90))) (k := 90) hx hb hts inW_14 hown hK hZ1 (by decide) (by decide) rfl (by decide) k_11_88 rfl d_15_136_15 ?_
    obtain ⟨g5, hf⟩ := gif hf
    obtain ⟨g6, hf⟩ := gif hf
    refine zcmp_r hx hb g5 g6 d_15_136_18 ?_
    refine z0ge (tgt := 33) hx hb zcmp_32 d_15_136_19 (by decide) (fun h7 => ?_) (fun h7 => ?_)
    · replace hf := gpos hf h7
      exact b_M_next_33 X hf hZ1 hS1 (lv_sub hl [0] rfl)
    · replace hf := gneg hf h7
      refine lv_aload_n hx hb d_15_136_22 rfl (lv_at hl 0 rfl) ?_
      refine zget (ci := 14) (C := RX14) (T := TX14) (v := .int (iI (F1 14 0 89))) (k := 89) hx hb hts inW_14 hown hK hZ1 (by decide) (by decide) rfl (by decide) k_11_87 rfl d_15_136_23 ?_
      refine lv_aload_n hx hb d_15_136_26 rfl (lv_at hl 0 rfl) ?_
      refine zget (ci := 14) (C := RX14) (T := TX14) (v := .int (iI (F1 14 0 3))) (k := 3) hx hb hts inW_14 hown hK hZ1 (by decide) (by decide) rfl (by decide) k_11_1 rfl d_15_136_27 ?_
      obtain ⟨g8, hf⟩ := gif hf
      refine zlt (tgt := 66) hx hb g4 g8 d_15_136_30 (by decide) (fun h9 => ?_) (fun h9 => ?_)
      · replace hf := gpos hf h9
        refine lv_aload_n hx hb d_15_136_66 rfl (lv_at hl 0 rfl) ?_
        refine lv_dup hx hb d_15_136_67 rfl ?_
        refine zget (ci := 14) (C := RX14) (T := TX14) (v := .int (iI (F1 14 0 89))) (k := 89) hx hb hts inW_14 hown hK hZ1 (by decide) (by decide) rfl (by decide) k_11_87 rfl d_15_136_68 ?_
        refine lv_iconst (v := iI 1) hx hb d_15_136_71 rfl ?_
        refine zadd hx hb d_15_136_72 ?_
        refine zput (ci := 14) (C := RX14) (T := TX14) (k := 89) (v := ((F1 14 0 89) + 1)) (w := .int (iI ((F1 14 0 89) + 1))) hx hb hts inW_14 tyX14 tyX14_ok nmX14 hown hK hZ1 hS1 (by decide) (by decide) rfl (by decide) k_11_87 rfl (fun G h => congrArg (fun q => Value.int (iI q)) h) rfl rfl d_15_136_73 (fun H10 locs10 hZ10 hS10 => ?_)
        refine lv_aload_n hx hb d_15_136_76 rfl (lv_at hl 0 rfl) ?_
        refine lv_aload_n hx hb d_15_136_77 rfl (lv_at hl 0 rfl) ?_
        refine zget (ci := 14) (C := RX14) (T := TX14) (v := .int (iI ((F1 14 0 89) + 1))) (k := 89) hx hb hts inW_14 hown hK hZ10 (by decide) (by decide) rfl (by decide) k_11_87 rfl d_15_136_78 ?_
        refine lv_iconst (v := iI 1) hx hb d_15_136_81 rfl ?_
        refine zsub hx hb d_15_136_82 ?_
        obtain ⟨r11, F11, B11, hc11, hf⟩ := gbind hf
        refine va_calli (va_runV (As := [.int (iI (((F1 14 0 89) + 1) - 1))]) (rest := []) ⟨hx, hb, hml, hown, hts⟩ (c_M_byteAt (l := l) hc11) (cwV 1 hts (gdV k_13_23 k_13_25 ks_154 k_1_9 k_13_26) rfl rfl rfl (by decide +kernel) ⟨Nat.le_of_ble_eq_true rfl, Nat.le_of_ble_eq_true rfl⟩) (zPV X hZ10 hS10 (ci := 14) (by decide) (by decide) (r := (RX14, TX14, 107)) rfl [.int (iI (((F1 14 0 89) + 1) - 1))]) rfl rfl hl.1 rfl (lv_room (Nat.le_of_ble_eq_true rfl)) d_15_136_83 ⟨Nat.le_of_ble_eq_true rfl, Nat.le_of_ble_eq_true rfl⟩) hS10 (fun q _ h => zAin X hS10 q h) (zAin X hS10) (fun p11 u11 t11 H11 locs11 ht11 hv11 hw11 hB11 hz11 hk11 hS11 => ?_)
        have hZ11 := zBack X ht11 hB11
        subst hw11
        cases hf
        exact W.iret hx hb hr (fun t ht hW => ⟨⟨_, (), rfl, rfl, by rw [ht]; exact hZ11, va_K.moved hW.alike hK⟩, hS11.F ht⟩) hS11.2.2 d_15_136_86 hlk
      · replace hf := gneg hf h9
        exact b_M_next_33 X hf hZ1 hS1 (lv_sub hl [0] rfl)
  · replace hf := gpos hf h3
    refine lv_iconst (v := iI 0) hx hb d_15_136_7 rfl ?_
    cases hf
    exact W.iret hx hb hr (fun t ht hW => ⟨⟨_, (), rfl, rfl, by rw [ht]; exact hZ1, va_K.moved hW.alike hK⟩, hS1.F ht⟩) hS1.2.2 d_15_136_8 hlk

abbrev Q_M_whole (D : va_G) (ca : Nat → ClassId) (ad : Nat → Int → Nat → Nat) (L : List Nat) (r : Int) (F : zF) (B : zB) (A : Nat → Prop) : Array Value → State → Outcome → State → Prop := va_Ql (S := Unit) (fun p _ => p = lI r) (fun _ => zPo D ca ad lnM nM L F B A) A
def f_M_whole_5 (K : Nat) : Nat → Int → Int → Int → zF → zB → zO
  | 0, _, _, _, _, _ => none
  | n + 1, l4, l2, l1, F, B => if r32 l4 then if r32 l1 then (if l1 ≤ l4 then some (l2, F, B) else zbind (f_M_next K F B) (fun r4 F4 B4 => if r32 r4 then f_M_whole_5 K n (l4 + 1) (zlor (zlshl l2 8) r4) l1 F4 B4 else none)) else none else none
set_option maxHeartbeats 4000000 in
set_option maxRecDepth 100000 in
theorem b_M_whole_5 {D : va_G} {ca : Nat → ClassId} {ad : Nat → Int → Nat → Nat} {L : List Nat} {aS vS : Nat → Nat} {A : Nat → Prop} {p : Program} {l : Launch} {e : Env} {s : State} {m : MethodId} {args : Array Value} {below : List Frame} {meth : Method} {c : Code} {K : Nat} {r : Int} {F9 : zF} {B9 : zB} (X : zX D ca L aS vS A p s m args meth c prog_15_method_138_code 5 (Option.some Jvm.ClassFile.FieldType.long) "StaveHouseModel") : ∀ {n : Nat} {l4 : Int} {l2 : Int} {l1 : Int} {F : zF} {B : zB} {H : Heap} {locs : List Loc} {ls : Array Slot}, f_M_whole_5 K n l4 l2 l1 F B = some (r, F9, B9) → zH D ca ad lnM nM L F B A H → va_S A s.heap H locs → lv_has ls 5 [(4, .int (iI l4)), (2, .long (lI l2)), (0, .ref (ad 14 0 0)), (1, .int (iI l1))] → W p l e ({ frames := 2, cells := 0, slots := 0, locals := 42 } : Room) s m args below meth c H locs 0 0 (MQ below (Q_M_whole D ca ad L r F9 B9 A) args s 0 0 A) (F0 m 5 ls []) := by
  obtain ⟨hx, hb, hr, hml, hown, hts, hlk, hK, hA, hL, hX⟩ := id X
  intro n
  induction n with
  | zero =>
    intros
    rename_i hf _ _ _
    cases hf
  | succ n ih =>
    intro l4 l2 l1 F B H locs ls hf hZ hS hl
    replace hf : (if r32 l4 then if r32 l1 then (if l1 ≤ l4 then some (l2, F, B) else zbind (f_M_next K F B) (fun r4 F4 B4 => if r32 r4 then f_M_whole_5 K n (l4 + 1) (zlor (zlshl l2 8) r4) l1 F4 B4 else none)) else none else none) = some (r, F9, B9) := hf
    refine lv_iload hx hb d_15_138_5 (lv_at hl 0 rfl) ?_
    refine lv_iload_n hx hb d_15_138_7 rfl (lv_at hl 3 rfl) ?_
    obtain ⟨g1, hf⟩ := gif hf
    obtain ⟨g2, hf⟩ := gif hf
    refine zge (tgt := 28) hx hb g1 g2 d_15_138_8 (by decide) (fun h3 => ?_) (fun h3 => ?_)
    · replace hf := gpos hf h3
      refine lv_lload_n hx hb d_15_138_28 rfl (lv_at hl 1 rfl) ?_
      cases hf
      exact W.lret hx hb hr (fun t ht hW => ⟨⟨_, (), rfl, rfl, by rw [ht]; exact hZ, va_K.moved hW.alike hK⟩, hS.F ht⟩) hS.2.2 d_15_138_29 hlk
    · replace hf := gneg hf h3
      refine lv_lload_n hx hb d_15_138_11 rfl (lv_at hl 1 rfl) ?_
      refine lv_bipush (v := iI 8) hx hb d_15_138_12 (by decide) ?_
      refine zlshl_r hx hb d_15_138_14 ?_
      refine lv_aload_n hx hb d_15_138_15 rfl (lv_at hl 2 rfl) ?_
      obtain ⟨r4, F4, B4, hc4, hf⟩ := gbind hf
      refine va_calli (va_runV (As := []) (rest := [.long (lI (zlshl l2 8))]) ⟨hx, hb, hml, hown, hts⟩ (c_M_next (l := l) hc4) (cwV 0 hts (gdV k_13_11 k_13_13 ks_151 k_1_9 k_13_14) rfl rfl rfl (by decide +kernel) ⟨Nat.le_of_ble_eq_true rfl, Nat.le_of_ble_eq_true rfl⟩) (zPV X hZ hS (ci := 14) (by decide) (by decide) (r := (RX14, TX14, 107)) rfl []) rfl rfl hl.1 rfl (lv_room (Nat.le_of_ble_eq_true rfl)) d_15_138_16 ⟨Nat.le_of_ble_eq_true rfl, Nat.le_of_ble_eq_true rfl⟩) hS (fun q _ h => zAin X hS q h) (zAin X hS) (fun p4 u4 t4 H4 locs4 ht4 hv4 hw4 hB4 hz4 hk4 hS4 => ?_)
      have hZ4 := zBack X ht4 hB4
      subst hw4
      obtain ⟨g5, hf⟩ := gif hf
      refine zi2l hx hb g5 d_15_138_19 ?_
      refine zlor_r hx hb d_15_138_20 ?_
      refine lv_lstore_n (lv' := [(2, .long (lI (zlor (zlshl l2 8) r4))), (4, .int (iI l4)), (0, .ref (ad 14 0 0)), (1, .int (iI l1))]) hx hb d_15_138_21 rfl hl (by decide) rfl (fun ls hl => ?_)
      refine lv_iinc (v := iI (l4 + 1)) (lv' := [(4, .int (iI (l4 + 1))), (2, .long (lI (zlor (zlshl l2 8) r4))), (0, .ref (ad 14 0 0)), (1, .int (iI l1))]) hx hb d_15_138_22 hl (k := 1) rfl (iI_add _ 1) (by decide) rfl (fun ls hl => ?_)
      refine lv_goto (tgt := 5) hx hb d_15_138_25 (by decide) ?_
      exact ih hf hZ4 hS4 (lv_sub hl [0, 1, 2, 3] rfl)

def f_M_whole (K : Nat) (l1 : Int) (F : zF) (B : zB) : zO := f_M_whole_5 K K 0 0 l1 F B
set_option maxHeartbeats 4000000 in
set_option maxRecDepth 100000 in
theorem c_M_whole {l : Launch} {D : va_G} {ca : Nat → ClassId} {ad : Nat → Int → Nat → Nat} {L : List Nat} {aS vS : Nat → Nat} {sz K : Nat} {l1 : Int} {F F9 : zF} {B B9 : zB} {r : Int} (hf : f_M_whole K l1 F B = some (r, F9, B9)) : Met l ({ cls := "StaveHouseModel", name := "whole", desc := "(I)J" } : Jvm.MethodName) (Cond.code ({ cls := "StaveHouseModel", name := "whole", desc := "(I)J" } : Jvm.MethodName) prog_15_method_138_code 5 (Option.some Jvm.ClassFile.FieldType.long) :: wAll) ({ frames := 2, cells := 0, slots := 0, locals := 42 } : Room) (va_Pc [.ref (ad 14 0 0), .int (iI l1)] (zPre D ca ad lnM nM L aS vS F B sz)) (Q_M_whole D ca ad L r F9 B9 (zA L sz)) 0 0 (zA L sz) := by
  refine zMet (Qc := Q_M_whole D ca ad L r F9 B9) (lv := [(0, .ref (ad 14 0 0)), (1, .int (iI l1))]) (by decide) (Nat.le_of_ble_eq_true rfl) rfl (fun A p e s m below meth c ls X hZ hS hl => ?_)
  obtain ⟨hx, hb, hr, hml, hown, hts, hlk, hK, hA, hL, hX⟩ := id X
  replace hf : (f_M_whole_5 K K 0 0 l1 F B) = some (r, F9, B9) := hf
  refine lv_lconst (v := lI 0) hx hb d_15_138_0 (by decide) ?_
  refine lv_lstore_n (lv' := [(2, .long (lI 0)), (0, .ref (ad 14 0 0)), (1, .int (iI l1))]) hx hb d_15_138_1 rfl hl (by decide) rfl (fun ls hl => ?_)
  refine lv_iconst (v := iI 0) hx hb d_15_138_2 rfl ?_
  refine lv_istore (lv' := [(4, .int (iI 0)), (2, .long (lI 0)), (0, .ref (ad 14 0 0)), (1, .int (iI l1))]) hx hb d_15_138_3 hl (by decide) rfl (fun ls hl => ?_)
  exact b_M_whole_5 X hf hZ hS (lv_sub hl [0, 1, 2, 3] rfl)

abbrev Q_M_within (D : va_G) (ca : Nat → ClassId) (ad : Nat → Int → Nat → Nat) (L : List Nat) (r : Int) (F : zF) (B : zB) (A : Nat → Prop) : Array Value → State → Outcome → State → Prop := va_Qi (S := Unit) (fun p _ => p = iI r) (fun _ => zPo D ca ad lnM nM L F B A) A
def f_M_within_43 (K : Nat) (l5 : Int) (F : zF) (B : zB) : zO := if r32 l5 then some (l5, F, B) else none
set_option maxHeartbeats 4000000 in
set_option maxRecDepth 100000 in
theorem b_M_within_43 {D : va_G} {ca : Nat → ClassId} {ad : Nat → Int → Nat → Nat} {L : List Nat} {aS vS : Nat → Nat} {A : Nat → Prop} {p : Program} {l : Launch} {e : Env} {s : State} {m : MethodId} {args : Array Value} {below : List Frame} {meth : Method} {c : Code} {K : Nat} {r : Int} {F9 : zF} {B9 : zB} (X : zX D ca L aS vS A p s m args meth c prog_15_method_139_code 7 (Option.some Jvm.ClassFile.FieldType.int) "StaveHouseModel") {l5 : Int} {F : zF} {B : zB} {H : Heap} {locs : List Loc} {ls : Array Slot} (hf : f_M_within_43 K l5 F B = some (r, F9, B9)) (hZ : zH D ca ad lnM nM L F B A H) (hS : va_S A s.heap H locs) (hl : lv_has ls 7 [(5, .long (lI l5))]) : W p l e ({ frames := 3, cells := 0, slots := 0, locals := 66 } : Room) s m args below meth c H locs 0 0 (MQ below (Q_M_within D ca ad L r F9 B9 A) args s 0 0 A) (F0 m 43 ls []) := by
  obtain ⟨hx, hb, hr, hml, hown, hts, hlk, hK, hA, hL, hX⟩ := id X
  replace hf : (if r32 l5 then some (l5, F, B) else none) = some (r, F9, B9) := hf
  refine lv_lload hx hb d_15_139_43 (lv_at hl 0 rfl) ?_
  obtain ⟨g13, hf⟩ := gif hf
  refine zl2i hx hb g13 d_15_139_45 ?_
  cases hf
  exact W.iret hx hb hr (fun t ht hW => ⟨⟨_, (), rfl, rfl, by rw [ht]; exact hZ, va_K.moved hW.alike hK⟩, hS.F ht⟩) hS.2.2 d_15_139_46 hlk

def f_M_within_36 (K : Nat) (l5 : Int) (l4 : Int) (F : zF) (B : zB) : zO := zbind (f_M_failByte K 3 l4 F B) (fun r12 F12 B12 => f_M_within_43 K l5 F12 B12)
set_option maxHeartbeats 4000000 in
set_option maxRecDepth 100000 in
theorem b_M_within_36 {D : va_G} {ca : Nat → ClassId} {ad : Nat → Int → Nat → Nat} {L : List Nat} {aS vS : Nat → Nat} {A : Nat → Prop} {p : Program} {l : Launch} {e : Env} {s : State} {m : MethodId} {args : Array Value} {below : List Frame} {meth : Method} {c : Code} {K : Nat} {r : Int} {F9 : zF} {B9 : zB} (X : zX D ca L aS vS A p s m args meth c prog_15_method_139_code 7 (Option.some Jvm.ClassFile.FieldType.int) "StaveHouseModel") {l5 : Int} {l4 : Int} {F : zF} {B : zB} {H : Heap} {locs : List Loc} {ls : Array Slot} (hf : f_M_within_36 K l5 l4 F B = some (r, F9, B9)) (hZ : zH D ca ad lnM nM L F B A H) (hS : va_S A s.heap H locs) (hl : lv_has ls 7 [(5, .long (lI l5)), (4, .int (iI l4)), (0, .ref (ad 14 0 0))]) : W p l e ({ frames := 3, cells := 0, slots := 0, locals := 66 } : Room) s m args below meth c H locs 0 0 (MQ below (Q_M_within D ca ad L r F9 B9 A) args s 0 0 A) (F0 m 36 ls []) := by
  obtain ⟨hx, hb, hr, hml, hown, hts, hlk, hK, hA, hL, hX⟩ := id X
  replace hf : (zbind (f_M_failByte K 3 l4 F B) (fun r12 F12 B12 => f_M_within_43 K l5 F12 B12)) = some (r, F9, B9) := hf
  refine lv_aload_n hx hb d_15_139_36 rfl (lv_at hl 2 rfl) ?_
  refine lv_iconst (v := iI 3) hx hb d_15_139_37 rfl ?_
  refine lv_iload hx hb d_15_139_38 (lv_at hl 1 rfl) ?_
  obtain ⟨r12, F12, B12, hc12, hf⟩ := gbind hf
  refine va_callv (va_runV (As := [.int (iI 3), .int (iI l4)]) (rest := []) ⟨hx, hb, hml, hown, hts⟩ (c_M_failByte (l := l) hc12) (cwV 2 hts (gdV k_13_19 k_13_21 ks_153 k_1_9 k_13_22) rfl rfl rfl (by decide +kernel) ⟨Nat.le_of_ble_eq_true rfl, Nat.le_of_ble_eq_true rfl⟩) (zPV X hZ hS (ci := 14) (by decide) (by decide) (r := (RX14, TX14, 107)) rfl [.int (iI 3), .int (iI l4)]) rfl rfl hl.1 rfl (lv_room (Nat.le_of_ble_eq_true rfl)) d_15_139_40 ⟨Nat.le_of_ble_eq_true rfl, Nat.le_of_ble_eq_true rfl⟩) hS (fun q _ h => zAin X hS q h) (zAin X hS) (fun u12 t12 H12 locs12 ht12 hv12 hw12 hB12 hz12 hk12 hS12 => ?_)
  have hZ12 := zBack X ht12 hB12
  exact b_M_within_43 X hf hZ12 hS12 (lv_sub hl [0] rfl)

def f_M_within (K : Nat) (l1 : Int) (l2 : Int) (l3 : Int) (F : zF) (B : zB) : zO := zbind (f_M_whole K l1 F B) (fun r1 F1 B1 => zbind (f_M_good K F1 B1) (fun r2 F2 B2 => if r32 r2 then (if r2 = 0 then f_M_within_43 K r1 F2 B2 else if r32 l2 then if r64 r1 then if r64 l2 then (if (zcmp r1 l2) < 0 then f_M_within_36 K r1 (F 14 0 89) F2 B2 else if r32 l3 then if r64 l3 then (if (zcmp r1 l3) ≤ 0 then f_M_within_43 K r1 F2 B2 else f_M_within_36 K r1 (F 14 0 89) F2 B2) else none else none) else none else none else none) else none))
set_option maxHeartbeats 4000000 in
set_option maxRecDepth 100000 in
theorem c_M_within {l : Launch} {D : va_G} {ca : Nat → ClassId} {ad : Nat → Int → Nat → Nat} {L : List Nat} {aS vS : Nat → Nat} {sz K : Nat} {l1 : Int} {l2 : Int} {l3 : Int} {F F9 : zF} {B B9 : zB} {r : Int} (hf : f_M_within K l1 l2 l3 F B = some (r, F9, B9)) : Met l ({ cls := "StaveHouseModel", name := "within", desc := "(III)I" } : Jvm.MethodName) (Cond.code ({ cls := "StaveHouseModel", name := "within", desc := "(III)I" } : Jvm.MethodName) prog_15_method_139_code 7 (Option.some Jvm.ClassFile.FieldType.int) :: wAll) ({ frames := 3, cells := 0, slots := 0, locals := 66 } : Room) (va_Pc [.ref (ad 14 0 0), .int (iI l1), .int (iI l2), .int (iI l3)] (zPre D ca ad lnM nM L aS vS F B sz)) (Q_M_within D ca ad L r F9 B9 (zA L sz)) 0 0 (zA L sz) := by
  refine zMet (Qc := Q_M_within D ca ad L r F9 B9) (lv := [(0, .ref (ad 14 0 0)), (1, .int (iI l1)), (2, .int (iI l2)), (3, .int (iI l3))]) (by decide) (Nat.le_of_ble_eq_true rfl) rfl (fun A p e s m below meth c ls X hZ hS hl => ?_)
  obtain ⟨hx, hb, hr, hml, hown, hts, hlk, hK, hA, hL, hX⟩ := id X
  replace hf : (zbind (f_M_whole K l1 F B) (fun r1 F1 B1 => zbind (f_M_good K F1 B1) (fun r2 F2 B2 => if r32 r2 then (if r2 = 0 then f_M_within_43 K r1 F2 B2 else if r32 l2 then if r64 r1 then if r64 l2 then (if (zcmp r1 l2) < 0 then f_M_within_36 K r1 (F 14 0 89) F2 B2 else if r32 l3 then if r64 l3 then (if (zcmp r1 l3) ≤ 0 then f_M_within_43 K r1 F2 B2 else f_M_within_36 K r1 (F 14 0 89) F2 B2) else none else none) else none else none else none) else none))) = some (r, F9, B9) := hf
  refine lv_aload_n hx hb d_15_139_0 rfl (lv_at hl 0 rfl) ?_
  refine zget (ci := 14) (C := RX14) (T := TX14) (v := .int (iI (F 14 0 89))) (k := 89) hx hb hts inW_14 hown hK hZ (by decide) (by decide) rfl (by decide) k_11_87 rfl d_15_139_1 ?_
  refine lv_istore (lv' := [(4, .int (iI (F 14 0 89))), (0, .ref (ad 14 0 0)), (1, .int (iI l1)), (2, .int (iI l2)), (3, .int (iI l3))]) hx hb d_15_139_4 hl (by decide) rfl (fun ls hl => ?_)
  refine lv_aload_n hx hb d_15_139_6 rfl (lv_at hl 1 rfl) ?_
  refine lv_iload_n hx hb d_15_139_7 rfl (lv_at hl 2 rfl) ?_
  obtain ⟨r1, F1, B1, hc1, hf⟩ := gbind hf
  refine va_calll (va_runV (As := [.int (iI l1)]) (rest := []) ⟨hx, hb, hml, hown, hts⟩ (c_M_whole (l := l) hc1) (cwV 1 hts (gdV k_13_27 k_13_29 ks_155 k_1_9 k_13_30) rfl rfl rfl (by decide +kernel) ⟨Nat.le_of_ble_eq_true rfl, Nat.le_of_ble_eq_true rfl⟩) (zPV X hZ hS (ci := 14) (by decide) (by decide) (r := (RX14, TX14, 107)) rfl [.int (iI l1)]) rfl rfl hl.1 rfl (lv_room (Nat.le_of_ble_eq_true rfl)) d_15_139_8 ⟨Nat.le_of_ble_eq_true rfl, Nat.le_of_ble_eq_true rfl⟩) hS (fun q _ h => zAin X hS q h) (zAin X hS) (fun p1 u1 t1 H1 locs1 ht1 hv1 hw1 hB1 hz1 hk1 hS1 => ?_)
  have hZ1 := zBack X ht1 hB1
  subst hw1
  refine lv_lstore (lv' := [(5, .long (lI r1)), (4, .int (iI (F 14 0 89))), (0, .ref (ad 14 0 0)), (1, .int (iI l1)), (2, .int (iI l2)), (3, .int (iI l3))]) hx hb d_15_139_11 hl (by decide) rfl (fun ls hl => ?_)
  refine lv_aload_n hx hb d_15_139_13 rfl (lv_at hl 2 rfl) ?_
  obtain ⟨r2, F2, B2, hc2, hf⟩ := gbind hf
  refine va_calli (va_runV (As := []) (rest := []) ⟨hx, hb, hml, hown, hts⟩ (c_M_good (l := l) hc2) (cwV 0 hts (gdV k_13_15 k_13_17 ks_152 k_1_9 k_13_18) rfl rfl rfl (by decide +kernel) ⟨Nat.le_of_ble_eq_true rfl, Nat.le_of_ble_eq_true rfl⟩) (zPV X hZ1 hS1 (ci := 14) (by decide) (by decide) (r := (RX14, TX14, 107)) rfl []) rfl rfl hl.1 rfl (lv_room (Nat.le_of_ble_eq_true rfl)) d_15_139_14 ⟨Nat.le_of_ble_eq_true rfl, Nat.le_of_ble_eq_true rfl⟩) hS1 (fun q _ h => zAin X hS1 q h) (zAin X hS1) (fun p2 u2 t2 H2 locs2 ht2 hv2 hw2 hB2 hz2 hk2 hS2 => ?_)
  have hZ2 := zBack X ht2 hB2
  subst hw2
  obtain ⟨g3, hf⟩ := gif hf
  refine z0eq (tgt := 43) hx hb g3 d_15_139_17 (by decide) (fun h4 => ?_) (fun h4 => ?_)
  · replace hf := gpos hf h4
    exact b_M_within_43 X hf hZ2 hS2 (lv_sub hl [0] rfl)
  · replace hf := gneg hf h4
    refine lv_lload hx hb d_15_139_20 (lv_at hl 0 rfl) ?_
    refine lv_iload_n hx hb d_15_139_22 rfl (lv_at hl 4 rfl) ?_
    obtain ⟨g5, hf⟩ := gif hf
    refine zi2l hx hb g5 d_15_139_23 ?_
    obtain ⟨g6, hf⟩ := gif hf
    obtain ⟨g7, hf⟩ := gif hf
    refine zcmp_r hx hb g6 g7 d_15_139_24 ?_
    refine z0lt (tgt := 36) hx hb zcmp_32 d_15_139_25 (by decide) (fun h8 => ?_) (fun h8 => ?_)
    · replace hf := gpos hf h8
      exact b_M_within_36 X hf hZ2 hS2 (lv_sub hl [0, 1, 2] rfl)
    · replace hf := gneg hf h8
      refine lv_lload hx hb d_15_139_28 (lv_at hl 0 rfl) ?_
      refine lv_iload_n hx hb d_15_139_30 rfl (lv_at hl 5 rfl) ?_
      obtain ⟨g9, hf⟩ := gif hf
      refine zi2l hx hb g9 d_15_139_31 ?_
      obtain ⟨g10, hf⟩ := gif hf
      refine zcmp_r hx hb g6 g10 d_15_139_32 ?_
      refine z0le (tgt := 43) hx hb zcmp_32 d_15_139_33 (by decide) (fun h11 => ?_) (fun h11 => ?_)
      · replace hf := gpos hf h11
        exact b_M_within_43 X hf hZ2 hS2 (lv_sub hl [0] rfl)
      · replace hf := gneg hf h11
        exact b_M_within_36 X hf hZ2 hS2 (lv_sub hl [0, 1, 2] rfl)

abbrev Q_M_seven (D : va_G) (ca : Nat → ClassId) (ad : Nat → Int → Nat → Nat) (L : List Nat) (r : Int) (F : zF) (B : zB) (A : Nat → Prop) : Array Value → State → Outcome → State → Prop := va_Qi (S := Unit) (fun p _ => p = iI r) (fun _ => zPo D ca ad lnM nM L F B A) A
def f_M_seven_73 (K : Nat) (l1 : Int) (F : zF) (B : zB) : zO := some (l1, F, B)
set_option maxHeartbeats 4000000 in
set_option maxRecDepth 100000 in
theorem b_M_seven_73 {D : va_G} {ca : Nat → ClassId} {ad : Nat → Int → Nat → Nat} {L : List Nat} {aS vS : Nat → Nat} {A : Nat → Prop} {p : Program} {l : Launch} {e : Env} {s : State} {m : MethodId} {args : Array Value} {below : List Frame} {meth : Method} {c : Code} {K : Nat} {r : Int} {F9 : zF} {B9 : zB} (X : zX D ca L aS vS A p s m args meth c prog_15_method_144_code 4 (Option.some Jvm.ClassFile.FieldType.int) "StaveHouseModel") {l1 : Int} {F : zF} {B : zB} {H : Heap} {locs : List Loc} {ls : Array Slot} (hf : f_M_seven_73 K l1 F B = some (r, F9, B9)) (hZ : zH D ca ad lnM nM L F B A H) (hS : va_S A s.heap H locs) (hl : lv_has ls 4 [(1, .int (iI l1))]) : W p l e ({ frames := 2, cells := 0, slots := 0, locals := 42 } : Room) s m args below meth c H locs 0 0 (MQ below (Q_M_seven D ca ad L r F9 B9 A) args s 0 0 A) (F0 m 73 ls []) := by
  obtain ⟨hx, hb, hr, hml, hown, hts, hlk, hK, hA, hL, hX⟩ := id X
  replace hf : (some (l1, F, B)) = some (r, F9, B9) := hf
  refine lv_iload_n hx hb d_15_144_73 rfl (lv_at hl 0 rfl) ?_
  cases hf
  exact W.iret hx hb hr (fun t ht hW => ⟨⟨_, (), rfl, rfl, by rw [ht]; exact hZ, va_K.moved hW.alike hK⟩, hS.F ht⟩) hS.2.2 d_15_144_74 hlk

def f_M_seven_48 (K : Nat) (l2 : Int) (l1 : Int) (F : zF) (B : zB) : zO := zbind (f_M_good K F B) (fun r9 F9 B9 => if r32 r9 then (if r9 = 0 then f_M_seven_73 K l1 F9 B9 else if r32 l2 then (if l2 < 128 then f_M_seven_73 K l1 F9 B9 else zbind (f_M_failByte K 1 ((F9 14 0 89) - 1) F9 B9) (fun r14 F14 B14 => f_M_seven_73 K l1 F14 B14)) else none) else none)
set_option maxHeartbeats 4000000 in
set_option maxRecDepth 100000 in
theorem b_M_seven_48 {D : va_G} {ca : Nat → ClassId} {ad : Nat → Int → Nat → Nat} {L : List Nat} {aS vS : Nat → Nat} {A : Nat → Prop} {p : Program} {l : Launch} {e : Env} {s : State} {m : MethodId} {args : Array Value} {below : List Frame} {meth : Method} {c : Code} {K : Nat} {r : Int} {F9 : zF} {B9 : zB} (X : zX D ca L aS vS A p s m args meth c prog_15_method_144_code 4 (Option.some Jvm.ClassFile.FieldType.int) "StaveHouseModel") {l2 : Int} {l1 : Int} {F : zF} {B : zB} {H : Heap} {locs : List Loc} {ls : Array Slot} (hf : f_M_seven_48 K l2 l1 F B = some (r, F9, B9)) (hZ : zH D ca ad lnM nM L F B A H) (hS : va_S A s.heap H locs) (hl : lv_has ls 4 [(2, .int (iI l2)), (1, .int (iI l1)), (0, .ref (ad 14 0 0))]) : W p l e ({ frames := 2, cells := 0, slots := 0, locals := 42 } : Room) s m args below meth c H locs 0 0 (MQ below (Q_M_seven D ca ad L r F9 B9 A) args s 0 0 A) (F0 m 48 ls []) := by
  obtain ⟨hx, hb, hr, hml, hown, hts, hlk, hK, hA, hL, hX⟩ := id X
  replace hf : (zbind (f_M_good K F B) (fun r9 F9 B9 => if r32 r9 then (if r9 = 0 then f_M_seven_73 K l1 F9 B9 else if r32 l2 then (if l2 < 128 then f_M_seven_73 K l1 F9 B9 else zbind (f_M_failByte K 1 ((F9 14 0 89) - 1) F9 B9) (fun r14 F14 B14 => f_M_seven_73 K l1 F14 B14)) else none) else none)) = some (r, F9, B9) := hf
  refine lv_aload_n hx hb d_15_144_48 rfl (lv_at hl 2 rfl) ?_
  obtain ⟨r9, F9, B9, hc9, hf⟩ := gbind hf
  refine va_calli (va_runV (As := []) (rest := []) ⟨hx, hb, hml, hown, hts⟩ (c_M_good (l := l) hc9) (cwV 0 hts (gdV k_13_15 k_13_17 ks_152 k_1_9 k_13_18) rfl rfl rfl (by decide +kernel) ⟨Nat.le_of_ble_eq_true rfl, Nat.le_of_ble_eq_true rfl⟩) (zPV X hZ hS (ci := 14) (by decide) (by decide) (r := (RX14, TX14, 107)) rfl []) rfl rfl hl.1 rfl (lv_room (Nat.le_of_ble_eq_true rfl)) d_15_144_49 ⟨Nat.le_of_ble_eq_true rfl, Nat.le_of_ble_eq_true rfl⟩) hS (fun q _ h => zAin X hS q h) (zAin X hS) (fun p9 u9 t9 H9 locs9 ht9 hv9 hw9 hB9 hz9 hk9 hS9 => ?_)
  have hZ9 := zBack X ht9 hB9
  subst hw9
  obtain ⟨g10, hf⟩ := gif hf
  refine z0eq (tgt := 73) hx hb g10 d_15_144_52 (by decide) (fun h11 => ?_) (fun h11 => ?_)
  · replace hf := gpos hf h11
    exact b_M_seven_73 X hf hZ9 hS9 (lv_sub hl [1] rfl)
  · replace hf := gneg hf h11
    refine lv_iload_n hx hb d_15_144_55 rfl (lv_at hl 0 rfl) ?_
    refine lv_sipush (v := iI 128) hx hb d_15_144_56 (by decide) ?_
    obtain ⟨g12, hf⟩ := gif hf
    refine zlt (tgt := 73) hx hb g12 (by decide) d_15_144_59 (by decide) (fun h13 => ?_) (fun h13 => ?_)
    · replace hf := gpos hf h13
      exact b_M_seven_73 X hf hZ9 hS9 (lv_sub hl [1] rfl)
    · replace hf := gneg hf h13
      refine lv_aload_n hx hb d_15_144_62 rfl (lv_at hl 2 rfl) ?_
      refine lv_iconst (v := iI 1) hx hb d_15_144_63 rfl ?_
      refine lv_aload_n hx hb d_15_144_64 rfl (lv_at hl 2 rfl) ?_
      refine zget (ci := 14) (C := RX14) (T := TX14) (v := .int (iI (F9 14 0 89))) (k := 89) hx hb hts inW_14 hown hK hZ9 (by decide) (by decide) rfl (by decide) k_11_87 rfl d_15_144_65 ?_
      refine lv_iconst (v := iI 1) hx hb d_15_144_68 rfl ?_
      refine zsub hx hb d_15_144_69 ?_
      obtain ⟨r14, F14, B14, hc14, hf⟩ := gbind hf
      refine va_callv (va_runV (As := [.int (iI 1), .int (iI ((F9 14 0 89) - 1))]) (rest := []) ⟨hx, hb, hml, hown, hts⟩ (c_M_failByte (l := l) hc14) (cwV 2 hts (gdV k_13_19 k_13_21 ks_153 k_1_9 k_13_22) rfl rfl rfl (by decide +kernel) ⟨Nat.le_of_ble_eq_true rfl, Nat.le_of_ble_eq_true rfl⟩) (zPV X hZ9 hS9 (ci := 14) (by decide) (by decide) (r := (RX14, TX14, 107)) rfl [.int (iI 1), .int (iI ((F9 14 0 89) - 1))]) rfl rfl hl.1 rfl (lv_room (Nat.le_of_ble_eq_true rfl)) d_15_144_70 ⟨Nat.le_of_ble_eq_true rfl, Nat.le_of_ble_eq_true rfl⟩) hS9 (fun q _ h => zAin X hS9 q h) (zAin X hS9) (fun u14 t14 H14 locs14 ht14 hv14 hw14 hB14 hz14 hk14 hS14 => ?_)
      have hZ14 := zBack X ht14 hB14
      exact b_M_seven_73 X hf hZ14 hS14 (lv_sub hl [1] rfl)

def f_M_seven_8 (K : Nat) : Nat → Int → Int → Int → zF → zB → zO
  | 0, _, _, _, _, _ => none
  | n + 1, l3, l2, l1, F, B => if r32 l3 then (if 4 ≤ l3 then f_M_seven_48 K l2 l1 F B else zbind (f_M_good K F B) (fun r3 F3 B3 => if r32 r3 then (if r3 = 0 then f_M_seven_48 K l2 l1 F3 B3 else if r32 l2 then (if l2 < 128 then f_M_seven_48 K l2 l1 F3 B3 else zbind (f_M_next K F3 B3) (fun r8 F8 B8 => f_M_seven_8 K n (l3 + 1) r8 (zor (zshl l1 7) (zand r8 127)) F8 B8)) else none) else none)) else none
set_option maxHeartbeats 4000000 in
set_option maxRecDepth 100000 in
theorem b_M_seven_8 {D : va_G} {ca : Nat → ClassId} {ad : Nat → Int → Nat → Nat} {L : List Nat} {aS vS : Nat → Nat} {A : Nat → Prop} {p : Program} {l : Launch} {e : Env} {s : State} {m : MethodId} {args : Array Value} {below : List Frame} {meth : Method} {c : Code} {K : Nat} {r : Int} {F9 : zF} {B9 : zB} (X : zX D ca L aS vS A p s m args meth c prog_15_method_144_code 4 (Option.some Jvm.ClassFile.FieldType.int) "StaveHouseModel") : ∀ {n : Nat} {l3 : Int} {l2 : Int} {l1 : Int} {F : zF} {B : zB} {H : Heap} {locs : List Loc} {ls : Array Slot}, f_M_seven_8 K n l3 l2 l1 F B = some (r, F9, B9) → zH D ca ad lnM nM L F B A H → va_S A s.heap H locs → lv_has ls 4 [(3, .int (iI l3)), (2, .int (iI l2)), (1, .int (iI l1)), (0, .ref (ad 14 0 0))] → W p l e ({ frames := 2, cells := 0, slots := 0, locals := 42 } : Room) s m args below meth c H locs 0 0 (MQ below (Q_M_seven D ca ad L r F9 B9 A) args s 0 0 A) (F0 m 8 ls []) := by
  obtain ⟨hx, hb, hr, hml, hown, hts, hlk, hK, hA, hL, hX⟩ := id X
  intro n
  induction n with
  | zero =>
    intros
    rename_i hf _ _ _
    cases hf
  | succ n ih =>
    intro l3 l2 l1 F B H locs ls hf hZ hS hl
    replace hf : (if r32 l3 then (if 4 ≤ l3 then f_M_seven_48 K l2 l1 F B else zbind (f_M_good K F B) (fun r3 F3 B3 => if r32 r3 then (if r3 = 0 then f_M_seven_48 K l2 l1 F3 B3 else if r32 l2 then (if l2 < 128 then f_M_seven_48 K l2 l1 F3 B3 else zbind (f_M_next K F3 B3) (fun r8 F8 B8 => f_M_seven_8 K n (l3 + 1) r8 (zor (zshl l1 7) (zand r8 127)) F8 B8)) else none) else none)) else none) = some (r, F9, B9) := hf
    refine lv_iload_n hx hb d_15_144_8 rfl (lv_at hl 0 rfl) ?_
    refine lv_iconst (v := iI 4) hx hb d_15_144_9 rfl ?_
    obtain ⟨g1, hf⟩ := gif hf
    refine zge (tgt := 48) hx hb g1 (by decide) d_15_144_10 (by decide) (fun h2 => ?_) (fun h2 => ?_)
    · replace hf := gpos hf h2
      exact b_M_seven_48 X hf hZ hS (lv_sub hl [1, 2, 3] rfl)
    · replace hf := gneg hf h2
      refine lv_aload_n hx hb d_15_144_13 rfl (lv_at hl 3 rfl) ?_
      obtain ⟨r3, F3, B3, hc3, hf⟩ := gbind hf
      refine va_calli (va_runV (As := []) (rest := []) ⟨hx, hb, hml, hown, hts⟩ (c_M_good (l := l) hc3) (cwV 0 hts (gdV k_13_15 k_13_17 ks_152 k_1_9 k_13_18) rfl rfl rfl (by decide +kernel) ⟨Nat.le_of_ble_eq_true rfl, Nat.le_of_ble_eq_true rfl⟩) (zPV X hZ hS (ci := 14) (by decide) (by decide) (r := (RX14, TX14, 107)) rfl []) rfl rfl hl.1 rfl (lv_room (Nat.le_of_ble_eq_true rfl)) d_15_144_14 ⟨Nat.le_of_ble_eq_true rfl, Nat.le_of_ble_eq_true rfl⟩) hS (fun q _ h => zAin X hS q h) (zAin X hS) (fun p3 u3 t3 H3 locs3 ht3 hv3 hw3 hB3 hz3 hk3 hS3 => ?_)
      have hZ3 := zBack X ht3 hB3
      subst hw3
      obtain ⟨g4, hf⟩ := gif hf
      refine z0eq (tgt := 48) hx hb g4 d_15_144_17 (by decide) (fun h5 => ?_) (fun h5 => ?_)
      · replace hf := gpos hf h5
        exact b_M_seven_48 X hf hZ3 hS3 (lv_sub hl [1, 2, 3] rfl)
      · replace hf := gneg hf h5
        refine lv_iload_n hx hb d_15_144_20 rfl (lv_at hl 1 rfl) ?_
        refine lv_sipush (v := iI 128) hx hb d_15_144_21 (by decide) ?_
        obtain ⟨g6, hf⟩ := gif hf
        refine zlt (tgt := 48) hx hb g6 (by decide) d_15_144_24 (by decide) (fun h7 => ?_) (fun h7 => ?_)
        · replace hf := gpos hf h7
          exact b_M_seven_48 X hf hZ3 hS3 (lv_sub hl [1, 2, 3] rfl)
        · replace hf := gneg hf h7
          refine lv_aload_n hx hb d_15_144_27 rfl (lv_at hl 3 rfl) ?_
          obtain ⟨r8, F8, B8, hc8, hf⟩ := gbind hf
          refine va_calli (va_runV (As := []) (rest := []) ⟨hx, hb, hml, hown, hts⟩ (c_M_next (l := l) hc8) (cwV 0 hts (gdV k_13_11 k_13_13 ks_151 k_1_9 k_13_14) rfl rfl rfl (by decide +kernel) ⟨Nat.le_of_ble_eq_true rfl, Nat.le_of_ble_eq_true rfl⟩) (zPV X hZ3 hS3 (ci := 14) (by decide) (by decide) (r := (RX14, TX14, 107)) rfl []) rfl rfl hl.1 rfl (lv_room (Nat.le_of_ble_eq_true rfl)) d_15_144_28 ⟨Nat.le_of_ble_eq_true rfl, Nat.le_of_ble_eq_true rfl⟩) hS3 (fun q _ h => zAin X hS3 q h) (zAin X hS3) (fun p8 u8 t8 H8 locs8 ht8 hv8 hw8 hB8 hz8 hk8 hS8 => ?_)
          have hZ8 := zBack X ht8 hB8
          subst hw8
          refine lv_istore_n (lv' := [(2, .int (iI r8)), (3, .int (iI l3)), (1, .int (iI l1)), (0, .ref (ad 14 0 0))]) hx hb d_15_144_31 rfl hl (by decide) rfl (fun ls hl => ?_)
          refine lv_iload_n hx hb d_15_144_32 rfl (lv_at hl 2 rfl) ?_
          refine lv_bipush (v := iI 7) hx hb d_15_144_33 (by decide) ?_
          refine zshl_r hx hb d_15_144_35 ?_
          refine lv_iload_n hx hb d_15_144_36 rfl (lv_at hl 0 rfl) ?_
          refine lv_bipush (v := iI 127) hx hb d_15_144_37 (by decide) ?_
          refine zand_r hx hb d_15_144_39 ?_
          refine zor_r hx hb d_15_144_40 ?_
          refine lv_istore_n (lv' := [(1, .int (iI (zor (zshl l1 7) (zand r8 127)))), (2, .int (iI r8)), (3, .int (iI l3)), (0, .ref (ad 14 0 0))]) hx hb d_15_144_41 rfl hl (by decide) rfl (fun ls hl => ?_)
          refine lv_iinc (v := iI (l3 + 1)) (lv' := [(3, .int (iI (l3 + 1))), (1, .int (iI (zor (zshl l1 7) (zand r8 127)))), (2, .int (iI r8)), (0, .ref (ad 14 0 0))]) hx hb d_15_144_42 hl (k := 2) rfl (iI_add _ 1) (by decide) rfl (fun ls hl => ?_)
          refine lv_goto (tgt := 8) hx hb d_15_144_45 (by decide) ?_
          exact ih hf hZ8 hS8 (lv_sub hl [0, 2, 1, 3] rfl)

def f_M_seven (K : Nat)  (F : zF) (B : zB) : zO := f_M_seven_8 K K 0 128 0 F B
set_option maxHeartbeats 4000000 in
set_option maxRecDepth 100000 in
theorem c_M_seven {l : Launch} {D : va_G} {ca : Nat → ClassId} {ad : Nat → Int → Nat → Nat} {L : List Nat} {aS vS : Nat → Nat} {sz K : Nat}  {F F9 : zF} {B B9 : zB} {r : Int} (hf : f_M_seven K  F B = some (r, F9, B9)) : Met l ({ cls := "StaveHouseModel", name := "seven", desc := "()I" } : Jvm.MethodName) (Cond.code ({ cls := "StaveHouseModel", name := "seven", desc := "()I" } : Jvm.MethodName) prog_15_method_144_code 4 (Option.some Jvm.ClassFile.FieldType.int) :: wAll) ({ frames := 2, cells := 0, slots := 0, locals := 42 } : Room) (va_Pc [.ref (ad 14 0 0)] (zPre D ca ad lnM nM L aS vS F B sz)) (Q_M_seven D ca ad L r F9 B9 (zA L sz)) 0 0 (zA L sz) := by
  refine zMet (Qc := Q_M_seven D ca ad L r F9 B9) (lv := [(0, .ref (ad 14 0 0))]) (by decide) (Nat.le_of_ble_eq_true rfl) rfl (fun A p e s m below meth c ls X hZ hS hl => ?_)
  obtain ⟨hx, hb, hr, hml, hown, hts, hlk, hK, hA, hL, hX⟩ := id X
  replace hf : (f_M_seven_8 K K 0 128 0 F B) = some (r, F9, B9) := hf
  refine lv_iconst (v := iI 0) hx hb d_15_144_0 rfl ?_
  refine lv_istore_n (lv' := [(1, .int (iI 0)), (0, .ref (ad 14 0 0))]) hx hb d_15_144_1 rfl hl (by decide) rfl (fun ls hl => ?_)
  refine lv_sipush (v := iI 128) hx hb d_15_144_2 (by decide) ?_
  refine lv_istore_n (lv' := [(2, .int (iI 128)), (1, .int (iI 0)), (0, .ref (ad 14 0 0))]) hx hb d_15_144_5 rfl hl (by decide) rfl (fun ls hl => ?_)
  refine lv_iconst (v := iI 0) hx hb d_15_144_6 rfl ?_
  refine lv_istore_n (lv' := [(3, .int (iI 0)), (2, .int (iI 128)), (1, .int (iI 0)), (0, .ref (ad 14 0 0))]) hx hb d_15_144_7 rfl hl (by decide) rfl (fun ls hl => ?_)
  exact b_M_seven_8 X hf hZ hS (lv_sub hl [0, 1, 2, 3] rfl)

abbrev Q_M_below (D : va_G) (ca : Nat → ClassId) (ad : Nat → Int → Nat → Nat) (L : List Nat) (r : Int) (F : zF) (B : zB) (A : Nat → Prop) : Array Value → State → Outcome → State → Prop := va_Qi (S := Unit) (fun p _ => p = iI r) (fun _ => zPo D ca ad lnM nM L F B A) A
def f_M_below_30 (K : Nat) (l1 : Int) (F : zF) (B : zB) : zO := some (l1, F, B)
set_option maxHeartbeats 4000000 in
set_option maxRecDepth 100000 in
theorem b_M_below_30 {D : va_G} {ca : Nat → ClassId} {ad : Nat → Int → Nat → Nat} {L : List Nat} {aS vS : Nat → Nat} {A : Nat → Prop} {p : Program} {l : Launch} {e : Env} {s : State} {m : MethodId} {args : Array Value} {below : List Frame} {meth : Method} {c : Code} {K : Nat} {r : Int} {F9 : zF} {B9 : zB} (X : zX D ca L aS vS A p s m args meth c prog_15_method_146_code 2 (Option.some Jvm.ClassFile.FieldType.int) "StaveHouseModel") {l1 : Int} {F : zF} {B : zB} {H : Heap} {locs : List Loc} {ls : Array Slot} (hf : f_M_below_30 K l1 F B = some (r, F9, B9)) (hZ : zH D ca ad lnM nM L F B A H) (hS : va_S A s.heap H locs) (hl : lv_has ls 2 [(1, .int (iI l1))]) : W p l e ({ frames := 2, cells := 0, slots := 0, locals := 42 } : Room) s m args below meth c H locs 0 0 (MQ below (Q_M_below D ca ad L r F9 B9 A) args s 0 0 A) (F0 m 30 ls []) := by
  obtain ⟨hx, hb, hr, hml, hown, hts, hlk, hK, hA, hL, hX⟩ := id X
  replace hf : (some (l1, F, B)) = some (r, F9, B9) := hf
  refine lv_iload_n hx hb d_15_146_30 rfl (lv_at hl 0 rfl) ?_
  cases hf
  exact W.iret hx hb hr (fun t ht hW => ⟨⟨_, (), rfl, rfl, by rw [ht]; exact hZ, va_K.moved hW.alike hK⟩, hS.F ht⟩) hS.2.2 d_15_146_31 hlk

def f_M_below (K : Nat)  (F : zF) (B : zB) : zO := zbind (f_M_next K F B) (fun r1 F1 B1 => zbind (f_M_good K F1 B1) (fun r2 F2 B2 => if r32 r2 then (if r2 = 0 then f_M_below_30 K r1 F2 B2 else if r32 r1 then (if r1 < 128 then f_M_below_30 K r1 F2 B2 else zbind (f_M_failByte K 1 ((F2 14 0 89) - 1) F2 B2) (fun r7 F7 B7 => f_M_below_30 K r1 F7 B7)) else none) else none))
set_option maxHeartbeats 4000000 in
set_option maxRecDepth 100000 in
theorem c_M_below {l : Launch} {D : va_G} {ca : Nat → ClassId} {ad : Nat → Int → Nat → Nat} {L : List Nat} {aS vS : Nat → Nat} {sz K : Nat}  {F F9 : zF} {B B9 : zB} {r : Int} (hf : f_M_below K  F B = some (r, F9, B9)) : Met l ({ cls := "StaveHouseModel", name := "below", desc := "()I" } : Jvm.MethodName) (Cond.code ({ cls := "StaveHouseModel", name := "below", desc := "()I" } : Jvm.MethodName) prog_15_method_146_code 2 (Option.some Jvm.ClassFile.FieldType.int) :: wAll) ({ frames := 2, cells := 0, slots := 0, locals := 42 } : Room) (va_Pc [.ref (ad 14 0 0)] (zPre D ca ad lnM nM L aS vS F B sz)) (Q_M_below D ca ad L r F9 B9 (zA L sz)) 0 0 (zA L sz) := by
  refine zMet (Qc := Q_M_below D ca ad L r F9 B9) (lv := [(0, .ref (ad 14 0 0))]) (by decide) (Nat.le_of_ble_eq_true rfl) rfl (fun A p e s m below meth c ls X hZ hS hl => ?_)
  obtain ⟨hx, hb, hr, hml, hown, hts, hlk, hK, hA, hL, hX⟩ := id X
  replace hf : (zbind (f_M_next K F B) (fun r1 F1 B1 => zbind (f_M_good K F1 B1) (fun r2 F2 B2 => if r32 r2 then (if r2 = 0 then f_M_below_30 K r1 F2 B2 else if r32 r1 then (if r1 < 128 then f_M_below_30 K r1 F2 B2 else zbind (f_M_failByte K 1 ((F2 14 0 89) - 1) F2 B2) (fun r7 F7 B7 => f_M_below_30 K r1 F7 B7)) else none) else none))) = some (r, F9, B9) := hf
  refine lv_aload_n hx hb d_15_146_0 rfl (lv_at hl 0 rfl) ?_
  obtain ⟨r1, F1, B1, hc1, hf⟩ := gbind hf
  refine va_calli (va_runV (As := []) (rest := []) ⟨hx, hb, hml, hown, hts⟩ (c_M_next (l := l) hc1) (cwV 0 hts (gdV k_13_11 k_13_13 ks_151 k_1_9 k_13_14) rfl rfl rfl (by decide +kernel) ⟨Nat.le_of_ble_eq_true rfl, Nat.le_of_ble_eq_true rfl⟩) (zPV X hZ hS (ci := 14) (by decide) (by decide) (r := (RX14, TX14, 107)) rfl []) rfl rfl hl.1 rfl (lv_room (Nat.le_of_ble_eq_true rfl)) d_15_146_1 ⟨Nat.le_of_ble_eq_true rfl, Nat.le_of_ble_eq_true rfl⟩) hS (fun q _ h => zAin X hS q h) (zAin X hS) (fun p1 u1 t1 H1 locs1 ht1 hv1 hw1 hB1 hz1 hk1 hS1 => ?_)
  have hZ1 := zBack X ht1 hB1
  subst hw1
  refine lv_istore_n (lv' := [(1, .int (iI r1)), (0, .ref (ad 14 0 0))]) hx hb d_15_146_4 rfl hl (by decide) rfl (fun ls hl => ?_)
  refine lv_aload_n hx hb d_15_146_5 rfl (lv_at hl 1 rfl) ?_
  obtain ⟨r2, F2, B2, hc2, hf⟩ := gbind hf
  refine va_calli (va_runV (As := []) (rest := []) ⟨hx, hb, hml, hown, hts⟩ (c_M_good (l := l) hc2) (cwV 0 hts (gdV k_13_15 k_13_17 ks_152 k_1_9 k_13_18) rfl rfl rfl (by decide +kernel) ⟨Nat.le_of_ble_eq_true rfl, Nat.le_of_ble_eq_true rfl⟩) (zPV X hZ1 hS1 (ci := 14) (by decide) (by decide) (r := (RX14, TX14, 107)) rfl []) rfl rfl hl.1 rfl (lv_room (Nat.le_of_ble_eq_true rfl)) d_15_146_6 ⟨Nat.le_of_ble_eq_true rfl, Nat.le_of_ble_eq_true rfl⟩) hS1 (fun q _ h => zAin X hS1 q h) (zAin X hS1) (fun p2 u2 t2 H2 locs2 ht2 hv2 hw2 hB2 hz2 hk2 hS2 => ?_)
  have hZ2 := zBack X ht2 hB2
  subst hw2
  obtain ⟨g3, hf⟩ := gif hf
  refine z0eq (tgt := 30) hx hb g3 d_15_146_9 (by decide) (fun h4 => ?_) (fun h4 => ?_)
  · replace hf := gpos hf h4
    exact b_M_below_30 X hf hZ2 hS2 (lv_sub hl [0] rfl)
  · replace hf := gneg hf h4
    refine lv_iload_n hx hb d_15_146_12 rfl (lv_at hl 0 rfl) ?_
    refine lv_sipush (v := iI 128) hx hb d_15_146_13 (by decide) ?_
    obtain ⟨g5, hf⟩ := gif hf
    refine zlt (tgt := 30) hx hb g5 (by decide) d_15_146_16 (by decide) (fun h6 => ?_) (fun h6 => ?_)
    · replace hf := gpos hf h6
      exact b_M_below_30 X hf hZ2 hS2 (lv_sub hl [0] rfl)
    · replace hf := gneg hf h6
      refine lv_aload_n hx hb d_15_146_19 rfl (lv_at hl 1 rfl) ?_
      refine lv_iconst (v := iI 1) hx hb d_15_146_20 rfl ?_
      refine lv_aload_n hx hb d_15_146_21 rfl (lv_at hl 1 rfl) ?_
      refine zget (ci := 14) (C := RX14) (T := TX14) (v := .int (iI (F2 14 0 89))) (k := 89) hx hb hts inW_14 hown hK hZ2 (by decide) (by decide) rfl (by decide) k_11_87 rfl d_15_146_22 ?_
      refine lv_iconst (v := iI 1) hx hb d_15_146_25 rfl ?_
      refine zsub hx hb d_15_146_26 ?_
      obtain ⟨r7, F7, B7, hc7, hf⟩ := gbind hf
      refine va_callv (va_runV (As := [.int (iI 1), .int (iI ((F2 14 0 89) - 1))]) (rest := []) ⟨hx, hb, hml, hown, hts⟩ (c_M_failByte (l := l) hc7) (cwV 2 hts (gdV k_13_19 k_13_21 ks_153 k_1_9 k_13_22) rfl rfl rfl (by decide +kernel) ⟨Nat.le_of_ble_eq_true rfl, Nat.le_of_ble_eq_true rfl⟩) (zPV X hZ2 hS2 (ci := 14) (by decide) (by decide) (r := (RX14, TX14, 107)) rfl [.int (iI 1), .int (iI ((F2 14 0 89) - 1))]) rfl rfl hl.1 rfl (lv_room (Nat.le_of_ble_eq_true rfl)) d_15_146_27 ⟨Nat.le_of_ble_eq_true rfl, Nat.le_of_ble_eq_true rfl⟩) hS2 (fun q _ h => zAin X hS2 q h) (zAin X hS2) (fun u7 t7 H7 locs7 ht7 hv7 hw7 hB7 hz7 hk7 hS7 => ?_)
      have hZ7 := zBack X ht7 hB7
      exact b_M_below_30 X hf hZ7 hS7 (lv_sub hl [0] rfl)

abbrev Q_M_spell (D : va_G) (ca : Nat → ClassId) (ad : Nat → Int → Nat → Nat) (L : List Nat) (r : Int) (F : zF) (B : zB) (A : Nat → Prop) : Array Value → State → Outcome → State → Prop := va_Qv (S := Unit) (fun _ => True) (fun _ => zPo D ca ad lnM nM L F B A) A
def f_M_spell_248 (rec53 : Int → Int → Int → Int → Int → zF → zB → zO) (K : Nat) (l6 : Int) (l5 : Int) (l4 : Int) (l1 : Int) (l2 : Int) (F : zF) (B : zB) : zO := rec53 (l6 + 1) l5 l4 l1 l2 F B
set_option maxHeartbeats 4000000 in
set_option maxRecDepth 100000 in
theorem b_M_spell_248 {D : va_G} {ca : Nat → ClassId} {ad : Nat → Int → Nat → Nat} {L : List Nat} {aS vS : Nat → Nat} {A : Nat → Prop} {p : Program} {l : Launch} {e : Env} {s : State} {m : MethodId} {args : Array Value} {below : List Frame} {meth : Method} {c : Code} {K : Nat} {r : Int} {F9 : zF} {B9 : zB} (X : zX D ca L aS vS A p s m args meth c prog_15_method_157_code 10 (Option.none : Option Jvm.ClassFile.FieldType) "StaveHouseModel") {rec53 : Int → Int → Int → Int → Int → zF → zB → zO} (hrec53 : ∀ {l6 : Int} {l5 : Int} {l4 : Int} {l1 : Int} {l2 : Int} {F : zF} {B : zB} {H : Heap} {locs : List Loc} {ls : Array Slot}, rec53 l6 l5 l4 l1 l2 F B = some (r, F9, B9) → zH D ca ad lnM nM L F B A H → va_S A s.heap H locs → lv_has ls 10 [(6, .int (iI l6)), (5, .int (iI l5)), (4, .int (iI l4)), (0, .ref (ad 14 0 0)), (1, .int (iI l1)), (2, .int (iI l2))] → W p l e ({ frames := 2, cells := 0, slots := 0, locals := 43 } : Room) s m args below meth c H locs 0 0 (MQ below (Q_M_spell D ca ad L r F9 B9 A) args s 0 0 A) (F0 m 53 ls [])) {l6 : Int} {l5 : Int} {l4 : Int} {l1 : Int} {l2 : Int} {F : zF} {B : zB} {H : Heap} {locs : List Loc} {ls : Array Slot} (hf : f_M_spell_248 rec53 K l6 l5 l4 l1 l2 F B = some (r, F9, B9)) (hZ : zH D ca ad lnM nM L F B A H) (hS : va_S A s.heap H locs) (hl : lv_has ls 10 [(6, .int (iI l6)), (5, .int (iI l5)), (4, .int (iI l4)), (0, .ref (ad 14 0 0)), (1, .int (iI l1)), (2, .int (iI l2))]) : W p l e ({ frames := 2, cells := 0, slots := 0, locals := 43 } : Room) s m args below meth c H locs 0 0 (MQ below (Q_M_spell D ca ad L r F9 B9 A) args s 0 0 A) (F0 m 248 ls []) := by
  obtain ⟨hx, hb, hr, hml, hown, hts, hlk, hK, hA, hL, hX⟩ := id X
  replace hf : (rec53 (l6 + 1) l5 l4 l1 l2 F B) = some (r, F9, B9) := hf
  refine lv_iinc (v := iI (l6 + 1)) (lv' := [(6, .int (iI (l6 + 1))), (5, .int (iI l5)), (4, .int (iI l4)), (0, .ref (ad 14 0 0)), (1, .int (iI l1)), (2, .int (iI l2))]) hx hb d_15_157_248 hl (k := 0) rfl (iI_add _ 1) (by decide) rfl (fun ls hl => ?_)
  refine lv_goto (tgt := 53) hx hb d_15_157_251 (by decide) ?_
  exact hrec53 hf hZ hS (lv_sub hl [0, 1, 2, 3, 4, 5] rfl)

def f_M_spell_211 (rec53 : Int → Int → Int → Int → Int → zF → zB → zO) (K : Nat) (l8 : Int) (l7 : Int) (l6 : Int) (l5 : Int) (l4 : Int) (l1 : Int) (l2 : Int) (F : zF) (B : zB) : zO := if 0 ≤ (F 14 0 6) ∧ (F 14 0 6) < 3 then if 0 ≤ l8 ∧ l8 < 24000 then if 0 ≤ l1 ∧ l1 < 4000 then f_M_spell_248 rec53 K l6 l5 l4 l1 l2 F (zup4 (zup4 (zup4 B 13 (F 14 0 6) 28 l8 l7) 13 (F 14 0 6) 29 l8 l5) 13 (F 14 0 6) 21 l1 (((zup4 (zup4 B 13 (F 14 0 6) 28 l8 l7) 13 (F 14 0 6) 29 l8 l5) 13 (F 14 0 6) 21 l1) + 1)) else none else none else none
set_option maxHeartbeats 4000000 in
set_option maxRecDepth 100000 in
theorem b_M_spell_211 {D : va_G} {ca : Nat → ClassId} {ad : Nat → Int → Nat → Nat} {L : List Nat} {aS vS : Nat → Nat} {A : Nat → Prop} {p : Program} {l : Launch} {e : Env} {s : State} {m : MethodId} {args : Array Value} {below : List Frame} {meth : Method} {c : Code} {K : Nat} {r : Int} {F9 : zF} {B9 : zB} (X : zX D ca L aS vS A p s m args meth c prog_15_method_157_code 10 (Option.none : Option Jvm.ClassFile.FieldType) "StaveHouseModel") {rec53 : Int → Int → Int → Int → Int → zF → zB → zO} (hrec53 : ∀ {l6 : Int} {l5 : Int} {l4 : Int} {l1 : Int} {l2 : Int} {F : zF} {B : zB} {H : Heap} {locs : List Loc} {ls : Array Slot}, rec53 l6 l5 l4 l1 l2 F B = some (r, F9, B9) → zH D ca ad lnM nM L F B A H → va_S A s.heap H locs → lv_has ls 10 [(6, .int (iI l6)), (5, .int (iI l5)), (4, .int (iI l4)), (0, .ref (ad 14 0 0)), (1, .int (iI l1)), (2, .int (iI l2))] → W p l e ({ frames := 2, cells := 0, slots := 0, locals := 43 } : Room) s m args below meth c H locs 0 0 (MQ below (Q_M_spell D ca ad L r F9 B9 A) args s 0 0 A) (F0 m 53 ls [])) {l8 : Int} {l7 : Int} {l6 : Int} {l5 : Int} {l4 : Int} {l1 : Int} {l2 : Int} {F : zF} {B : zB} {H : Heap} {locs : List Loc} {ls : Array Slot} (hf : f_M_spell_211 rec53 K l8 l7 l6 l5 l4 l1 l2 F B = some (r, F9, B9)) (hZ : zH D ca ad lnM nM L F B A H) (hS : va_S A s.heap H locs) (hl : lv_has ls 10 [(8, .int (iI l8)), (7, .int (iI l7)), (6, .int (iI l6)), (5, .int (iI l5)), (4, .int (iI l4)), (0, .ref (ad 14 0 0)), (1, .int (iI l1)), (2, .int (iI l2))]) : W p l e ({ frames := 2, cells := 0, slots := 0, locals := 43 } : Room) s m args below meth c H locs 0 0 (MQ below (Q_M_spell D ca ad L r F9 B9 A) args s 0 0 A) (F0 m 211 ls []) := by
  obtain ⟨hx, hb, hr, hml, hown, hts, hlk, hK, hA, hL, hX⟩ := id X
  replace hf : (if 0 ≤ (F 14 0 6) ∧ (F 14 0 6) < 3 then if 0 ≤ l8 ∧ l8 < 24000 then if 0 ≤ l1 ∧ l1 < 4000 then f_M_spell_248 rec53 K l6 l5 l4 l1 l2 F (zup4 (zup4 (zup4 B 13 (F 14 0 6) 28 l8 l7) 13 (F 14 0 6) 29 l8 l5) 13 (F 14 0 6) 21 l1 (((zup4 (zup4 B 13 (F 14 0 6) 28 l8 l7) 13 (F 14 0 6) 29 l8 l5) 13 (F 14 0 6) 21 l1) + 1)) else none else none else none) = some (r, F9, B9) := hf
  refine lv_aload_n hx hb d_15_157_211 rfl (lv_at hl 5 rfl) ?_
  refine zget (ci := 14) (C := RX14) (T := TX14) (v := va_rf (zrf ad 13 (F 14 0 6))) (k := 6) hx hb hts inW_14 hown hK hZ (by decide) (by decide) rfl (by decide) k_11_4 rfl d_15_157_212 ?_
  obtain ⟨g34, hf⟩ := gif hf
  refine zunrf g34.1 ?_
  refine zget (ci := 13) (C := RX13) (T := TX13) (v := .ref (ad 13 (F 14 0 6) (28 + 1))) (k := 28) hx hb hts inW_13 hown hK hZ g34.1 g34.2 rfl (by decide) k_9_174 rfl d_15_157_215 ?_
  refine lv_iload hx hb d_15_157_218 (lv_at hl 0 rfl) ?_
  refine lv_iload hx hb d_15_157_220 (lv_at hl 1 rfl) ?_
  obtain ⟨g35, hf⟩ := gif hf
  refine zast (ci := 13) (k := 28) hx hb hK rfl hZ hS g34.1 g34.2 rfl (Nat.le_of_ble_eq_true rfl) g35.1 g35.2 d_15_157_222 (fun H36 locs36 hZ36 hS36 => ?_)
  refine lv_aload_n hx hb d_15_157_223 rfl (lv_at hl 5 rfl) ?_
  refine zget (ci := 14) (C := RX14) (T := TX14) (v := va_rf (zrf ad 13 (F 14 0 6))) (k := 6) hx hb hts inW_14 hown hK hZ36 (by decide) (by decide) rfl (by decide) k_11_4 rfl d_15_157_224 ?_
  refine zunrf g34.1 ?_
  refine zget (ci := 13) (C := RX13) (T := TX13) (v := .ref (ad 13 (F 14 0 6) (29 + 1))) (k := 29) hx hb hts inW_13 hown hK hZ36 g34.1 g34.2 rfl (by decide) k_9_176 rfl d_15_157_227 ?_
  refine lv_iload hx hb d_15_157_230 (lv_at hl 0 rfl) ?_
  refine lv_iload hx hb d_15_157_232 (lv_at hl 3 rfl) ?_
  refine zast (ci := 13) (k := 29) hx hb hK rfl hZ36 hS36 g34.1 g34.2 rfl (Nat.le_of_ble_eq_true rfl) g35.1 g35.2 d_15_157_234 (fun H37 locs37 hZ37 hS37 => ?_)
  refine lv_aload_n hx hb d_15_157_235 rfl (lv_at hl 5 rfl) ?_
  refine zget (ci := 14) (C := RX14) (T := TX14) (v := va_rf (zrf ad 13 (F 14 0 6))) (k := 6) hx hb hts inW_14 hown hK hZ37 (by decide) (by decide) rfl (by decide) k_11_4 rfl d_15_157_236 ?_
  refine zunrf g34.1 ?_
  refine zget (ci := 13) (C := RX13) (T := TX13) (v := .ref (ad 13 (F 14 0 6) (21 + 1))) (k := 21) hx hb hts inW_13 hown hK hZ37 g34.1 g34.2 rfl (by decide) k_9_160 rfl d_15_157_239 ?_
  refine lv_iload_n hx hb d_15_157_242 rfl (lv_at hl 6 rfl) ?_
  refine lv_dup2_11 hx hb d_15_157_243 rfl rfl ?_
  obtain ⟨g38, hf⟩ := gif hf
  refine zald (ci := 13) (k := 21) hx hb hK rfl hZ37 g34.1 g34.2 rfl (Nat.le_of_ble_eq_true rfl) g38.1 g38.2 d_15_157_244 ?_
  refine lv_iconst (v := iI 1) hx hb d_15_157_245 rfl ?_
  refine zadd hx hb d_15_157_246 ?_
  refine zast (ci := 13) (k := 21) hx hb hK rfl hZ37 hS37 g34.1 g34.2 rfl (Nat.le_of_ble_eq_true rfl) g38.1 g38.2 d_15_157_247 (fun H39 locs39 hZ39 hS39 => ?_)
  exact b_M_spell_248 X hrec53 hf hZ39 hS39 (lv_sub hl [2, 3, 4, 5, 6, 7] rfl)

def f_M_spell_135 (rec53 : Int → Int → Int → Int → Int → zF → zB → zO) (K : Nat) : Nat → Int → Int → Int → Int → Int → Int → Int → zF → zB → zO
  | 0, _, _, _, _, _, _, _, _, _ => none
  | n + 1, l8, l7, l6, l5, l4, l1, l2, F, B => if r32 l8 then if r32 (6 * l1) then (if l8 ≤ (6 * l1) then f_M_spell_211 rec53 K l8 l7 l6 l5 l4 l1 l2 F B else if 0 ≤ (F 14 0 6) ∧ (F 14 0 6) < 3 then if 0 ≤ (l8 - 1) ∧ (l8 - 1) < 24000 then if r32 (B 13 (F 14 0 6) 28 (l8 - 1)) then if r32 l7 then (if (B 13 (F 14 0 6) 28 (l8 - 1)) ≤ l7 then f_M_spell_211 rec53 K l8 l7 l6 l5 l4 l1 l2 F B else if 0 ≤ l8 ∧ l8 < 24000 then f_M_spell_135 rec53 K n (l8 - 1) l7 l6 l5 l4 l1 l2 F (zup4 (zup4 B 13 (F 14 0 6) 28 l8 (B 13 (F 14 0 6) 28 (l8 - 1))) 13 (F 14 0 6) 29 l8 ((zup4 B 13 (F 14 0 6) 28 l8 (B 13 (F 14 0 6) 28 (l8 - 1))) 13 (F 14 0 6) 29 (l8 - 1))) else none) else none else none else none else none) else none else none
set_option maxHeartbeats 4000000 in
set_option maxRecDepth 100000 in
theorem b_M_spell_135 {D : va_G} {ca : Nat → ClassId} {ad : Nat → Int → Nat → Nat} {L : List Nat} {aS vS : Nat → Nat} {A : Nat → Prop} {p : Program} {l : Launch} {e : Env} {s : State} {m : MethodId} {args : Array Value} {below : List Frame} {meth : Method} {c : Code} {K : Nat} {r : Int} {F9 : zF} {B9 : zB} (X : zX D ca L aS vS A p s m args meth c prog_15_method_157_code 10 (Option.none : Option Jvm.ClassFile.FieldType) "StaveHouseModel") {rec53 : Int → Int → Int → Int → Int → zF → zB → zO} (hrec53 : ∀ {l6 : Int} {l5 : Int} {l4 : Int} {l1 : Int} {l2 : Int} {F : zF} {B : zB} {H : Heap} {locs : List Loc} {ls : Array Slot}, rec53 l6 l5 l4 l1 l2 F B = some (r, F9, B9) → zH D ca ad lnM nM L F B A H → va_S A s.heap H locs → lv_has ls 10 [(6, .int (iI l6)), (5, .int (iI l5)), (4, .int (iI l4)), (0, .ref (ad 14 0 0)), (1, .int (iI l1)), (2, .int (iI l2))] → W p l e ({ frames := 2, cells := 0, slots := 0, locals := 43 } : Room) s m args below meth c H locs 0 0 (MQ below (Q_M_spell D ca ad L r F9 B9 A) args s 0 0 A) (F0 m 53 ls [])) : ∀ {n : Nat} {l8 : Int} {l7 : Int} {l6 : Int} {l5 : Int} {l4 : Int} {l1 : Int} {l2 : Int} {F : zF} {B : zB} {H : Heap} {locs : List Loc} {ls : Array Slot}, f_M_spell_135 rec53 K n l8 l7 l6 l5 l4 l1 l2 F B = some (r, F9, B9) → zH D ca ad lnM nM L F B A H → va_S A s.heap H locs → lv_has ls 10 [(8, .int (iI l8)), (7, .int (iI l7)), (6, .int (iI l6)), (5, .int (iI l5)), (4, .int (iI l4)), (0, .ref (ad 14 0 0)), (1, .int (iI l1)), (2, .int (iI l2))] → W p l e ({ frames := 2, cells := 0, slots := 0, locals := 43 } : Room) s m args below meth c H locs 0 0 (MQ below (Q_M_spell D ca ad L r F9 B9 A) args s 0 0 A) (F0 m 135 ls []) := by
  obtain ⟨hx, hb, hr, hml, hown, hts, hlk, hK, hA, hL, hX⟩ := id X
  intro n
  induction n with
  | zero =>
    intros
    rename_i hf _ _ _
    cases hf
  | succ n ih =>
    intro l8 l7 l6 l5 l4 l1 l2 F B H locs ls hf hZ hS hl
    replace hf : (if r32 l8 then if r32 (6 * l1) then (if l8 ≤ (6 * l1) then f_M_spell_211 rec53 K l8 l7 l6 l5 l4 l1 l2 F B else if 0 ≤ (F 14 0 6) ∧ (F 14 0 6) < 3 then if 0 ≤ (l8 - 1) ∧ (l8 - 1) < 24000 then if r32 (B 13 (F 14 0 6) 28 (l8 - 1)) then if r32 l7 then (if (B 13 (F 14 0 6) 28 (l8 - 1)) ≤ l7 then f_M_spell_211 rec53 K l8 l7 l6 l5 l4 l1 l2 F B else if 0 ≤ l8 ∧ l8 < 24000 then f_M_spell_135 rec53 K n (l8 - 1) l7 l6 l5 l4 l1 l2 F (zup4 (zup4 B 13 (F 14 0 6) 28 l8 (B 13 (F 14 0 6) 28 (l8 - 1))) 13 (F 14 0 6) 29 l8 ((zup4 B 13 (F 14 0 6) 28 l8 (B 13 (F 14 0 6) 28 (l8 - 1))) 13 (F 14 0 6) 29 (l8 - 1))) else none) else none else none else none else none) else none else none) = some (r, F9, B9) := hf
    refine lv_iload hx hb d_15_157_135 (lv_at hl 0 rfl) ?_
    refine lv_bipush (v := iI 6) hx hb d_15_157_137 (by decide) ?_
    refine lv_iload_n hx hb d_15_157_139 rfl (lv_at hl 6 rfl) ?_
    refine zmul hx hb d_15_157_140 ?_
    obtain ⟨g23, hf⟩ := gif hf
    obtain ⟨g24, hf⟩ := gif hf
    refine zle (tgt := 211) hx hb g23 g24 d_15_157_141 (by decide) (fun h25 => ?_) (fun h25 => ?_)
    · replace hf := gpos hf h25
      exact b_M_spell_211 X hrec53 hf hZ hS (lv_sub hl [0, 1, 2, 3, 4, 5, 6, 7] rfl)
    · replace hf := gneg hf h25
      refine lv_aload_n hx hb d_15_157_144 rfl (lv_at hl 5 rfl) ?_
      refine zget (ci := 14) (C := RX14) (T := TX14) (v := va_rf (zrf ad 13 (F 14 0 6))) (k := 6) hx hb hts inW_14 hown hK hZ (by decide) (by decide) rfl (by decide) k_11_4 rfl d_15_157_145 ?_
      obtain ⟨g26, hf⟩ := gif hf
      refine zunrf g26.1 ?_
      refine zget (ci := 13) (C := RX13) (T := TX13) (v := .ref (ad 13 (F 14 0 6) (28 + 1))) (k := 28) hx hb hts inW_13 hown hK hZ g26.1 g26.2 rfl (by decide) k_9_174 rfl d_15_157_148 ?_
      refine lv_iload hx hb d_15_157_151 (lv_at hl 0 rfl) ?_
      refine lv_iconst (v := iI 1) hx hb d_15_157_153 rfl ?_
      refine zsub hx hb d_15_157_154 ?_
      obtain ⟨g27, hf⟩ := gif hf
      refine zald (ci := 13) (k := 28) hx hb hK rfl hZ g26.1 g26.2 rfl (Nat.le_of_ble_eq_true rfl) g27.1 g27.2 d_15_157_155 ?_
      refine lv_iload hx hb d_15_157_156 (lv_at hl 1 rfl) ?_
      obtain ⟨g28, hf⟩ := gif hf
      obtain ⟨g29, hf⟩ := gif hf
      refine zle (tgt := 211) hx hb g28 g29 d_15_157_158 (by decide) (fun h30 => ?_) (fun h30 => ?_)
      · replace hf := gpos hf h30
        exact b_M_spell_211 X hrec53 hf hZ hS (lv_sub hl [0, 1, 2, 3, 4, 5, 6, 7] rfl)
      · replace hf := gneg hf h30
        refine lv_aload_n hx hb d_15_157_161 rfl (lv_at hl 5 rfl) ?_
        refine zget (ci := 14) (C := RX14) (T := TX14) (v := va_rf (zrf ad 13 (F 14 0 6))) (k := 6) hx hb hts inW_14 hown hK hZ (by decide) (by decide) rfl (by decide) k_11_4 rfl d_15_157_162 ?_
        refine zunrf g26.1 ?_
        refine zget (ci := 13) (C := RX13) (T := TX13) (v := .ref (ad 13 (F 14 0 6) (28 + 1))) (k := 28) hx hb hts inW_13 hown hK hZ g26.1 g26.2 rfl (by decide) k_9_174 rfl d_15_157_165 ?_
        refine lv_iload hx hb d_15_157_168 (lv_at hl 0 rfl) ?_
        refine lv_aload_n hx hb d_15_157_170 rfl (lv_at hl 5 rfl) ?_
        refine zget (ci := 14) (C := RX14) (T := TX14) (v := va_rf (zrf ad 13 (F 14 0 6))) (k := 6) hx hb hts inW_14 hown hK hZ (by decide) (by decide) rfl (by decide) k_11_4 rfl d_15_157_171 ?_
        refine zunrf g26.1 ?_
        refine zget (ci := 13) (C := RX13) (T := TX13) (v := .ref (ad 13 (F 14 0 6) (28 + 1))) (k := 28) hx hb hts inW_13 hown hK hZ g26.1 g26.2 rfl (by decide) k_9_174 rfl d_15_157_174 ?_
        refine lv_iload hx hb d_15_157_177 (lv_at hl 0 rfl) ?_
        refine lv_iconst (v := iI 1) hx hb d_15_157_179 rfl ?_
        refine zsub hx hb d_15_157_180 ?_
        refine zald (ci := 13) (k := 28) hx hb hK rfl hZ g26.1 g26.2 rfl (Nat.le_of_ble_eq_true rfl) g27.1 g27.2 d_15_157_181 ?_
        obtain ⟨g31, hf⟩ := gif hf
        refine zast (ci := 13) (k := 28) hx hb hK rfl hZ hS g26.1 g26.2 rfl (Nat.le_of_ble_eq_true rfl) g31.1 g31.2 d_15_157_182 (fun H32 locs32 hZ32 hS32 => ?_)
        refine lv_aload_n hx hb d_15_157_183 rfl (lv_at hl 5 rfl) ?_
        refine zget (ci := 14) (C := RX14) (T := TX14) (v := va_rf (zrf ad 13 (F 14 0 6))) (k := 6) hx hb hts inW_14 hown hK hZ32 (by decide) (by decide) rfl (by decide) k_11_4 rfl d_15_157_184 ?_
        refine zunrf g26.1 ?_
        refine zget (ci := 13) (C := RX13) (T := TX13) (v := .ref (ad 13 (F 14 0 6) (29 + 1))) (k := 29) hx hb hts inW_13 hown hK hZ32 g26.1 g26.2 rfl (by decide) k_9_176 rfl d_15_157_187 ?_
        refine lv_iload hx hb d_15_157_190 (lv_at hl 0 rfl) ?_
        refine lv_aload_n hx hb d_15_157_192 rfl (lv_at hl 5 rfl) ?_
        refine zget (ci := 14) (C := RX14) (T := TX14) (v := va_rf (zrf ad 13 (F 14 0 6))) (k := 6) hx hb hts inW_14 hown hK hZ32 (by decide) (by decide) rfl (by decide) k_11_4 rfl d_15_157_193 ?_
        refine zunrf g26.1 ?_
        refine zget (ci := 13) (C := RX13) (T := TX13) (v := .ref (ad 13 (F 14 0 6) (29 + 1))) (k := 29) hx hb hts inW_13 hown hK hZ32 g26.1 g26.2 rfl (by decide) k_9_176 rfl d_15_157_196 ?_
        refine lv_iload hx hb d_15_157_199 (lv_at hl 0 rfl) ?_
        refine lv_iconst (v := iI 1) hx hb d_15_157_201 rfl ?_
        refine zsub hx hb d_15_157_202 ?_
        refine zald (ci := 13) (k := 29) hx hb hK rfl hZ32 g26.1 g26.2 rfl (Nat.le_of_ble_eq_true rfl) g27.1 g27.2 d_15_157_203 ?_
        refine zast (ci := 13) (k := 29) hx hb hK rfl hZ32 hS32 g26.1 g26.2 rfl (Nat.le_of_ble_eq_true rfl) g31.1 g31.2 d_15_157_204 (fun H33 locs33 hZ33 hS33 => ?_)
        refine lv_iinc (v := iI (l8 - 1)) (lv' := [(8, .int (iI (l8 - 1))), (7, .int (iI l7)), (6, .int (iI l6)), (5, .int (iI l5)), (4, .int (iI l4)), (0, .ref (ad 14 0 0)), (1, .int (iI l1)), (2, .int (iI l2))]) hx hb d_15_157_205 hl (k := 0) rfl (by rw [show Int32.ofInt (-1) = iI (-1) from rfl, iI_add]; congr 1) (by decide) rfl (fun ls hl => ?_)
        refine lv_goto (tgt := 135) hx hb d_15_157_208 (by decide) ?_
        exact ih hf hZ33 hS33 (lv_sub hl [0, 1, 2, 3, 4, 5, 6, 7] rfl)

def f_M_spell_106 (rec53 : Int → Int → Int → Int → Int → zF → zB → zO) (K : Nat) : Nat → Int → Int → Int → Int → Int → Int → Int → Int → zF → zB → zO
  | 0, _, _, _, _, _, _, _, _, _, _ => none
  | n + 1, l9, l8, l7, l6, l5, l4, l1, l2, F, B => if r32 l9 then if r32 l8 then (if l8 ≤ l9 then f_M_spell_135 rec53 K K l8 l7 l6 l5 l4 l1 l2 F B else if 0 ≤ (F 14 0 6) ∧ (F 14 0 6) < 3 then if 0 ≤ l9 ∧ l9 < 24000 then if r32 (B 13 (F 14 0 6) 28 l9) then if r32 l7 then (if (B 13 (F 14 0 6) 28 l9) = l7 then some (0, F, B) else f_M_spell_106 rec53 K n (l9 + 1) l8 l7 l6 l5 l4 l1 l2 F B) else none else none else none else none) else none else none
set_option maxHeartbeats 4000000 in
set_option maxRecDepth 100000 in
theorem b_M_spell_106 {D : va_G} {ca : Nat → ClassId} {ad : Nat → Int → Nat → Nat} {L : List Nat} {aS vS : Nat → Nat} {A : Nat → Prop} {p : Program} {l : Launch} {e : Env} {s : State} {m : MethodId} {args : Array Value} {below : List Frame} {meth : Method} {c : Code} {K : Nat} {r : Int} {F9 : zF} {B9 : zB} (X : zX D ca L aS vS A p s m args meth c prog_15_method_157_code 10 (Option.none : Option Jvm.ClassFile.FieldType) "StaveHouseModel") {rec53 : Int → Int → Int → Int → Int → zF → zB → zO} (hrec53 : ∀ {l6 : Int} {l5 : Int} {l4 : Int} {l1 : Int} {l2 : Int} {F : zF} {B : zB} {H : Heap} {locs : List Loc} {ls : Array Slot}, rec53 l6 l5 l4 l1 l2 F B = some (r, F9, B9) → zH D ca ad lnM nM L F B A H → va_S A s.heap H locs → lv_has ls 10 [(6, .int (iI l6)), (5, .int (iI l5)), (4, .int (iI l4)), (0, .ref (ad 14 0 0)), (1, .int (iI l1)), (2, .int (iI l2))] → W p l e ({ frames := 2, cells := 0, slots := 0, locals := 43 } : Room) s m args below meth c H locs 0 0 (MQ below (Q_M_spell D ca ad L r F9 B9 A) args s 0 0 A) (F0 m 53 ls [])) : ∀ {n : Nat} {l9 : Int} {l8 : Int} {l7 : Int} {l6 : Int} {l5 : Int} {l4 : Int} {l1 : Int} {l2 : Int} {F : zF} {B : zB} {H : Heap} {locs : List Loc} {ls : Array Slot}, f_M_spell_106 rec53 K n l9 l8 l7 l6 l5 l4 l1 l2 F B = some (r, F9, B9) → zH D ca ad lnM nM L F B A H → va_S A s.heap H locs → lv_has ls 10 [(9, .int (iI l9)), (8, .int (iI l8)), (7, .int (iI l7)), (6, .int (iI l6)), (5, .int (iI l5)), (4, .int (iI l4)), (0, .ref (ad 14 0 0)), (1, .int (iI l1)), (2, .int (iI l2))] → W p l e ({ frames := 2, cells := 0, slots := 0, locals := 43 } : Room) s m args below meth c H locs 0 0 (MQ below (Q_M_spell D ca ad L r F9 B9 A) args s 0 0 A) (F0 m 106 ls []) := by
  obtain ⟨hx, hb, hr, hml, hown, hts, hlk, hK, hA, hL, hX⟩ := id X
  intro n
  induction n with
  | zero =>
    intros
    rename_i hf _ _ _
    cases hf
  | succ n ih =>
    intro l9 l8 l7 l6 l5 l4 l1 l2 F B H locs ls hf hZ hS hl
    replace hf : (if r32 l9 then if r32 l8 then (if l8 ≤ l9 then f_M_spell_135 rec53 K K l8 l7 l6 l5 l4 l1 l2 F B else if 0 ≤ (F 14 0 6) ∧ (F 14 0 6) < 3 then if 0 ≤ l9 ∧ l9 < 24000 then if r32 (B 13 (F 14 0 6) 28 l9) then if r32 l7 then (if (B 13 (F 14 0 6) 28 l9) = l7 then some (0, F, B) else f_M_spell_106 rec53 K n (l9 + 1) l8 l7 l6 l5 l4 l1 l2 F B) else none else none else none else none) else none else none) = some (r, F9, B9) := hf
    refine lv_iload hx hb d_15_157_106 (lv_at hl 0 rfl) ?_
    refine lv_iload hx hb d_15_157_108 (lv_at hl 1 rfl) ?_
    obtain ⟨g15, hf⟩ := gif hf
    obtain ⟨g16, hf⟩ := gif hf
    refine zge (tgt := 135) hx hb g15 g16 d_15_157_110 (by decide) (fun h17 => ?_) (fun h17 => ?_)
    · replace hf := gpos hf h17
      exact b_M_spell_135 X hrec53 hf hZ hS (lv_sub hl [1, 2, 3, 4, 5, 6, 7, 8] rfl)
    · replace hf := gneg hf h17
      refine lv_aload_n hx hb d_15_157_113 rfl (lv_at hl 6 rfl) ?_
      refine zget (ci := 14) (C := RX14) (T := TX14) (v := va_rf (zrf ad 13 (F 14 0 6))) (k := 6) hx hb hts inW_14 hown hK hZ (by decide) (by decide) rfl (by decide) k_11_4 rfl d_15_157_114 ?_
      obtain ⟨g18, hf⟩ := gif hf
      refine zunrf g18.1 ?_
      refine zget (ci := 13) (C := RX13) (T := TX13) (v := .ref (ad 13 (F 14 0 6) (28 + 1))) (k := 28) hx hb hts inW_13 hown hK hZ g18.1 g18.2 rfl (by decide) k_9_174 rfl d_15_157_117 ?_
      refine lv_iload hx hb d_15_157_120 (lv_at hl 0 rfl) ?_
      obtain ⟨g19, hf⟩ := gif hf
      refine zald (ci := 13) (k := 28) hx hb hK rfl hZ g18.1 g18.2 rfl (Nat.le_of_ble_eq_true rfl) g19.1 g19.2 d_15_157_122 ?_
      refine lv_iload hx hb d_15_157_123 (lv_at hl 2 rfl) ?_
      obtain ⟨g20, hf⟩ := gif hf
      obtain ⟨g21, hf⟩ := gif hf
      refine zne (tgt := 129) hx hb g20 g21 d_15_157_125 (by decide) (fun h22 => ?_) (fun h22 => ?_)
      · replace hf := gneg hf h22
        refine lv_iinc (v := iI (l9 + 1)) (lv' := [(9, .int (iI (l9 + 1))), (8, .int (iI l8)), (7, .int (iI l7)), (6, .int (iI l6)), (5, .int (iI l5)), (4, .int (iI l4)), (0, .ref (ad 14 0 0)), (1, .int (iI l1)), (2, .int (iI l2))]) hx hb d_15_157_129 hl (k := 0) rfl (iI_add _ 1) (by decide) rfl (fun ls hl => ?_)
        refine lv_goto (tgt := 106) hx hb d_15_157_132 (by decide) ?_
        exact ih hf hZ hS (lv_sub hl [0, 1, 2, 3, 4, 5, 6, 7, 8] rfl)
      · replace hf := gpos hf h22
        cases hf
        exact W.vret hx hb hr (fun t ht hW => ⟨⟨(), rfl, trivial, by rw [ht]; exact hZ, va_K.moved hW.alike hK⟩, hS.F ht⟩) hS.2.2 d_15_157_128 hlk

def f_M_spell_53 (K : Nat) : Nat → Int → Int → Int → Int → Int → zF → zB → zO
  | 0, _, _, _, _, _, _, _ => none
  | n + 1, l6, l5, l4, l1, l2, F, B => if r32 l6 then (if 9 ≤ l6 then some (0, F, B) else zbind (f_M_tone K ((7 * l6) + l4) l5 F B) (fun r9 F9 B9 => if r32 r9 then if r32 l2 then (if r9 = l2 then if 0 ≤ (F9 14 0 6) ∧ (F9 14 0 6) < 3 then if 0 ≤ l1 ∧ l1 < 4000 then f_M_spell_106 (f_M_spell_53 K n) K K (6 * l1) ((6 * l1) + (B9 13 (F9 14 0 6) 21 l1)) ((7 * l6) + l4) l6 l5 l4 l1 l2 F9 B9 else none else none else f_M_spell_248 (f_M_spell_53 K n) K l6 l5 l4 l1 l2 F9 B9) else none else none)) else none
set_option maxHeartbeats 4000000 in
set_option maxRecDepth 100000 in
theorem b_M_spell_53 {D : va_G} {ca : Nat → ClassId} {ad : Nat → Int → Nat → Nat} {L : List Nat} {aS vS : Nat → Nat} {A : Nat → Prop} {p : Program} {l : Launch} {e : Env} {s : State} {m : MethodId} {args : Array Value} {below : List Frame} {meth : Method} {c : Code} {K : Nat} {r : Int} {F9 : zF} {B9 : zB} (X : zX D ca L aS vS A p s m args meth c prog_15_method_157_code 10 (Option.none : Option Jvm.ClassFile.FieldType) "StaveHouseModel") : ∀ {n : Nat} {l6 : Int} {l5 : Int} {l4 : Int} {l1 : Int} {l2 : Int} {F : zF} {B : zB} {H : Heap} {locs : List Loc} {ls : Array Slot}, f_M_spell_53 K n l6 l5 l4 l1 l2 F B = some (r, F9, B9) → zH D ca ad lnM nM L F B A H → va_S A s.heap H locs → lv_has ls 10 [(6, .int (iI l6)), (5, .int (iI l5)), (4, .int (iI l4)), (0, .ref (ad 14 0 0)), (1, .int (iI l1)), (2, .int (iI l2))] → W p l e ({ frames := 2, cells := 0, slots := 0, locals := 43 } : Room) s m args below meth c H locs 0 0 (MQ below (Q_M_spell D ca ad L r F9 B9 A) args s 0 0 A) (F0 m 53 ls []) := by
  obtain ⟨hx, hb, hr, hml, hown, hts, hlk, hK, hA, hL, hX⟩ := id X
  intro n
  induction n with
  | zero =>
    intros
    rename_i hf _ _ _
    cases hf
  | succ n ih =>
    intro l6 l5 l4 l1 l2 F B H locs ls hf hZ hS hl
    replace hf : (if r32 l6 then (if 9 ≤ l6 then some (0, F, B) else zbind (f_M_tone K ((7 * l6) + l4) l5 F B) (fun r9 F9 B9 => if r32 r9 then if r32 l2 then (if r9 = l2 then if 0 ≤ (F9 14 0 6) ∧ (F9 14 0 6) < 3 then if 0 ≤ l1 ∧ l1 < 4000 then f_M_spell_106 (f_M_spell_53 K n) K K (6 * l1) ((6 * l1) + (B9 13 (F9 14 0 6) 21 l1)) ((7 * l6) + l4) l6 l5 l4 l1 l2 F9 B9 else none else none else f_M_spell_248 (f_M_spell_53 K n) K l6 l5 l4 l1 l2 F9 B9) else none else none)) else none) = some (r, F9, B9) := hf
    refine lv_iload hx hb d_15_157_53 (lv_at hl 0 rfl) ?_
    refine lv_bipush (v := iI 9) hx hb d_15_157_55 (by decide) ?_
    obtain ⟨g7, hf⟩ := gif hf
    refine zge (tgt := 254) hx hb g7 (by decide) d_15_157_57 (by decide) (fun h8 => ?_) (fun h8 => ?_)
    · replace hf := gpos hf h8
      cases hf
      exact W.vret hx hb hr (fun t ht hW => ⟨⟨(), rfl, trivial, by rw [ht]; exact hZ, va_K.moved hW.alike hK⟩, hS.F ht⟩) hS.2.2 d_15_157_254 hlk
    · replace hf := gneg hf h8
      refine lv_bipush (v := iI 7) hx hb d_15_157_60 (by decide) ?_
      refine lv_iload hx hb d_15_157_62 (lv_at hl 0 rfl) ?_
      refine zmul hx hb d_15_157_64 ?_
      refine lv_iload hx hb d_15_157_65 (lv_at hl 2 rfl) ?_
      refine zadd hx hb d_15_157_67 ?_
      refine lv_istore (lv' := [(7, .int (iI ((7 * l6) + l4))), (6, .int (iI l6)), (5, .int (iI l5)), (4, .int (iI l4)), (0, .ref (ad 14 0 0)), (1, .int (iI l1)), (2, .int (iI l2))]) hx hb d_15_157_68 hl (by decide) rfl (fun ls hl => ?_)
      refine lv_iload hx hb d_15_157_70 (lv_at hl 0 rfl) ?_
      refine lv_iload hx hb d_15_157_72 (lv_at hl 2 rfl) ?_
      obtain ⟨r9, F9, B9, hc9, hf⟩ := gbind hf
      refine va_calli (va_runS (As := [.int (iI ((7 * l6) + l4)), .int (iI l5)]) (rest := []) ⟨hx, hb, hml, hown, hts⟩ (c_M_tone (l := l) hc9) (va_cwS 2 hts (gdS k_12_158 k_12_159 k_1_9 k_12_160) rfl rfl rfl (by decide +kernel) ⟨Nat.le_of_ble_eq_true rfl, Nat.le_of_ble_eq_true rfl⟩) (zPS X hZ hS [.int (iI ((7 * l6) + l4)), .int (iI l5)]) rfl rfl hl.1 rfl (lv_room (Nat.le_of_ble_eq_true rfl)) d_15_157_74 ⟨Nat.le_of_ble_eq_true rfl, Nat.le_of_ble_eq_true rfl⟩) hS (fun q _ h => zAin X hS q h) (zAin X hS) (fun p9 u9 t9 H9 locs9 ht9 hv9 hw9 hB9 hz9 hk9 hS9 => ?_)
      have hZ9 := zBack X ht9 hB9
      subst hw9
      refine lv_iload_n hx hb d_15_157_77 rfl (lv_at hl 6 rfl) ?_
      obtain ⟨g10, hf⟩ := gif hf
      obtain ⟨g11, hf⟩ := gif hf
      refine zeq (tgt := 84) hx hb g10 g11 d_15_157_78 (by decide) (fun h12 => ?_) (fun h12 => ?_)
      · replace hf := gpos hf h12
        refine lv_bipush (v := iI 6) hx hb d_15_157_84 (by decide) ?_
        refine lv_iload_n hx hb d_15_157_86 rfl (lv_at hl 5 rfl) ?_
        refine zmul hx hb d_15_157_87 ?_
        refine lv_aload_n hx hb d_15_157_88 rfl (lv_at hl 4 rfl) ?_
        refine zget (ci := 14) (C := RX14) (T := TX14) (v := va_rf (zrf ad 13 (F9 14 0 6))) (k := 6) hx hb hts inW_14 hown hK hZ9 (by decide) (by decide) rfl (by decide) k_11_4 rfl d_15_157_89 ?_
        obtain ⟨g13, hf⟩ := gif hf
        refine zunrf g13.1 ?_
        refine zget (ci := 13) (C := RX13) (T := TX13) (v := .ref (ad 13 (F9 14 0 6) (21 + 1))) (k := 21) hx hb hts inW_13 hown hK hZ9 g13.1 g13.2 rfl (by decide) k_9_160 rfl d_15_157_92 ?_
        refine lv_iload_n hx hb d_15_157_95 rfl (lv_at hl 5 rfl) ?_
        obtain ⟨g14, hf⟩ := gif hf
        refine zald (ci := 13) (k := 21) hx hb hK rfl hZ9 g13.1 g13.2 rfl (Nat.le_of_ble_eq_true rfl) g14.1 g14.2 d_15_157_96 ?_
        refine zadd hx hb d_15_157_97 ?_
        refine lv_istore (lv' := [(8, .int (iI ((6 * l1) + (B9 13 (F9 14 0 6) 21 l1)))), (7, .int (iI ((7 * l6) + l4))), (6, .int (iI l6)), (5, .int (iI l5)), (4, .int (iI l4)), (0, .ref (ad 14 0 0)), (1, .int (iI l1)), (2, .int (iI l2))]) hx hb d_15_157_98 hl (by decide) rfl (fun ls hl => ?_)
        refine lv_bipush (v := iI 6) hx hb d_15_157_100 (by decide) ?_
        refine lv_iload_n hx hb d_15_157_102 rfl (lv_at hl 6 rfl) ?_
        refine zmul hx hb d_15_157_103 ?_
        refine lv_istore (lv' := [(9, .int (iI (6 * l1))), (8, .int (iI ((6 * l1) + (B9 13 (F9 14 0 6) 21 l1)))), (7, .int (iI ((7 * l6) + l4))), (6, .int (iI l6)), (5, .int (iI l5)), (4, .int (iI l4)), (0, .ref (ad 14 0 0)), (1, .int (iI l1)), (2, .int (iI l2))]) hx hb d_15_157_104 hl (by decide) rfl (fun ls hl => ?_)
        exact b_M_spell_106 X ih hf hZ9 hS9 (lv_sub hl [0, 1, 2, 3, 4, 5, 6, 7, 8] rfl)
      · replace hf := gneg hf h12
        refine lv_goto (tgt := 248) hx hb d_15_157_81 (by decide) ?_
        exact b_M_spell_248 X ih hf hZ9 hS9 (lv_sub hl [1, 2, 3, 4, 5, 6] rfl)

def f_M_spell_10 (K : Nat) : Nat → Int → Int → Int → zF → zB → zO
  | 0, _, _, _, _, _ => none
  | n + 1, l3, l1, l2, F, B => zbind (f_M_mod K ((7 * l3) - l2) 12 F B) (fun r2 F2 B2 => if r32 r2 then (if r2 = 0 then zbind (f_M_mod K (4 * l3) 7 F2 B2) (fun r5 F5 B5 => zbind (f_M_floor K (l3 + 1) 7 F5 B5) (fun r6 F6 B6 => f_M_spell_53 K K 0 r6 r5 l1 l2 F6 B6)) else f_M_spell_10 K n (l3 + 1) l1 l2 F2 B2) else none)
set_option maxHeartbeats 4000000 in
set_option maxRecDepth 100000 in
theorem b_M_spell_10 {D : va_G} {ca : Nat → ClassId} {ad : Nat → Int → Nat → Nat} {L : List Nat} {aS vS : Nat → Nat} {A : Nat → Prop} {p : Program} {l : Launch} {e : Env} {s : State} {m : MethodId} {args : Array Value} {below : List Frame} {meth : Method} {c : Code} {K : Nat} {r : Int} {F9 : zF} {B9 : zB} (X : zX D ca L aS vS A p s m args meth c prog_15_method_157_code 10 (Option.none : Option Jvm.ClassFile.FieldType) "StaveHouseModel") : ∀ {n : Nat} {l3 : Int} {l1 : Int} {l2 : Int} {F : zF} {B : zB} {H : Heap} {locs : List Loc} {ls : Array Slot}, f_M_spell_10 K n l3 l1 l2 F B = some (r, F9, B9) → zH D ca ad lnM nM L F B A H → va_S A s.heap H locs → lv_has ls 10 [(3, .int (iI l3)), (0, .ref (ad 14 0 0)), (1, .int (iI l1)), (2, .int (iI l2))] → W p l e ({ frames := 2, cells := 0, slots := 0, locals := 43 } : Room) s m args below meth c H locs 0 0 (MQ below (Q_M_spell D ca ad L r F9 B9 A) args s 0 0 A) (F0 m 10 ls []) := by
  obtain ⟨hx, hb, hr, hml, hown, hts, hlk, hK, hA, hL, hX⟩ := id X
  intro n
  induction n with
  | zero =>
    intros
    rename_i hf _ _ _
    cases hf
  | succ n ih =>
    intro l3 l1 l2 F B H locs ls hf hZ hS hl
    replace hf : (zbind (f_M_mod K ((7 * l3) - l2) 12 F B) (fun r2 F2 B2 => if r32 r2 then (if r2 = 0 then zbind (f_M_mod K (4 * l3) 7 F2 B2) (fun r5 F5 B5 => zbind (f_M_floor K (l3 + 1) 7 F5 B5) (fun r6 F6 B6 => f_M_spell_53 K K 0 r6 r5 l1 l2 F6 B6)) else f_M_spell_10 K n (l3 + 1) l1 l2 F2 B2) else none)) = some (r, F9, B9) := hf
    refine lv_bipush (v := iI 7) hx hb d_15_157_10 (by decide) ?_
    refine lv_iload_n hx hb d_15_157_12 rfl (lv_at hl 0 rfl) ?_
    refine zmul hx hb d_15_157_13 ?_
    refine lv_iload_n hx hb d_15_157_14 rfl (lv_at hl 3 rfl) ?_
    refine zsub hx hb d_15_157_15 ?_
    refine lv_bipush (v := iI 12) hx hb d_15_157_16 (by decide) ?_
    obtain ⟨r2, F2, B2, hc2, hf⟩ := gbind hf
    refine va_calli (va_runS (As := [.int (iI ((7 * l3) - l2)), .int (iI 12)]) (rest := []) ⟨hx, hb, hml, hown, hts⟩ (c_M_mod (l := l) hc2) (va_cwS 2 hts (gdS k_12_164 k_12_165 k_1_9 k_12_166) rfl rfl rfl (by decide +kernel) ⟨Nat.le_of_ble_eq_true rfl, Nat.le_of_ble_eq_true rfl⟩) (zPS X hZ hS [.int (iI ((7 * l3) - l2)), .int (iI 12)]) rfl rfl hl.1 rfl (lv_room (Nat.le_of_ble_eq_true rfl)) d_15_157_18 ⟨Nat.le_of_ble_eq_true rfl, Nat.le_of_ble_eq_true rfl⟩) hS (fun q _ h => zAin X hS q h) (zAin X hS) (fun p2 u2 t2 H2 locs2 ht2 hv2 hw2 hB2 hz2 hk2 hS2 => ?_)
    have hZ2 := zBack X ht2 hB2
    subst hw2
    obtain ⟨g3, hf⟩ := gif hf
    refine z0eq (tgt := 30) hx hb g3 d_15_157_21 (by decide) (fun h4 => ?_) (fun h4 => ?_)
    · replace hf := gpos hf h4
      refine lv_iconst (v := iI 4) hx hb d_15_157_30 rfl ?_
      refine lv_iload_n hx hb d_15_157_31 rfl (lv_at hl 0 rfl) ?_
      refine zmul hx hb d_15_157_32 ?_
      refine lv_bipush (v := iI 7) hx hb d_15_157_33 (by decide) ?_
      obtain ⟨r5, F5, B5, hc5, hf⟩ := gbind hf
      refine va_calli (va_runS (As := [.int (iI (4 * l3)), .int (iI 7)]) (rest := []) ⟨hx, hb, hml, hown, hts⟩ (c_M_mod (l := l) hc5) (va_cwS 2 hts (gdS k_12_164 k_12_165 k_1_9 k_12_166) rfl rfl rfl (by decide +kernel) ⟨Nat.le_of_ble_eq_true rfl, Nat.le_of_ble_eq_true rfl⟩) (zPS X hZ2 hS2 [.int (iI (4 * l3)), .int (iI 7)]) rfl rfl hl.1 rfl (lv_room (Nat.le_of_ble_eq_true rfl)) d_15_157_35 ⟨Nat.le_of_ble_eq_true rfl, Nat.le_of_ble_eq_true rfl⟩) hS2 (fun q _ h => zAin X hS2 q h) (zAin X hS2) (fun p5 u5 t5 H5 locs5 ht5 hv5 hw5 hB5 hz5 hk5 hS5 => ?_)
      have hZ5 := zBack X ht5 hB5
      subst hw5
      refine lv_istore (lv' := [(4, .int (iI r5)), (3, .int (iI l3)), (0, .ref (ad 14 0 0)), (1, .int (iI l1)), (2, .int (iI l2))]) hx hb d_15_157_38 hl (by decide) rfl (fun ls hl => ?_)
      refine lv_iload_n hx hb d_15_157_40 rfl (lv_at hl 1 rfl) ?_
      refine lv_iconst (v := iI 1) hx hb d_15_157_41 rfl ?_
      refine zadd hx hb d_15_157_42 ?_
      refine lv_bipush (v := iI 7) hx hb d_15_157_43 (by decide) ?_
      obtain ⟨r6, F6, B6, hc6, hf⟩ := gbind hf
      refine va_calli (va_runS (As := [.int (iI (l3 + 1)), .int (iI 7)]) (rest := []) ⟨hx, hb, hml, hown, hts⟩ (c_M_floor (l := l) hc6) (va_cwS 2 hts (gdS k_12_167 k_12_168 k_1_9 k_12_169) rfl rfl rfl (by decide +kernel) ⟨Nat.le_of_ble_eq_true rfl, Nat.le_of_ble_eq_true rfl⟩) (zPS X hZ5 hS5 [.int (iI (l3 + 1)), .int (iI 7)]) rfl rfl hl.1 rfl (lv_room (Nat.le_of_ble_eq_true rfl)) d_15_157_45 ⟨Nat.le_of_ble_eq_true rfl, Nat.le_of_ble_eq_true rfl⟩) hS5 (fun q _ h => zAin X hS5 q h) (zAin X hS5) (fun p6 u6 t6 H6 locs6 ht6 hv6 hw6 hB6 hz6 hk6 hS6 => ?_)
      have hZ6 := zBack X ht6 hB6
      subst hw6
      refine lv_istore (lv' := [(5, .int (iI r6)), (4, .int (iI r5)), (3, .int (iI l3)), (0, .ref (ad 14 0 0)), (1, .int (iI l1)), (2, .int (iI l2))]) hx hb d_15_157_48 hl (by decide) rfl (fun ls hl => ?_)
      refine lv_iconst (v := iI 0) hx hb d_15_157_50 rfl ?_
      refine lv_istore (lv' := [(6, .int (iI 0)), (5, .int (iI r6)), (4, .int (iI r5)), (3, .int (iI l3)), (0, .ref (ad 14 0 0)), (1, .int (iI l1)), (2, .int (iI l2))]) hx hb d_15_157_51 hl (by decide) rfl (fun ls hl => ?_)
      exact b_M_spell_53 X hf hZ6 hS6 (lv_sub hl [0, 1, 2, 4, 5, 6] rfl)
    · replace hf := gneg hf h4
      refine lv_iinc (v := iI (l3 + 1)) (lv' := [(3, .int (iI (l3 + 1))), (0, .ref (ad 14 0 0)), (1, .int (iI l1)), (2, .int (iI l2))]) hx hb d_15_157_24 hl (k := 0) rfl (iI_add _ 1) (by decide) rfl (fun ls hl => ?_)
      refine lv_goto (tgt := 10) hx hb d_15_157_27 (by decide) ?_
      exact ih hf hZ2 hS2 (lv_sub hl [0, 1, 2, 3] rfl)

def f_M_spell (K : Nat) (l1 : Int) (l2 : Int) (F : zF) (B : zB) : zO := if 0 ≤ (F 14 0 6) ∧ (F 14 0 6) < 3 then f_M_spell_10 K K ((F 13 (F 14 0 6) 2) - 5) l1 l2 F B else none
set_option maxHeartbeats 4000000 in
set_option maxRecDepth 100000 in
theorem c_M_spell {l : Launch} {D : va_G} {ca : Nat → ClassId} {ad : Nat → Int → Nat → Nat} {L : List Nat} {aS vS : Nat → Nat} {sz K : Nat} {l1 : Int} {l2 : Int} {F F9 : zF} {B B9 : zB} {r : Int} (hf : f_M_spell K l1 l2 F B = some (r, F9, B9)) : Met l ({ cls := "StaveHouseModel", name := "spell", desc := "(II)V" } : Jvm.MethodName) (Cond.code ({ cls := "StaveHouseModel", name := "spell", desc := "(II)V" } : Jvm.MethodName) prog_15_method_157_code 10 (Option.none : Option Jvm.ClassFile.FieldType) :: wAll) ({ frames := 2, cells := 0, slots := 0, locals := 43 } : Room) (va_Pc [.ref (ad 14 0 0), .int (iI l1), .int (iI l2)] (zPre D ca ad lnM nM L aS vS F B sz)) (Q_M_spell D ca ad L r F9 B9 (zA L sz)) 0 0 (zA L sz) := by
  refine zMet (Qc := Q_M_spell D ca ad L r F9 B9) (lv := [(0, .ref (ad 14 0 0)), (1, .int (iI l1)), (2, .int (iI l2))]) (by decide) (Nat.le_of_ble_eq_true rfl) rfl (fun A p e s m below meth c ls X hZ hS hl => ?_)
  obtain ⟨hx, hb, hr, hml, hown, hts, hlk, hK, hA, hL, hX⟩ := id X
  replace hf : (if 0 ≤ (F 14 0 6) ∧ (F 14 0 6) < 3 then f_M_spell_10 K K ((F 13 (F 14 0 6) 2) - 5) l1 l2 F B else none) = some (r, F9, B9) := hf
  refine lv_aload_n hx hb d_15_157_0 rfl (lv_at hl 0 rfl) ?_
  refine zget (ci := 14) (C := RX14) (T := TX14) (v := va_rf (zrf ad 13 (F 14 0 6))) (k := 6) hx hb hts inW_14 hown hK hZ (by decide) (by decide) rfl (by decide) k_11_4 rfl d_15_157_1 ?_
  obtain ⟨g1, hf⟩ := gif hf
  refine zunrf g1.1 ?_
  refine zget (ci := 13) (C := RX13) (T := TX13) (v := .int (iI (F 13 (F 14 0 6) 2))) (k := 2) hx hb hts inW_13 hown hK hZ g1.1 g1.2 rfl (by decide) k_9_127 rfl d_15_157_4 ?_
  refine lv_iconst (v := iI 5) hx hb d_15_157_7 rfl ?_
  refine zsub hx hb d_15_157_8 ?_
  refine lv_istore_n (lv' := [(3, .int (iI ((F 13 (F 14 0 6) 2) - 5))), (0, .ref (ad 14 0 0)), (1, .int (iI l1)), (2, .int (iI l2))]) hx hb d_15_157_9 rfl hl (by decide) rfl (fun ls hl => ?_)
  exact b_M_spell_10 X hf hZ hS (lv_sub hl [0, 1, 2, 3] rfl)

abbrev Q_M_places (D : va_G) (ca : Nat → ClassId) (ad : Nat → Int → Nat → Nat) (L : List Nat) (r : Int) (F : zF) (B : zB) (A : Nat → Prop) : Array Value → State → Outcome → State → Prop := va_Qv (S := Unit) (fun _ => True) (fun _ => zPo D ca ad lnM nM L F B A) A
def f_M_places_8 (K : Nat) : Nat → Int → Int → Int → zF → zB → zO
  | 0, _, _, _, _, _ => none
  | n + 1, l3, l1, l2, F, B => if 0 ≤ l1 ∧ l1 < 3 then if 0 ≤ l2 ∧ l2 < 4 then if r32 l3 then if r32 (B 13 l1 12 l2) then (if (B 13 l1 12 l2) ≤ l3 then some (0, F, B) else if 0 ≤ ((1000 * l2) + l3) ∧ ((1000 * l2) + l3) < 4000 then zbind (f_M_plus K (F 14 0 0) (F 14 0 1) ((zup4 (zup4 B 13 l1 14 ((1000 * l2) + l3) (F 14 0 0)) 13 l1 15 ((1000 * l2) + l3) (F 14 0 1)) 13 l1 16 ((1000 * l2) + l3)) ((zup4 (zup4 B 13 l1 14 ((1000 * l2) + l3) (F 14 0 0)) 13 l1 15 ((1000 * l2) + l3) (F 14 0 1)) 13 l1 17 ((1000 * l2) + l3)) F (zup4 (zup4 B 13 l1 14 ((1000 * l2) + l3) (F 14 0 0)) 13 l1 15 ((1000 * l2) + l3) (F 14 0 1))) (fun r10 F10 B10 => f_M_places_8 K n (l3 + 1) l1 l2 F10 B10) else none) else none else none else none else none
set_option maxHeartbeats 4000000 in
set_option maxRecDepth 100000 in
theorem b_M_places_8 {D : va_G} {ca : Nat → ClassId} {ad : Nat → Int → Nat → Nat} {L : List Nat} {aS vS : Nat → Nat} {A : Nat → Prop} {p : Program} {l : Launch} {e : Env} {s : State} {m : MethodId} {args : Array Value} {below : List Frame} {meth : Method} {c : Code} {K : Nat} {r : Int} {F9 : zF} {B9 : zB} (X : zX D ca L aS vS A p s m args meth c prog_15_method_76_code 5 (Option.none : Option Jvm.ClassFile.FieldType) "StaveHouseModel") : ∀ {n : Nat} {l3 : Int} {l1 : Int} {l2 : Int} {F : zF} {B : zB} {H : Heap} {locs : List Loc} {ls : Array Slot}, f_M_places_8 K n l3 l1 l2 F B = some (r, F9, B9) → zH D ca ad lnM nM L F B A H → va_S A s.heap H locs → lv_has ls 5 [(3, .int (iI l3)), (0, .ref (ad 14 0 0)), (1, .ref (ad 13 l1 0)), (2, .int (iI l2))] → W p l e ({ frames := 3, cells := 0, slots := 0, locals := 85 } : Room) s m args below meth c H locs 0 0 (MQ below (Q_M_places D ca ad L r F9 B9 A) args s 0 0 A) (F0 m 8 ls []) := by
  obtain ⟨hx, hb, hr, hml, hown, hts, hlk, hK, hA, hL, hX⟩ := id X
  intro n
  induction n with
  | zero =>
    intros
    rename_i hf _ _ _
    cases hf
  | succ n ih =>
    intro l3 l1 l2 F B H locs ls hf hZ hS hl
    replace hf : (if 0 ≤ l1 ∧ l1 < 3 then if 0 ≤ l2 ∧ l2 < 4 then if r32 l3 then if r32 (B 13 l1 12 l2) then (if (B 13 l1 12 l2) ≤ l3 then some (0, F, B) else if 0 ≤ ((1000 * l2) + l3) ∧ ((1000 * l2) + l3) < 4000 then zbind (f_M_plus K (F 14 0 0) (F 14 0 1) ((zup4 (zup4 B 13 l1 14 ((1000 * l2) + l3) (F 14 0 0)) 13 l1 15 ((1000 * l2) + l3) (F 14 0 1)) 13 l1 16 ((1000 * l2) + l3)) ((zup4 (zup4 B 13 l1 14 ((1000 * l2) + l3) (F 14 0 0)) 13 l1 15 ((1000 * l2) + l3) (F 14 0 1)) 13 l1 17 ((1000 * l2) + l3)) F (zup4 (zup4 B 13 l1 14 ((1000 * l2) + l3) (F 14 0 0)) 13 l1 15 ((1000 * l2) + l3) (F 14 0 1))) (fun r10 F10 B10 => f_M_places_8 K n (l3 + 1) l1 l2 F10 B10) else none) else none else none else none else none) = some (r, F9, B9) := hf
    refine lv_iload_n hx hb d_15_76_8 rfl (lv_at hl 0 rfl) ?_
    refine lv_aload_n hx hb d_15_76_9 rfl (lv_at hl 2 rfl) ?_
    obtain ⟨g2, hf⟩ := gif hf
    refine zget (ci := 13) (C := RX13) (T := TX13) (v := .ref (ad 13 l1 (12 + 1))) (k := 12) hx hb hts inW_13 hown hK hZ g2.1 g2.2 rfl (by decide) k_9_142 rfl d_15_76_10 ?_
    refine lv_iload_n hx hb d_15_76_13 rfl (lv_at hl 3 rfl) ?_
    obtain ⟨g3, hf⟩ := gif hf
    refine zald (ci := 13) (k := 12) hx hb hK rfl hZ g2.1 g2.2 rfl (Nat.le_of_ble_eq_true rfl) g3.1 g3.2 d_15_76_14 ?_
    obtain ⟨g4, hf⟩ := gif hf
    obtain ⟨g5, hf⟩ := gif hf
    refine zge (tgt := 81) hx hb g4 g5 d_15_76_15 (by decide) (fun h6 => ?_) (fun h6 => ?_)
    · replace hf := gpos hf h6
      cases hf
      exact W.vret hx hb hr (fun t ht hW => ⟨⟨(), rfl, trivial, by rw [ht]; exact hZ, va_K.moved hW.alike hK⟩, hS.F ht⟩) hS.2.2 d_15_76_81 hlk
    · replace hf := gneg hf h6
      refine lv_sipush (v := iI 1000) hx hb d_15_76_18 (by decide) ?_
      refine lv_iload_n hx hb d_15_76_21 rfl (lv_at hl 3 rfl) ?_
      refine zmul hx hb d_15_76_22 ?_
      refine lv_iload_n hx hb d_15_76_23 rfl (lv_at hl 0 rfl) ?_
      refine zadd hx hb d_15_76_24 ?_
      refine lv_istore (lv' := [(4, .int (iI ((1000 * l2) + l3))), (3, .int (iI l3)), (0, .ref (ad 14 0 0)), (1, .ref (ad 13 l1 0)), (2, .int (iI l2))]) hx hb d_15_76_25 hl (by decide) rfl (fun ls hl => ?_)
      refine lv_aload_n hx hb d_15_76_27 rfl (lv_at hl 3 rfl) ?_
      refine zget (ci := 13) (C := RX13) (T := TX13) (v := .ref (ad 13 l1 (14 + 1))) (k := 14) hx hb hts inW_13 hown hK hZ g2.1 g2.2 rfl (by decide) k_9_146 rfl d_15_76_28 ?_
      refine lv_iload hx hb d_15_76_31 (lv_at hl 0 rfl) ?_
      refine lv_aload_n hx hb d_15_76_33 rfl (lv_at hl 2 rfl) ?_
      refine zget (ci := 14) (C := RX14) (T := TX14) (v := .long (lI (F 14 0 0))) (k := 0) hx hb hts inW_14 hown hK hZ (by decide) (by decide) rfl (by decide) k_10_238 rfl d_15_76_34 ?_
      obtain ⟨g7, hf⟩ := gif hf
      refine zlast (ci := 13) (k := 14) hx hb hK rfl hZ hS g2.1 g2.2 rfl (Nat.le_of_ble_eq_true rfl) g7.1 g7.2 d_15_76_37 (fun H8 locs8 hZ8 hS8 => ?_)
      refine lv_aload_n hx hb d_15_76_38 rfl (lv_at hl 3 rfl) ?_
      refine zget (ci := 13) (C := RX13) (T := TX13) (v := .ref (ad 13 l1 (15 + 1))) (k := 15) hx hb hts inW_13 hown hK hZ8 g2.1 g2.2 rfl (by decide) k_9_148 rfl d_15_76_39 ?_
      refine lv_iload hx hb d_15_76_42 (lv_at hl 0 rfl) ?_
      refine lv_aload_n hx hb d_15_76_44 rfl (lv_at hl 2 rfl) ?_
      refine zget (ci := 14) (C := RX14) (T := TX14) (v := .long (lI (F 14 0 1))) (k := 1) hx hb hts inW_14 hown hK hZ8 (by decide) (by decide) rfl (by decide) k_10_239 rfl d_15_76_45 ?_
      refine zlast (ci := 13) (k := 15) hx hb hK rfl hZ8 hS8 g2.1 g2.2 rfl (Nat.le_of_ble_eq_true rfl) g7.1 g7.2 d_15_76_48 (fun H9 locs9 hZ9 hS9 => ?_)
      refine lv_aload_n hx hb d_15_76_49 rfl (lv_at hl 2 rfl) ?_
      refine lv_aload_n hx hb d_15_76_50 rfl (lv_at hl 2 rfl) ?_
      refine zget (ci := 14) (C := RX14) (T := TX14) (v := .long (lI (F 14 0 0))) (k := 0) hx hb hts inW_14 hown hK hZ9 (by decide) (by decide) rfl (by decide) k_10_238 rfl d_15_76_51 ?_
      refine lv_aload_n hx hb d_15_76_54 rfl (lv_at hl 2 rfl) ?_
      refine zget (ci := 14) (C := RX14) (T := TX14) (v := .long (lI (F 14 0 1))) (k := 1) hx hb hts inW_14 hown hK hZ9 (by decide) (by decide) rfl (by decide) k_10_239 rfl d_15_76_55 ?_
      refine lv_aload_n hx hb d_15_76_58 rfl (lv_at hl 3 rfl) ?_
      refine zget (ci := 13) (C := RX13) (T := TX13) (v := .ref (ad 13 l1 (16 + 1))) (k := 16) hx hb hts inW_13 hown hK hZ9 g2.1 g2.2 rfl (by decide) k_9_150 rfl d_15_76_59 ?_
      refine lv_iload hx hb d_15_76_62 (lv_at hl 0 rfl) ?_
      refine zlald (ci := 13) (k := 16) hx hb hK rfl hZ9 g2.1 g2.2 rfl (Nat.le_of_ble_eq_true rfl) g7.1 g7.2 d_15_76_64 ?_
      refine lv_aload_n hx hb d_15_76_65 rfl (lv_at hl 3 rfl) ?_
      refine zget (ci := 13) (C := RX13) (T := TX13) (v := .ref (ad 13 l1 (17 + 1))) (k := 17) hx hb hts inW_13 hown hK hZ9 g2.1 g2.2 rfl (by decide) k_9_152 rfl d_15_76_66 ?_
      refine lv_iload hx hb d_15_76_69 (lv_at hl 0 rfl) ?_
      refine zlald (ci := 13) (k := 17) hx hb hK rfl hZ9 g2.1 g2.2 rfl (Nat.le_of_ble_eq_true rfl) g7.1 g7.2 d_15_76_71 ?_
      obtain ⟨r10, F10, B10, hc10, hf⟩ := gbind hf
      refine va_callv (va_runV (As := [.long (lI (F 14 0 0)), .long (lI (F 14 0 1)), .long (lI ((zup4 (zup4 B 13 l1 14 ((1000 * l2) + l3) (F 14 0 0)) 13 l1 15 ((1000 * l2) + l3) (F 14 0 1)) 13 l1 16 ((1000 * l2) + l3))), .long (lI ((zup4 (zup4 B 13 l1 14 ((1000 * l2) + l3) (F 14 0 0)) 13 l1 15 ((1000 * l2) + l3) (F 14 0 1)) 13 l1 17 ((1000 * l2) + l3)))]) (rest := []) ⟨hx, hb, hml, hown, hts⟩ (c_M_plus (l := l) hc10) (cwV 4 hts (gdV k_12_147 k_12_149 ks_135 k_1_9 k_12_150) rfl rfl rfl (by decide +kernel) ⟨Nat.le_of_ble_eq_true rfl, Nat.le_of_ble_eq_true rfl⟩) (zPV X hZ9 hS9 (ci := 14) (by decide) (by decide) (r := (RX14, TX14, 107)) rfl [.long (lI (F 14 0 0)), .long (lI (F 14 0 1)), .long (lI ((zup4 (zup4 B 13 l1 14 ((1000 * l2) + l3) (F 14 0 0)) 13 l1 15 ((1000 * l2) + l3) (F 14 0 1)) 13 l1 16 ((1000 * l2) + l3))), .long (lI ((zup4 (zup4 B 13 l1 14 ((1000 * l2) + l3) (F 14 0 0)) 13 l1 15 ((1000 * l2) + l3) (F 14 0 1)) 13 l1 17 ((1000 * l2) + l3)))]) rfl rfl hl.1 rfl (lv_room (Nat.le_of_ble_eq_true rfl)) d_15_76_72 ⟨Nat.le_of_ble_eq_true rfl, Nat.le_of_ble_eq_true rfl⟩) hS9 (fun q _ h => zAin X hS9 q h) (zAin X hS9) (fun u10 t10 H10 locs10 ht10 hv10 hw10 hB10 hz10 hk10 hS10 => ?_)
      have hZ10 := zBack X ht10 hB10
      refine lv_iinc (v := iI (l3 + 1)) (lv' := [(3, .int (iI (l3 + 1))), (4, .int (iI ((1000 * l2) + l3))), (0, .ref (ad 14 0 0)), (1, .ref (ad 13 l1 0)), (2, .int (iI l2))]) hx hb d_15_76_75 hl (k := 1) rfl (iI_add _ 1) (by decide) rfl (fun ls hl => ?_)
      refine lv_goto (tgt := 8) hx hb d_15_76_78 (by decide) ?_
      exact ih hf hZ10 hS10 (lv_sub hl [0, 2, 3, 4] rfl)

def f_M_places (K : Nat) (l1 : Int) (l2 : Int) (F : zF) (B : zB) : zO := zbind (f_M_is K 0 1 F B) (fun r1 F1 B1 => f_M_places_8 K K 0 l1 l2 F1 B1)
set_option maxHeartbeats 4000000 in
set_option maxRecDepth 100000 in
theorem c_M_places {l : Launch} {D : va_G} {ca : Nat → ClassId} {ad : Nat → Int → Nat → Nat} {L : List Nat} {aS vS : Nat → Nat} {sz K : Nat} {l1 : Int} {l2 : Int} {F F9 : zF} {B B9 : zB} {r : Int} (hf : f_M_places K l1 l2 F B = some (r, F9, B9)) : Met l ({ cls := "StaveHouseModel", name := "places", desc := "(LStaveHouseModel$Piece;I)V" } : Jvm.MethodName) (Cond.code ({ cls := "StaveHouseModel", name := "places", desc := "(LStaveHouseModel$Piece;I)V" } : Jvm.MethodName) prog_15_method_76_code 5 (Option.none : Option Jvm.ClassFile.FieldType) :: wAll) ({ frames := 3, cells := 0, slots := 0, locals := 85 } : Room) (va_Pc [.ref (ad 14 0 0), .ref (ad 13 l1 0), .int (iI l2)] (zPre D ca ad lnM nM L aS vS F B sz)) (Q_M_places D ca ad L r F9 B9 (zA L sz)) 0 0 (zA L sz) := by
  refine zMet (Qc := Q_M_places D ca ad L r F9 B9) (lv := [(0, .ref (ad 14 0 0)), (1, .ref (ad 13 l1 0)), (2, .int (iI l2))]) (by decide) (Nat.le_of_ble_eq_true rfl) rfl (fun A p e s m below meth c ls X hZ hS hl => ?_)
  obtain ⟨hx, hb, hr, hml, hown, hts, hlk, hK, hA, hL, hX⟩ := id X
  replace hf : (zbind (f_M_is K 0 1 F B) (fun r1 F1 B1 => f_M_places_8 K K 0 l1 l2 F1 B1)) = some (r, F9, B9) := hf
  refine lv_aload_n hx hb d_15_76_0 rfl (lv_at hl 0 rfl) ?_
  refine lv_lconst (v := lI 0) hx hb d_15_76_1 (by decide) ?_
  refine lv_lconst (v := lI 1) hx hb d_15_76_2 (by decide) ?_
  obtain ⟨r1, F1, B1, hc1, hf⟩ := gbind hf
  refine va_callv (va_runV (As := [.long (lI 0), .long (lI 1)]) (rest := []) ⟨hx, hb, hml, hown, hts⟩ (c_M_is (l := l) hc1) (cwV 2 hts (gdV k_12_154 k_12_156 ks_136 k_1_9 k_12_157) rfl rfl rfl (by decide +kernel) ⟨Nat.le_of_ble_eq_true rfl, Nat.le_of_ble_eq_true rfl⟩) (zPV X hZ hS (ci := 14) (by decide) (by decide) (r := (RX14, TX14, 107)) rfl [.long (lI 0), .long (lI 1)]) rfl rfl hl.1 rfl (lv_room (Nat.le_of_ble_eq_true rfl)) d_15_76_3 ⟨Nat.le_of_ble_eq_true rfl, Nat.le_of_ble_eq_true rfl⟩) hS (fun q _ h => zAin X hS q h) (zAin X hS) (fun u1 t1 H1 locs1 ht1 hv1 hw1 hB1 hz1 hk1 hS1 => ?_)
  have hZ1 := zBack X ht1 hB1
  refine lv_iconst (v := iI 0) hx hb d_15_76_6 rfl ?_
  refine lv_istore_n (lv' := [(3, .int (iI 0)), (0, .ref (ad 14 0 0)), (1, .ref (ad 13 l1 0)), (2, .int (iI l2))]) hx hb d_15_76_7 rfl hl (by decide) rfl (fun ls hl => ?_)
  exact b_M_places_8 X hf hZ1 hS1 (lv_sub hl [0, 1, 2, 3] rfl)

abbrev Q_M_beat (D : va_G) (ca : Nat → ClassId) (ad : Nat → Int → Nat → Nat) (L : List Nat) (r : Int) (F : zF) (B : zB) (A : Nat → Prop) : Array Value → State → Outcome → State → Prop := va_Qi (S := Unit) (fun p _ => p = iI r) (fun _ => zPo D ca ad lnM nM L F B A) A
def f_M_beat_32 (K : Nat) (s0 : Int) (F : zF) (B : zB) : zO := some (s0, F, B)
set_option maxHeartbeats 4000000 in
set_option maxRecDepth 100000 in
theorem b_M_beat_32 {D : va_G} {ca : Nat → ClassId} {ad : Nat → Int → Nat → Nat} {L : List Nat} {aS vS : Nat → Nat} {A : Nat → Prop} {p : Program} {l : Launch} {e : Env} {s : State} {m : MethodId} {args : Array Value} {below : List Frame} {meth : Method} {c : Code} {K : Nat} {r : Int} {F9 : zF} {B9 : zB} (X : zX D ca L aS vS A p s m args meth c prog_15_method_78_code 1 (Option.some Jvm.ClassFile.FieldType.int) "StaveHouseModel") {s0 : Int} {F : zF} {B : zB} {H : Heap} {locs : List Loc} {ls : Array Slot} (hf : f_M_beat_32 K s0 F B = some (r, F9, B9)) (hZ : zH D ca ad lnM nM L F B A H) (hS : va_S A s.heap H locs) (hl : lv_has ls 1 []) : W p l e ({ frames := 1, cells := 0, slots := 0, locals := 20 } : Room) s m args below meth c H locs 0 0 (MQ below (Q_M_beat D ca ad L r F9 B9 A) args s 0 0 A) (F0 m 32 ls [.int (iI s0)]) := by
  obtain ⟨hx, hb, hr, hml, hown, hts, hlk, hK, hA, hL, hX⟩ := id X
  replace hf : (some (s0, F, B)) = some (r, F9, B9) := hf
  cases hf
  exact W.iret hx hb hr (fun t ht hW => ⟨⟨_, (), rfl, rfl, by rw [ht]; exact hZ, va_K.moved hW.alike hK⟩, hS.F ht⟩) hS.2.2 d_15_78_32 hlk

def f_M_beat_27 (K : Nat)  (F : zF) (B : zB) : zO := f_M_beat_32 K 1 F B
set_option maxHeartbeats 4000000 in
set_option maxRecDepth 100000 in
theorem b_M_beat_27 {D : va_G} {ca : Nat → ClassId} {ad : Nat → Int → Nat → Nat} {L : List Nat} {aS vS : Nat → Nat} {A : Nat → Prop} {p : Program} {l : Launch} {e : Env} {s : State} {m : MethodId} {args : Array Value} {below : List Frame} {meth : Method} {c : Code} {K : Nat} {r : Int} {F9 : zF} {B9 : zB} (X : zX D ca L aS vS A p s m args meth c prog_15_method_78_code 1 (Option.some Jvm.ClassFile.FieldType.int) "StaveHouseModel")  {F : zF} {B : zB} {H : Heap} {locs : List Loc} {ls : Array Slot} (hf : f_M_beat_27 K  F B = some (r, F9, B9)) (hZ : zH D ca ad lnM nM L F B A H) (hS : va_S A s.heap H locs) (hl : lv_has ls 1 []) : W p l e ({ frames := 1, cells := 0, slots := 0, locals := 20 } : Room) s m args below meth c H locs 0 0 (MQ below (Q_M_beat D ca ad L r F9 B9 A) args s 0 0 A) (F0 m 27 ls []) := by
  obtain ⟨hx, hb, hr, hml, hown, hts, hlk, hK, hA, hL, hX⟩ := id X
  replace hf : (f_M_beat_32 K 1 F B) = some (r, F9, B9) := hf
  refine lv_iconst (v := iI 1) hx hb d_15_78_27 rfl ?_
  refine lv_goto (tgt := 32) hx hb d_15_78_28 (by decide) ?_
  exact b_M_beat_32 X hf hZ hS (lv_sub hl [] rfl)

def f_M_beat (K : Nat) (l0 : Int) (F : zF) (B : zB) : zO := zbind (f_M_isCompound K l0 F B) (fun r1 F1 B1 => if r32 r1 then (if r1 = 0 then if 0 ≤ l0 ∧ l0 < 3 then if r32 (F1 13 l0 5) then (if (F1 13 l0 5) = 2 then f_M_beat_27 K F1 B1 else (if (F1 13 l0 5) = 4 then f_M_beat_27 K F1 B1 else f_M_beat_32 K 2 F1 B1)) else none else none else f_M_beat_32 K 3 F1 B1) else none)
set_option maxHeartbeats 4000000 in
set_option maxRecDepth 100000 in
theorem c_M_beat {l : Launch} {D : va_G} {ca : Nat → ClassId} {ad : Nat → Int → Nat → Nat} {L : List Nat} {aS vS : Nat → Nat} {sz K : Nat} {l0 : Int} {F F9 : zF} {B B9 : zB} {r : Int} (hf : f_M_beat K l0 F B = some (r, F9, B9)) : Met l ({ cls := "StaveHouseModel", name := "beat", desc := "(LStaveHouseModel$Piece;)I" } : Jvm.MethodName) (Cond.code ({ cls := "StaveHouseModel", name := "beat", desc := "(LStaveHouseModel$Piece;)I" } : Jvm.MethodName) prog_15_method_78_code 1 (Option.some Jvm.ClassFile.FieldType.int) :: wAll) ({ frames := 1, cells := 0, slots := 0, locals := 20 } : Room) (va_Pc [.ref (ad 13 l0 0)] (zPre D ca ad lnM nM L aS vS F B sz)) (Q_M_beat D ca ad L r F9 B9 (zA L sz)) 0 0 (zA L sz) := by
  refine zMet (Qc := Q_M_beat D ca ad L r F9 B9) (lv := [(0, .ref (ad 13 l0 0))]) (by decide) (Nat.le_of_ble_eq_true rfl) rfl (fun A p e s m below meth c ls X hZ hS hl => ?_)
  obtain ⟨hx, hb, hr, hml, hown, hts, hlk, hK, hA, hL, hX⟩ := id X
  replace hf : (zbind (f_M_isCompound K l0 F B) (fun r1 F1 B1 => if r32 r1 then (if r1 = 0 then if 0 ≤ l0 ∧ l0 < 3 then if r32 (F1 13 l0 5) then (if (F1 13 l0 5) = 2 then f_M_beat_27 K F1 B1 else (if (F1 13 l0 5) = 4 then f_M_beat_27 K F1 B1 else f_M_beat_32 K 2 F1 B1)) else none else none else f_M_beat_32 K 3 F1 B1) else none)) = some (r, F9, B9) := hf
  refine lv_aload_n hx hb d_15_78_0 rfl (lv_at hl 0 rfl) ?_
  obtain ⟨r1, F1, B1, hc1, hf⟩ := gbind hf
  refine va_calli (va_runS (As := [.ref (ad 13 l0 0)]) (rest := []) ⟨hx, hb, hml, hown, hts⟩ (c_M_isCompound (l := l) hc1) (va_cwS 1 hts (gdS k_13_182 k_13_183 k_1_9 k_13_184) rfl rfl rfl (by decide +kernel) ⟨Nat.le_of_ble_eq_true rfl, Nat.le_of_ble_eq_true rfl⟩) (zPS X hZ hS [.ref (ad 13 l0 0)]) rfl rfl hl.1 rfl (lv_room (Nat.le_of_ble_eq_true rfl)) d_15_78_1 ⟨Nat.le_of_ble_eq_true rfl, Nat.le_of_ble_eq_true rfl⟩) hS (fun q _ h => zAin X hS q h) (zAin X hS) (fun p1 u1 t1 H1 locs1 ht1 hv1 hw1 hB1 hz1 hk1 hS1 => ?_)
  have hZ1 := zBack X ht1 hB1
  subst hw1
  obtain ⟨g2, hf⟩ := gif hf
  refine z0eq (tgt := 11) hx hb g2 d_15_78_4 (by decide) (fun h3 => ?_) (fun h3 => ?_)
  · replace hf := gpos hf h3
    refine lv_aload_n hx hb d_15_78_11 rfl (lv_at hl 0 rfl) ?_
    obtain ⟨g4, hf⟩ := gif hf
    refine zget (ci := 13) (C := RX13) (T := TX13) (v := .int (iI (F1 13 l0 5))) (k := 5) hx hb hts inW_13 hown hK hZ1 g4.1 g4.2 rfl (by decide) k_9_130 rfl d_15_78_12 ?_
    refine lv_iconst (v := iI 2) hx hb d_15_78_15 rfl ?_
    obtain ⟨g5, hf⟩ := gif hf
    refine zeq (tgt := 27) hx hb g5 (by decide) d_15_78_16 (by decide) (fun h6 => ?_) (fun h6 => ?_)
    · replace hf := gpos hf h6
      exact b_M_beat_27 X hf hZ1 hS1 (lv_sub hl [] rfl)
    · replace hf := gneg hf h6
      refine lv_aload_n hx hb d_15_78_19 rfl (lv_at hl 0 rfl) ?_
      refine zget (ci := 13) (C := RX13) (T := TX13) (v := .int (iI (F1 13 l0 5))) (k := 5) hx hb hts inW_13 hown hK hZ1 g4.1 g4.2 rfl (by decide) k_9_130 rfl d_15_78_20 ?_
      refine lv_iconst (v := iI 4) hx hb d_15_78_23 rfl ?_
      refine zne (tgt := 31) hx hb g5 (by decide) d_15_78_24 (by decide) (fun h7 => ?_) (fun h7 => ?_)
      · replace hf := gneg hf h7
        refine lv_iconst (v := iI 2) hx hb d_15_78_31 rfl ?_
        exact b_M_beat_32 X hf hZ1 hS1 (lv_sub hl [] rfl)
      · replace hf := gpos hf h7
        exact b_M_beat_27 X hf hZ1 hS1 (lv_sub hl [] rfl)
  · replace hf := gneg hf h3
    refine lv_iconst (v := iI 3) hx hb d_15_78_7 rfl ?_
    refine lv_goto (tgt := 32) hx hb d_15_78_8 (by decide) ?_
    exact b_M_beat_32 X hf hZ1 hS1 (lv_sub hl [] rfl)

abbrev Q_M_between_1 (D : va_G) (ca : Nat → ClassId) (ad : Nat → Int → Nat → Nat) (L : List Nat) (r : Int) (F : zF) (B : zB) (A : Nat → Prop) : Array Value → State → Outcome → State → Prop := va_Qi (S := Unit) (fun p _ => p = iI r) (fun _ => zPo D ca ad lnM nM L F B A) A
def f_M_between_1_96 (K : Nat) : Nat → Int → Int → Int → Int → Int → Int → zF → zB → zO
  | 0, _, _, _, _, _, _, _, _ => none
  | n + 1, l11, l10, l2, l4, l6, l8, F, B => if r32 l10 then (if l10 ≤ 1 then some (1, F, B) else zbind (f_M_isBetween K l2 l4 l6 l8 1 l11 F B) (fun r24 F24 B24 => if r32 r24 then (if r24 = 0 then f_M_between_1_96 K n (l11 * 2) (l10 - 1) l2 l4 l6 l8 F24 B24 else some (l10, F24, B24)) else none)) else none
set_option maxHeartbeats 4000000 in
set_option maxRecDepth 100000 in
theorem b_M_between_1_96 {D : va_G} {ca : Nat → ClassId} {ad : Nat → Int → Nat → Nat} {L : List Nat} {aS vS : Nat → Nat} {A : Nat → Prop} {p : Program} {l : Launch} {e : Env} {s : State} {m : MethodId} {args : Array Value} {below : List Frame} {meth : Method} {c : Code} {K : Nat} {r : Int} {F9 : zF} {B9 : zB} (X : zX D ca L aS vS A p s m args meth c prog_15_method_81_code 13 (Option.some Jvm.ClassFile.FieldType.int) "StaveHouseModel") : ∀ {n : Nat} {l11 : Int} {l10 : Int} {l2 : Int} {l4 : Int} {l6 : Int} {l8 : Int} {F : zF} {B : zB} {H : Heap} {locs : List Loc} {ls : Array Slot}, f_M_between_1_96 K n l11 l10 l2 l4 l6 l8 F B = some (r, F9, B9) → zH D ca ad lnM nM L F B A H → va_S A s.heap H locs → lv_has ls 13 [(11, .long (lI l11)), (10, .int (iI l10)), (2, .long (lI l2)), (4, .long (lI l4)), (6, .long (lI l6)), (8, .long (lI l8))] → W p l e ({ frames := 3, cells := 0, slots := 0, locals := 95 } : Room) s m args below meth c H locs 0 0 (MQ below (Q_M_between_1 D ca ad L r F9 B9 A) args s 0 0 A) (F0 m 96 ls []) := by
  obtain ⟨hx, hb, hr, hml, hown, hts, hlk, hK, hA, hL, hX⟩ := id X
  intro n
  induction n with
  | zero =>
    intros
    rename_i hf _ _ _
    cases hf
  | succ n ih =>
    intro l11 l10 l2 l4 l6 l8 F B H locs ls hf hZ hS hl
    replace hf : (if r32 l10 then (if l10 ≤ 1 then some (1, F, B) else zbind (f_M_isBetween K l2 l4 l6 l8 1 l11 F B) (fun r24 F24 B24 => if r32 r24 then (if r24 = 0 then f_M_between_1_96 K n (l11 * 2) (l10 - 1) l2 l4 l6 l8 F24 B24 else some (l10, F24, B24)) else none)) else none) = some (r, F9, B9) := hf
    refine lv_iload hx hb d_15_81_96 (lv_at hl 1 rfl) ?_
    refine lv_iconst (v := iI 1) hx hb d_15_81_98 rfl ?_
    obtain ⟨g22, hf⟩ := gif hf
    refine zle (tgt := 135) hx hb g22 (by decide) d_15_81_99 (by decide) (fun h23 => ?_) (fun h23 => ?_)
    · replace hf := gpos hf h23
      refine lv_iconst (v := iI 1) hx hb d_15_81_135 rfl ?_
      cases hf
      exact W.iret hx hb hr (fun t ht hW => ⟨⟨_, (), rfl, rfl, by rw [ht]; exact hZ, va_K.moved hW.alike hK⟩, hS.F ht⟩) hS.2.2 d_15_81_136 hlk
    · replace hf := gneg hf h23
      refine lv_lload_n hx hb d_15_81_102 rfl (lv_at hl 2 rfl) ?_
      refine lv_lload hx hb d_15_81_103 (lv_at hl 3 rfl) ?_
      refine lv_lload hx hb d_15_81_105 (lv_at hl 4 rfl) ?_
      refine lv_lload hx hb d_15_81_107 (lv_at hl 5 rfl) ?_
      refine lv_lconst (v := lI 1) hx hb d_15_81_109 (by decide) ?_
      refine lv_lload hx hb d_15_81_110 (lv_at hl 0 rfl) ?_
      obtain ⟨r24, F24, B24, hc24, hf⟩ := gbind hf
      refine va_calli (va_runS (As := [.long (lI l2), .long (lI l4), .long (lI l6), .long (lI l8), .long (lI 1), .long (lI l11)]) (rest := []) ⟨hx, hb, hml, hown, hts⟩ (c_M_isBetween (l := l) hc24) (va_cwS 6 hts (gdS k_13_192 k_13_193 k_1_9 k_13_194) rfl rfl rfl (by decide +kernel) ⟨Nat.le_of_ble_eq_true rfl, Nat.le_of_ble_eq_true rfl⟩) (zPS X hZ hS [.long (lI l2), .long (lI l4), .long (lI l6), .long (lI l8), .long (lI 1), .long (lI l11)]) rfl rfl hl.1 rfl (lv_room (Nat.le_of_ble_eq_true rfl)) d_15_81_112 ⟨Nat.le_of_ble_eq_true rfl, Nat.le_of_ble_eq_true rfl⟩) hS (fun q _ h => zAin X hS q h) (zAin X hS) (fun p24 u24 t24 H24 locs24 ht24 hv24 hw24 hB24 hz24 hk24 hS24 => ?_)
      have hZ24 := zBack X ht24 hB24
      subst hw24
      obtain ⟨g25, hf⟩ := gif hf
      refine z0eq (tgt := 121) hx hb g25 d_15_81_115 (by decide) (fun h26 => ?_) (fun h26 => ?_)
      · replace hf := gpos hf h26
        refine lv_iinc (v := iI (l10 - 1)) (lv' := [(10, .int (iI (l10 - 1))), (11, .long (lI l11)), (2, .long (lI l2)), (4, .long (lI l4)), (6, .long (lI l6)), (8, .long (lI l8))]) hx hb d_15_81_121 hl (k := 1) rfl (by rw [show Int32.ofInt (-1) = iI (-1) from rfl, iI_add]; congr 1) (by decide) rfl (fun ls hl => ?_)
        refine lv_lload hx hb d_15_81_124 (lv_at hl 1 rfl) ?_
        refine lv_ldc2 hx hb hown (hts _ k_13_89) d_15_81_126 ?_
        refine W.eq (g2 := F0 m 129 ls [.long (lI 2), .long (lI l11)]) rfl ?_
        refine zlmul hx hb d_15_81_129 ?_
        refine lv_lstore (lv' := [(11, .long (lI (l11 * 2))), (10, .int (iI (l10 - 1))), (2, .long (lI l2)), (4, .long (lI l4)), (6, .long (lI l6)), (8, .long (lI l8))]) hx hb d_15_81_130 hl (by decide) rfl (fun ls hl => ?_)
        refine lv_goto (tgt := 96) hx hb d_15_81_132 (by decide) ?_
        exact ih hf hZ24 hS24 (lv_sub hl [0, 1, 2, 3, 4, 5] rfl)
      · replace hf := gneg hf h26
        refine lv_iload hx hb d_15_81_118 (lv_at hl 1 rfl) ?_
        cases hf
        exact W.iret hx hb hr (fun t ht hW => ⟨⟨_, (), rfl, rfl, by rw [ht]; exact hZ24, va_K.moved hW.alike hK⟩, hS24.F ht⟩) hS24.2.2 d_15_81_120 hlk

def f_M_between_1_59 (K : Nat) (l1 : Int) (l2 : Int) (l4 : Int) (l6 : Int) (l8 : Int) (F : zF) (B : zB) : zO := zbind (f_M_beat K l1 F B) (fun r14 F14 B14 => if r32 r14 then if 0 ≤ l1 ∧ l1 < 3 then if r32 (F14 13 l1 5) then zbind (f_M_isBetween K l2 l4 l6 l8 r14 (F14 13 l1 5) F14 B14) (fun r18 F18 B18 => if r32 r18 then (if r18 = 0 then if r32 (F18 13 l1 5) then f_M_between_1_96 K K (F18 13 l1 5) 6 l2 l4 l6 l8 F18 B18 else none else some (7, F18, B18)) else none) else none else none else none)
set_option maxHeartbeats 4000000 in
set_option maxRecDepth 100000 in
theorem b_M_between_1_59 {D : va_G} {ca : Nat → ClassId} {ad : Nat → Int → Nat → Nat} {L : List Nat} {aS vS : Nat → Nat} {A : Nat → Prop} {p : Program} {l : Launch} {e : Env} {s : State} {m : MethodId} {args : Array Value} {below : List Frame} {meth : Method} {c : Code} {K : Nat} {r : Int} {F9 : zF} {B9 : zB} (X : zX D ca L aS vS A p s m args meth c prog_15_method_81_code 13 (Option.some Jvm.ClassFile.FieldType.int) "StaveHouseModel") {l1 : Int} {l2 : Int} {l4 : Int} {l6 : Int} {l8 : Int} {F : zF} {B : zB} {H : Heap} {locs : List Loc} {ls : Array Slot} (hf : f_M_between_1_59 K l1 l2 l4 l6 l8 F B = some (r, F9, B9)) (hZ : zH D ca ad lnM nM L F B A H) (hS : va_S A s.heap H locs) (hl : lv_has ls 13 [(1, .ref (ad 13 l1 0)), (2, .long (lI l2)), (4, .long (lI l4)), (6, .long (lI l6)), (8, .long (lI l8))]) : W p l e ({ frames := 3, cells := 0, slots := 0, locals := 95 } : Room) s m args below meth c H locs 0 0 (MQ below (Q_M_between_1 D ca ad L r F9 B9 A) args s 0 0 A) (F0 m 59 ls []) := by
  obtain ⟨hx, hb, hr, hml, hown, hts, hlk, hK, hA, hL, hX⟩ := id X
  replace hf : (zbind (f_M_beat K l1 F B) (fun r14 F14 B14 => if r32 r14 then if 0 ≤ l1 ∧ l1 < 3 then if r32 (F14 13 l1 5) then zbind (f_M_isBetween K l2 l4 l6 l8 r14 (F14 13 l1 5) F14 B14) (fun r18 F18 B18 => if r32 r18 then (if r18 = 0 then if r32 (F18 13 l1 5) then f_M_between_1_96 K K (F18 13 l1 5) 6 l2 l4 l6 l8 F18 B18 else none else some (7, F18, B18)) else none) else none else none else none)) = some (r, F9, B9) := hf
  refine lv_lload_n hx hb d_15_81_59 rfl (lv_at hl 1 rfl) ?_
  refine lv_lload hx hb d_15_81_60 (lv_at hl 2 rfl) ?_
  refine lv_lload hx hb d_15_81_62 (lv_at hl 3 rfl) ?_
  refine lv_lload hx hb d_15_81_64 (lv_at hl 4 rfl) ?_
  refine lv_aload_n hx hb d_15_81_66 rfl (lv_at hl 0 rfl) ?_
  obtain ⟨r14, F14, B14, hc14, hf⟩ := gbind hf
  refine va_calli (va_runS (As := [.ref (ad 13 l1 0)]) (rest := [.long (lI l8), .long (lI l6), .long (lI l4), .long (lI l2)]) ⟨hx, hb, hml, hown, hts⟩ (c_M_beat (l := l) hc14) (va_cwS 1 hts (gdS k_13_179 k_13_180 k_1_9 k_13_181) rfl rfl rfl (by decide +kernel) ⟨Nat.le_of_ble_eq_true rfl, Nat.le_of_ble_eq_true rfl⟩) (zPS X hZ hS [.ref (ad 13 l1 0)]) rfl rfl hl.1 rfl (lv_room (Nat.le_of_ble_eq_true rfl)) d_15_81_67 ⟨Nat.le_of_ble_eq_true rfl, Nat.le_of_ble_eq_true rfl⟩) hS (fun q _ h => zAin X hS q h) (zAin X hS) (fun p14 u14 t14 H14 locs14 ht14 hv14 hw14 hB14 hz14 hk14 hS14 => ?_)
  have hZ14 := zBack X ht14 hB14
  subst hw14
  obtain ⟨g15, hf⟩ := gif hf
  refine zi2l hx hb g15 d_15_81_70 ?_
  refine lv_aload_n hx hb d_15_81_71 rfl (lv_at hl 0 rfl) ?_
  obtain ⟨g16, hf⟩ := gif hf
  refine zget (ci := 13) (C := RX13) (T := TX13) (v := .int (iI (F14 13 l1 5))) (k := 5) hx hb hts inW_13 hown hK hZ14 g16.1 g16.2 rfl (by decide) k_9_130 rfl d_15_81_72 ?_
  obtain ⟨g17, hf⟩ := gif hf
  refine zi2l hx hb g17 d_15_81_75 ?_
  obtain ⟨r18, F18, B18, hc18, hf⟩ := gbind hf
  refine va_calli (va_runS (As := [.long (lI l2), .long (lI l4), .long (lI l6), .long (lI l8), .long (lI r14), .long (lI (F14 13 l1 5))]) (rest := []) ⟨hx, hb, hml, hown, hts⟩ (c_M_isBetween (l := l) hc18) (va_cwS 6 hts (gdS k_13_192 k_13_193 k_1_9 k_13_194) rfl rfl rfl (by decide +kernel) ⟨Nat.le_of_ble_eq_true rfl, Nat.le_of_ble_eq_true rfl⟩) (zPS X hZ14 hS14 [.long (lI l2), .long (lI l4), .long (lI l6), .long (lI l8), .long (lI r14), .long (lI (F14 13 l1 5))]) rfl rfl hl.1 rfl (lv_room (Nat.le_of_ble_eq_true rfl)) d_15_81_76 ⟨Nat.le_of_ble_eq_true rfl, Nat.le_of_ble_eq_true rfl⟩) hS14 (fun q _ h => zAin X hS14 q h) (zAin X hS14) (fun p18 u18 t18 H18 locs18 ht18 hv18 hw18 hB18 hz18 hk18 hS18 => ?_)
  have hZ18 := zBack X ht18 hB18
  subst hw18
  obtain ⟨g19, hf⟩ := gif hf
  refine z0eq (tgt := 85) hx hb g19 d_15_81_79 (by decide) (fun h20 => ?_) (fun h20 => ?_)
  · replace hf := gpos hf h20
    refine lv_bipush (v := iI 6) hx hb d_15_81_85 (by decide) ?_
    refine lv_istore (lv' := [(10, .int (iI 6)), (1, .ref (ad 13 l1 0)), (2, .long (lI l2)), (4, .long (lI l4)), (6, .long (lI l6)), (8, .long (lI l8))]) hx hb d_15_81_87 hl (by decide) rfl (fun ls hl => ?_)
    refine lv_aload_n hx hb d_15_81_89 rfl (lv_at hl 1 rfl) ?_
    refine zget (ci := 13) (C := RX13) (T := TX13) (v := .int (iI (F18 13 l1 5))) (k := 5) hx hb hts inW_13 hown hK hZ18 g16.1 g16.2 rfl (by decide) k_9_130 rfl d_15_81_90 ?_
    obtain ⟨g21, hf⟩ := gif hf
    refine zi2l hx hb g21 d_15_81_93 ?_
    refine lv_lstore (lv' := [(11, .long (lI (F18 13 l1 5))), (10, .int (iI 6)), (1, .ref (ad 13 l1 0)), (2, .long (lI l2)), (4, .long (lI l4)), (6, .long (lI l6)), (8, .long (lI l8))]) hx hb d_15_81_94 hl (by decide) rfl (fun ls hl => ?_)
    exact b_M_between_1_96 X hf hZ18 hS18 (lv_sub hl [0, 1, 3, 4, 5, 6] rfl)
  · replace hf := gneg hf h20
    refine lv_bipush (v := iI 7) hx hb d_15_81_82 (by decide) ?_
    cases hf
    exact W.iret hx hb hr (fun t ht hW => ⟨⟨_, (), rfl, rfl, by rw [ht]; exact hZ18, va_K.moved hW.alike hK⟩, hS18.F ht⟩) hS18.2.2 d_15_81_84 hlk

def f_M_between_1 (K : Nat) (l1 : Int) (l2 : Int) (l4 : Int) (l6 : Int) (l8 : Int) (F : zF) (B : zB) : zO := if 0 ≤ l1 ∧ l1 < 3 then if r32 (zrm (F 13 l1 4) 2) then (if (zrm (F 13 l1 4) 2) = 0 then if r32 (F 13 l1 4) then if r32 (F 13 l1 5) then zbind (f_M_compare K l2 l4 (F 13 l1 4) (2 * (F 13 l1 5)) F B) (fun r6 F6 B6 => if r32 r6 then (if 0 ≤ r6 then f_M_between_1_59 K l1 l2 l4 l6 l8 F6 B6 else if r32 (F6 13 l1 4) then if r32 (F6 13 l1 5) then zbind (f_M_compare K (F6 13 l1 4) (2 * (F6 13 l1 5)) l6 l8 F6 B6) (fun r11 F11 B11 => if r32 r11 then (if 0 ≤ r11 then f_M_between_1_59 K l1 l2 l4 l6 l8 F11 B11 else some (8, F11, B11)) else none) else none else none) else none) else none else none else f_M_between_1_59 K l1 l2 l4 l6 l8 F B) else none else none
set_option maxHeartbeats 4000000 in
set_option maxRecDepth 100000 in
theorem c_M_between_1 {l : Launch} {D : va_G} {ca : Nat → ClassId} {ad : Nat → Int → Nat → Nat} {L : List Nat} {aS vS : Nat → Nat} {sz K : Nat} {l1 : Int} {l2 : Int} {l4 : Int} {l6 : Int} {l8 : Int} {F F9 : zF} {B B9 : zB} {r : Int} (hf : f_M_between_1 K l1 l2 l4 l6 l8 F B = some (r, F9, B9)) : Met l ({ cls := "StaveHouseModel", name := "between", desc := "(LStaveHouseModel$Piece;JJJJ)I" } : Jvm.MethodName) (Cond.code ({ cls := "StaveHouseModel", name := "between", desc := "(LStaveHouseModel$Piece;JJJJ)I" } : Jvm.MethodName) prog_15_method_81_code 13 (Option.some Jvm.ClassFile.FieldType.int) :: wAll) ({ frames := 3, cells := 0, slots := 0, locals := 95 } : Room) (va_Pc [.ref (ad 14 0 0), .ref (ad 13 l1 0), .long (lI l2), .long (lI l4), .long (lI l6), .long (lI l8)] (zPre D ca ad lnM nM L aS vS F B sz)) (Q_M_between_1 D ca ad L r F9 B9 (zA L sz)) 0 0 (zA L sz) := by
  refine zMet (Qc := Q_M_between_1 D ca ad L r F9 B9) (lv := [(0, .ref (ad 14 0 0)), (1, .ref (ad 13 l1 0)), (2, .long (lI l2)), (4, .long (lI l4)), (6, .long (lI l6)), (8, .long (lI l8))]) (by decide) (Nat.le_of_ble_eq_true rfl) rfl (fun A p e s m below meth c ls X hZ hS hl => ?_)
  obtain ⟨hx, hb, hr, hml, hown, hts, hlk, hK, hA, hL, hX⟩ := id X
  replace hf : (if 0 ≤ l1 ∧ l1 < 3 then if r32 (zrm (F 13 l1 4) 2) then (if (zrm (F 13 l1 4) 2) = 0 then if r32 (F 13 l1 4) then if r32 (F 13 l1 5) then zbind (f_M_compare K l2 l4 (F 13 l1 4) (2 * (F 13 l1 5)) F B) (fun r6 F6 B6 => if r32 r6 then (if 0 ≤ r6 then f_M_between_1_59 K l1 l2 l4 l6 l8 F6 B6 else if r32 (F6 13 l1 4) then if r32 (F6 13 l1 5) then zbind (f_M_compare K (F6 13 l1 4) (2 * (F6 13 l1 5)) l6 l8 F6 B6) (fun r11 F11 B11 => if r32 r11 then (if 0 ≤ r11 then f_M_between_1_59 K l1 l2 l4 l6 l8 F11 B11 else some (8, F11, B11)) else none) else none else none) else none) else none else none else f_M_between_1_59 K l1 l2 l4 l6 l8 F B) else none else none) = some (r, F9, B9) := hf
  refine lv_aload_n hx hb d_15_81_0 rfl (lv_at hl 1 rfl) ?_
  obtain ⟨g1, hf⟩ := gif hf
  refine zget (ci := 13) (C := RX13) (T := TX13) (v := .int (iI (F 13 l1 4))) (k := 4) hx hb hts inW_13 hown hK hZ g1.1 g1.2 rfl (by decide) k_9_129 rfl d_15_81_1 ?_
  refine lv_iconst (v := iI 2) hx hb d_15_81_4 rfl ?_
  refine zrm_r hx hb (by decide) d_15_81_5 ?_
  obtain ⟨g2, hf⟩ := gif hf
  refine z0ne (tgt := 59) hx hb g2 d_15_81_6 (by decide) (fun h3 => ?_) (fun h3 => ?_)
  · replace hf := gneg hf h3
    exact b_M_between_1_59 X hf hZ hS (lv_sub hl [1, 2, 3, 4, 5] rfl)
  · replace hf := gpos hf h3
    refine lv_lload_n hx hb d_15_81_9 rfl (lv_at hl 2 rfl) ?_
    refine lv_lload hx hb d_15_81_10 (lv_at hl 3 rfl) ?_
    refine lv_aload_n hx hb d_15_81_12 rfl (lv_at hl 1 rfl) ?_
    refine zget (ci := 13) (C := RX13) (T := TX13) (v := .int (iI (F 13 l1 4))) (k := 4) hx hb hts inW_13 hown hK hZ g1.1 g1.2 rfl (by decide) k_9_129 rfl d_15_81_13 ?_
    obtain ⟨g4, hf⟩ := gif hf
    refine zi2l hx hb g4 d_15_81_16 ?_
    refine lv_ldc2 hx hb hown (hts _ k_13_89) d_15_81_17 ?_
    refine W.eq (g2 := F0 m 20 ls [.long (lI 2), .long (lI (F 13 l1 4)), .long (lI l4), .long (lI l2)]) rfl ?_
    refine lv_aload_n hx hb d_15_81_20 rfl (lv_at hl 1 rfl) ?_
    refine zget (ci := 13) (C := RX13) (T := TX13) (v := .int (iI (F 13 l1 5))) (k := 5) hx hb hts inW_13 hown hK hZ g1.1 g1.2 rfl (by decide) k_9_130 rfl d_15_81_21 ?_
    obtain ⟨g5, hf⟩ := gif hf
    refine zi2l hx hb g5 d_15_81_24 ?_
    refine zlmul hx hb d_15_81_25 ?_
    obtain ⟨r6, F6, B6, hc6, hf⟩ := gbind hf
    refine va_calli (va_runS (As := [.long (lI l2), .long (lI l4), .long (lI (F 13 l1 4)), .long (lI (2 * (F 13 l1 5)))]) (rest := []) ⟨hx, hb, hml, hown, hts⟩ (c_M_compare (l := l) hc6) (va_cwS 4 hts (gdS k_13_104 k_13_105 k_1_9 k_13_106) rfl rfl rfl (by decide +kernel) ⟨Nat.le_of_ble_eq_true rfl, Nat.le_of_ble_eq_true rfl⟩) (zPS X hZ hS [.long (lI l2), .long (lI l4), .long (lI (F 13 l1 4)), .long (lI (2 * (F 13 l1 5)))]) rfl rfl hl.1 rfl (lv_room (Nat.le_of_ble_eq_true rfl)) d_15_81_26 ⟨Nat.le_of_ble_eq_true rfl, Nat.le_of_ble_eq_true rfl⟩) hS (fun q _ h => zAin X hS q h) (zAin X hS) (fun p6 u6 t6 H6 locs6 ht6 hv6 hw6 hB6 hz6 hk6 hS6 => ?_)
    have hZ6 := zBack X ht6 hB6
    subst hw6
    obtain ⟨g7, hf⟩ := gif hf
    refine z0ge (tgt := 59) hx hb g7 d_15_81_29 (by decide) (fun h8 => ?_) (fun h8 => ?_)
    · replace hf := gpos hf h8
      exact b_M_between_1_59 X hf hZ6 hS6 (lv_sub hl [1, 2, 3, 4, 5] rfl)
    · replace hf := gneg hf h8
      refine lv_aload_n hx hb d_15_81_32 rfl (lv_at hl 1 rfl) ?_
      refine zget (ci := 13) (C := RX13) (T := TX13) (v := .int (iI (F6 13 l1 4))) (k := 4) hx hb hts inW_13 hown hK hZ6 g1.1 g1.2 rfl (by decide) k_9_129 rfl d_15_81_33 ?_
      obtain ⟨g9, hf⟩ := gif hf
      refine zi2l hx hb g9 d_15_81_36 ?_
      refine lv_ldc2 hx hb hown (hts _ k_13_89) d_15_81_37 ?_
      refine W.eq (g2 := F0 m 40 ls [.long (lI 2), .long (lI (F6 13 l1 4))]) rfl ?_
      refine lv_aload_n hx hb d_15_81_40 rfl (lv_at hl 1 rfl) ?_
      refine zget (ci := 13) (C := RX13) (T := TX13) (v := .int (iI (F6 13 l1 5))) (k := 5) hx hb hts inW_13 hown hK hZ6 g1.1 g1.2 rfl (by decide) k_9_130 rfl d_15_81_41 ?_
      obtain ⟨g10, hf⟩ := gif hf
      refine zi2l hx hb g10 d_15_81_44 ?_
      refine zlmul hx hb d_15_81_45 ?_
      refine lv_lload hx hb d_15_81_46 (lv_at hl 4 rfl) ?_
      refine lv_lload hx hb d_15_81_48 (lv_at hl 5 rfl) ?_
      obtain ⟨r11, F11, B11, hc11, hf⟩ := gbind hf
      refine va_calli (va_runS (As := [.long (lI (F6 13 l1 4)), .long (lI (2 * (F6 13 l1 5))), .long (lI l6), .long (lI l8)]) (rest := []) ⟨hx, hb, hml, hown, hts⟩ (c_M_compare (l := l) hc11) (va_cwS 4 hts (gdS k_13_104 k_13_105 k_1_9 k_13_106) rfl rfl rfl (by decide +kernel) ⟨Nat.le_of_ble_eq_true rfl, Nat.le_of_ble_eq_true rfl⟩) (zPS X hZ6 hS6 [.long (lI (F6 13 l1 4)), .long (lI (2 * (F6 13 l1 5))), .long (lI l6), .long (lI l8)]) rfl rfl hl.1 rfl (lv_room (Nat.le_of_ble_eq_true rfl)) d_15_81_50 ⟨Nat.le_of_ble_eq_true rfl, Nat.le_of_ble_eq_true rfl⟩) hS6 (fun q _ h => zAin X hS6 q h) (zAin X hS6) (fun p11 u11 t11 H11 locs11 ht11 hv11 hw11 hB11 hz11 hk11 hS11 => ?_)
      have hZ11 := zBack X ht11 hB11
      subst hw11
      obtain ⟨g12, hf⟩ := gif hf
      refine z0ge (tgt := 59) hx hb g12 d_15_81_53 (by decide) (fun h13 => ?_) (fun h13 => ?_)
      · replace hf := gpos hf h13
        exact b_M_between_1_59 X hf hZ11 hS11 (lv_sub hl [1, 2, 3, 4, 5] rfl)
      · replace hf := gneg hf h13
        refine lv_bipush (v := iI 8) hx hb d_15_81_56 (by decide) ?_
        cases hf
        exact W.iret hx hb hr (fun t ht hW => ⟨⟨_, (), rfl, rfl, by rw [ht]; exact hZ11, va_K.moved hW.alike hK⟩, hS11.F ht⟩) hS11.2.2 d_15_81_58 hlk

abbrev Q_M_turn (D : va_G) (ca : Nat → ClassId) (ad : Nat → Int → Nat → Nat) (L : List Nat) (r : Int) (F : zF) (B : zB) (A : Nat → Prop) : Array Value → State → Outcome → State → Prop := va_Ql (S := Unit) (fun p _ => p = lI r) (fun _ => zPo D ca ad lnM nM L F B A) A
def f_M_turn_42 (K : Nat) (s0 : Int) (F : zF) (B : zB) : zO := some (s0, F, B)
set_option maxHeartbeats 4000000 in
set_option maxRecDepth 100000 in
theorem b_M_turn_42 {D : va_G} {ca : Nat → ClassId} {ad : Nat → Int → Nat → Nat} {L : List Nat} {aS vS : Nat → Nat} {A : Nat → Prop} {p : Program} {l : Launch} {e : Env} {s : State} {m : MethodId} {args : Array Value} {below : List Frame} {meth : Method} {c : Code} {K : Nat} {r : Int} {F9 : zF} {B9 : zB} (X : zX D ca L aS vS A p s m args meth c prog_15_method_161_code 5 (Option.some Jvm.ClassFile.FieldType.long) "StaveHouseModel") {s0 : Int} {F : zF} {B : zB} {H : Heap} {locs : List Loc} {ls : Array Slot} (hf : f_M_turn_42 K s0 F B = some (r, F9, B9)) (hZ : zH D ca ad lnM nM L F B A H) (hS : va_S A s.heap H locs) (hl : lv_has ls 5 []) : W p l e ({ frames := 1, cells := 0, slots := 0, locals := 20 } : Room) s m args below meth c H locs 0 0 (MQ below (Q_M_turn D ca ad L r F9 B9 A) args s 0 0 A) (F0 m 42 ls [.long (lI s0)]) := by
  obtain ⟨hx, hb, hr, hml, hown, hts, hlk, hK, hA, hL, hX⟩ := id X
  replace hf : (some (s0, F, B)) = some (r, F9, B9) := hf
  cases hf
  exact W.lret hx hb hr (fun t ht hW => ⟨⟨_, (), rfl, rfl, by rw [ht]; exact hZ, va_K.moved hW.alike hK⟩, hS.F ht⟩) hS.2.2 d_15_161_42 hlk

def f_M_turn (K : Nat) (l1 : Int) (F : zF) (B : zB) : zO := zbind (f_M_turnOf K (zrm l1 12) F B) (fun r1 F1 B1 => if r32 (zdv l1 12) then (if 9 ≤ (zdv l1 12) then f_M_turn_42 K (zland (zlshl r1 ((zdv l1 12) - 9)) 4294967295) F1 B1 else f_M_turn_42 K (zlshr r1 (9 - (zdv l1 12))) F1 B1) else none)
set_option maxHeartbeats 4000000 in
set_option maxRecDepth 100000 in
theorem c_M_turn {l : Launch} {D : va_G} {ca : Nat → ClassId} {ad : Nat → Int → Nat → Nat} {L : List Nat} {aS vS : Nat → Nat} {sz K : Nat} {l1 : Int} {F F9 : zF} {B B9 : zB} {r : Int} (hf : f_M_turn K l1 F B = some (r, F9, B9)) : Met l ({ cls := "StaveHouseModel", name := "turn", desc := "(I)J" } : Jvm.MethodName) (Cond.code ({ cls := "StaveHouseModel", name := "turn", desc := "(I)J" } : Jvm.MethodName) prog_15_method_161_code 5 (Option.some Jvm.ClassFile.FieldType.long) :: wAll) ({ frames := 1, cells := 0, slots := 0, locals := 20 } : Room) (va_Pc [.ref (ad 14 0 0), .int (iI l1)] (zPre D ca ad lnM nM L aS vS F B sz)) (Q_M_turn D ca ad L r F9 B9 (zA L sz)) 0 0 (zA L sz) := by
  refine zMet (Qc := Q_M_turn D ca ad L r F9 B9) (lv := [(0, .ref (ad 14 0 0)), (1, .int (iI l1))]) (by decide) (Nat.le_of_ble_eq_true rfl) rfl (fun A p e s m below meth c ls X hZ hS hl => ?_)
  obtain ⟨hx, hb, hr, hml, hown, hts, hlk, hK, hA, hL, hX⟩ := id X
  replace hf : (zbind (f_M_turnOf K (zrm l1 12) F B) (fun r1 F1 B1 => if r32 (zdv l1 12) then (if 9 ≤ (zdv l1 12) then f_M_turn_42 K (zland (zlshl r1 ((zdv l1 12) - 9)) 4294967295) F1 B1 else f_M_turn_42 K (zlshr r1 (9 - (zdv l1 12))) F1 B1) else none)) = some (r, F9, B9) := hf
  refine lv_iload_n hx hb d_15_161_0 rfl (lv_at hl 1 rfl) ?_
  refine lv_bipush (v := iI 12) hx hb d_15_161_1 (by decide) ?_
  refine zrm_r hx hb (by decide) d_15_161_3 ?_
  obtain ⟨r1, F1, B1, hc1, hf⟩ := gbind hf
  refine va_calll (va_runS (As := [.int (iI (zrm l1 12))]) (rest := []) ⟨hx, hb, hml, hown, hts⟩ (c_M_turnOf (l := l) hc1) (va_cwS 1 hts (gdS k_13_216 k_13_217 k_1_9 k_13_218) rfl rfl rfl (by decide +kernel) ⟨Nat.le_of_ble_eq_true rfl, Nat.le_of_ble_eq_true rfl⟩) (zPS X hZ hS [.int (iI (zrm l1 12))]) rfl rfl hl.1 rfl (lv_room (Nat.le_of_ble_eq_true rfl)) d_15_161_4 ⟨Nat.le_of_ble_eq_true rfl, Nat.le_of_ble_eq_true rfl⟩) hS (fun q _ h => zAin X hS q h) (zAin X hS) (fun p1 u1 t1 H1 locs1 ht1 hv1 hw1 hB1 hz1 hk1 hS1 => ?_)
  have hZ1 := zBack X ht1 hB1
  subst hw1
  refine lv_lstore_n (lv' := [(2, .long (lI r1)), (0, .ref (ad 14 0 0)), (1, .int (iI l1))]) hx hb d_15_161_7 rfl hl (by decide) rfl (fun ls hl => ?_)
  refine lv_iload_n hx hb d_15_161_8 rfl (lv_at hl 2 rfl) ?_
  refine lv_bipush (v := iI 12) hx hb d_15_161_9 (by decide) ?_
  refine zdv_r hx hb (by decide) d_15_161_11 ?_
  refine lv_istore (lv' := [(4, .int (iI (zdv l1 12))), (2, .long (lI r1)), (0, .ref (ad 14 0 0)), (1, .int (iI l1))]) hx hb d_15_161_12 hl (by decide) rfl (fun ls hl => ?_)
  refine lv_iload hx hb d_15_161_14 (lv_at hl 0 rfl) ?_
  refine lv_bipush (v := iI 9) hx hb d_15_161_16 (by decide) ?_
  obtain ⟨g2, hf⟩ := gif hf
  refine zge (tgt := 31) hx hb g2 (by decide) d_15_161_18 (by decide) (fun h3 => ?_) (fun h3 => ?_)
  · replace hf := gpos hf h3
    refine lv_lload_n hx hb d_15_161_31 rfl (lv_at hl 1 rfl) ?_
    refine lv_iload hx hb d_15_161_32 (lv_at hl 0 rfl) ?_
    refine lv_bipush (v := iI 9) hx hb d_15_161_34 (by decide) ?_
    refine zsub hx hb d_15_161_36 ?_
    refine zlshl_r hx hb d_15_161_37 ?_
    refine lv_ldc2 hx hb hown (hts _ k_13_231) d_15_161_38 ?_
    refine W.eq (g2 := F0 m 41 ls [.long (lI 4294967295), .long (lI (zlshl r1 ((zdv l1 12) - 9)))]) rfl ?_
    refine zland_r hx hb d_15_161_41 ?_
    exact b_M_turn_42 X hf hZ1 hS1 (lv_sub hl [] rfl)
  · replace hf := gneg hf h3
    refine lv_lload_n hx hb d_15_161_21 rfl (lv_at hl 1 rfl) ?_
    refine lv_bipush (v := iI 9) hx hb d_15_161_22 (by decide) ?_
    refine lv_iload hx hb d_15_161_24 (lv_at hl 0 rfl) ?_
    refine zsub hx hb d_15_161_26 ?_
    refine zlshr_r hx hb d_15_161_27 ?_
    refine lv_goto (tgt := 42) hx hb d_15_161_28 (by decide) ?_
    exact b_M_turn_42 X hf hZ1 hS1 (lv_sub hl [] rfl)

abbrev Q_M_level (D : va_G) (ca : Nat → ClassId) (ad : Nat → Int → Nat → Nat) (L : List Nat) (r : Int) (F : zF) (B : zB) (A : Nat → Prop) : Array Value → State → Outcome → State → Prop := va_Qi (S := Unit) (fun p _ => p = iI r) (fun _ => zPo D ca ad lnM nM L F B A) A
def f_M_level_34 (K : Nat) (s0 : Int) (F : zF) (B : zB) : zO := some (s0, F, B)
set_option maxHeartbeats 4000000 in
set_option maxRecDepth 100000 in
theorem b_M_level_34 {D : va_G} {ca : Nat → ClassId} {ad : Nat → Int → Nat → Nat} {L : List Nat} {aS vS : Nat → Nat} {A : Nat → Prop} {p : Program} {l : Launch} {e : Env} {s : State} {m : MethodId} {args : Array Value} {below : List Frame} {meth : Method} {c : Code} {K : Nat} {r : Int} {F9 : zF} {B9 : zB} (X : zX D ca L aS vS A p s m args meth c prog_15_method_164_code 2 (Option.some Jvm.ClassFile.FieldType.int) "StaveHouseModel") {s0 : Int} {F : zF} {B : zB} {H : Heap} {locs : List Loc} {ls : Array Slot} (hf : f_M_level_34 K s0 F B = some (r, F9, B9)) (hZ : zH D ca ad lnM nM L F B A H) (hS : va_S A s.heap H locs) (hl : lv_has ls 2 []) : W p l e ({ frames := 1, cells := 0, slots := 0, locals := 21 } : Room) s m args below meth c H locs 0 0 (MQ below (Q_M_level D ca ad L r F9 B9 A) args s 0 0 A) (F0 m 34 ls [.int (iI s0)]) := by
  obtain ⟨hx, hb, hr, hml, hown, hts, hlk, hK, hA, hL, hX⟩ := id X
  replace hf : (some (s0, F, B)) = some (r, F9, B9) := hf
  cases hf
  exact W.iret hx hb hr (fun t ht hW => ⟨⟨_, (), rfl, rfl, by rw [ht]; exact hZ, va_K.moved hW.alike hK⟩, hS.F ht⟩) hS.2.2 d_15_164_34 hlk

def f_M_level (K : Nat) (l0 : Int) (l1 : Int) (F : zF) (B : zB) : zO := if r32 l0 then if r32 l1 then (if l1 ≤ l0 then (if l1 = 0 then f_M_level_34 K 0 F B else zbind (f_M_rise K l1 F B) (fun r5 F5 B5 => f_M_level_34 K (zdv (r5 * (400 - (l0 - l1))) 400) F5 B5)) else zbind (f_M_rise K l0 F B) (fun r6 F6 B6 => some (r6, F6, B6))) else none else none
set_option maxHeartbeats 4000000 in
set_option maxRecDepth 100000 in
theorem c_M_level {l : Launch} {D : va_G} {ca : Nat → ClassId} {ad : Nat → Int → Nat → Nat} {L : List Nat} {aS vS : Nat → Nat} {sz K : Nat} {l0 : Int} {l1 : Int} {F F9 : zF} {B B9 : zB} {r : Int} (hf : f_M_level K l0 l1 F B = some (r, F9, B9)) : Met l ({ cls := "StaveHouseModel", name := "level", desc := "(II)I" } : Jvm.MethodName) (Cond.code ({ cls := "StaveHouseModel", name := "level", desc := "(II)I" } : Jvm.MethodName) prog_15_method_164_code 2 (Option.some Jvm.ClassFile.FieldType.int) :: wAll) ({ frames := 1, cells := 0, slots := 0, locals := 21 } : Room) (va_Pc [.int (iI l0), .int (iI l1)] (zPre D ca ad lnM nM L aS vS F B sz)) (Q_M_level D ca ad L r F9 B9 (zA L sz)) 0 0 (zA L sz) := by
  refine zMet (Qc := Q_M_level D ca ad L r F9 B9) (lv := [(0, .int (iI l0)), (1, .int (iI l1))]) (by decide) (Nat.le_of_ble_eq_true rfl) rfl (fun A p e s m below meth c ls X hZ hS hl => ?_)
  obtain ⟨hx, hb, hr, hml, hown, hts, hlk, hK, hA, hL, hX⟩ := id X
  replace hf : (if r32 l0 then if r32 l1 then (if l1 ≤ l0 then (if l1 = 0 then f_M_level_34 K 0 F B else zbind (f_M_rise K l1 F B) (fun r5 F5 B5 => f_M_level_34 K (zdv (r5 * (400 - (l0 - l1))) 400) F5 B5)) else zbind (f_M_rise K l0 F B) (fun r6 F6 B6 => some (r6, F6, B6))) else none else none) = some (r, F9, B9) := hf
  refine lv_iload_n hx hb d_15_164_0 rfl (lv_at hl 0 rfl) ?_
  refine lv_iload_n hx hb d_15_164_1 rfl (lv_at hl 1 rfl) ?_
  obtain ⟨g1, hf⟩ := gif hf
  obtain ⟨g2, hf⟩ := gif hf
  refine zge (tgt := 10) hx hb g1 g2 d_15_164_2 (by decide) (fun h3 => ?_) (fun h3 => ?_)
  · replace hf := gpos hf h3
    refine lv_iload_n hx hb d_15_164_10 rfl (lv_at hl 1 rfl) ?_
    refine z0ne (tgt := 18) hx hb g2 d_15_164_11 (by decide) (fun h4 => ?_) (fun h4 => ?_)
    · replace hf := gneg hf h4
      refine lv_iload_n hx hb d_15_164_18 rfl (lv_at hl 1 rfl) ?_
      obtain ⟨r5, F5, B5, hc5, hf⟩ := gbind hf
      refine va_calli (va_runS (As := [.int (iI l1)]) (rest := []) ⟨hx, hb, hml, hown, hts⟩ (c_M_rise (l := l) hc5) (va_cwS 1 hts (gdS k_13_238 k_13_239 k_1_9 k_14_0) rfl rfl rfl (by decide +kernel) ⟨Nat.le_of_ble_eq_true rfl, Nat.le_of_ble_eq_true rfl⟩) (zPS X hZ hS [.int (iI l1)]) rfl rfl hl.1 rfl (lv_room (Nat.le_of_ble_eq_true rfl)) d_15_164_19 ⟨Nat.le_of_ble_eq_true rfl, Nat.le_of_ble_eq_true rfl⟩) hS (fun q _ h => zAin X hS q h) (zAin X hS) (fun p5 u5 t5 H5 locs5 ht5 hv5 hw5 hB5 hz5 hk5 hS5 => ?_)
      have hZ5 := zBack X ht5 hB5
      subst hw5
      refine lv_sipush (v := iI 400) hx hb d_15_164_22 (by decide) ?_
      refine lv_iload_n hx hb d_15_164_25 rfl (lv_at hl 0 rfl) ?_
      refine lv_iload_n hx hb d_15_164_26 rfl (lv_at hl 1 rfl) ?_
      refine zsub hx hb d_15_164_27 ?_
      refine zsub hx hb d_15_164_28 ?_
      refine zmul hx hb d_15_164_29 ?_
      refine lv_sipush (v := iI 400) hx hb d_15_164_30 (by decide) ?_
      refine zdv_r hx hb (by decide) d_15_164_33 ?_
      exact b_M_level_34 X hf hZ5 hS5 (lv_sub hl [] rfl)
    · replace hf := gpos hf h4
      refine lv_iconst (v := iI 0) hx hb d_15_164_14 rfl ?_
      refine lv_goto (tgt := 34) hx hb d_15_164_15 (by decide) ?_
      exact b_M_level_34 X hf hZ hS (lv_sub hl [] rfl)
  · replace hf := gneg hf h3
    refine lv_iload_n hx hb d_15_164_5 rfl (lv_at hl 0 rfl) ?_
    obtain ⟨r6, F6, B6, hc6, hf⟩ := gbind hf
    refine va_calli (va_runS (As := [.int (iI l0)]) (rest := []) ⟨hx, hb, hml, hown, hts⟩ (c_M_rise (l := l) hc6) (va_cwS 1 hts (gdS k_13_238 k_13_239 k_1_9 k_14_0) rfl rfl rfl (by decide +kernel) ⟨Nat.le_of_ble_eq_true rfl, Nat.le_of_ble_eq_true rfl⟩) (zPS X hZ hS [.int (iI l0)]) rfl rfl hl.1 rfl (lv_room (Nat.le_of_ble_eq_true rfl)) d_15_164_6 ⟨Nat.le_of_ble_eq_true rfl, Nat.le_of_ble_eq_true rfl⟩) hS (fun q _ h => zAin X hS q h) (zAin X hS) (fun p6 u6 t6 H6 locs6 ht6 hv6 hw6 hB6 hz6 hk6 hS6 => ?_)
    have hZ6 := zBack X ht6 hB6
    subst hw6
    cases hf
    exact W.iret hx hb hr (fun t ht hW => ⟨⟨_, (), rfl, rfl, by rw [ht]; exact hZ6, va_K.moved hW.alike hK⟩, hS6.F ht⟩) hS6.2.2 d_15_164_9 hlk

abbrev Q_M_classesAt (D : va_G) (ca : Nat → ClassId) (ad : Nat → Int → Nat → Nat) (L : List Nat) (r : Int) (F : zF) (B : zB) (A : Nat → Prop) : Array Value → State → Outcome → State → Prop := va_Qv (S := Unit) (fun _ => True) (fun _ => zPo D ca ad lnM nM L F B A) A
def f_M_classesAt_168 (rec14 : Int → Int → Int → zF → zB → zO) (rec47 : Int → Int → Int → Int → Int → zF → zB → zO) (K : Nat) (l5 : Int) (l4 : Int) (l3 : Int) (l1 : Int) (l2 : Int) (F : zF) (B : zB) : zO := rec47 (l5 + 1) l4 l3 l1 l2 F B
set_option maxHeartbeats 4000000 in
set_option maxRecDepth 100000 in
theorem b_M_classesAt_168 {D : va_G} {ca : Nat → ClassId} {ad : Nat → Int → Nat → Nat} {L : List Nat} {aS vS : Nat → Nat} {A : Nat → Prop} {p : Program} {l : Launch} {e : Env} {s : State} {m : MethodId} {args : Array Value} {below : List Frame} {meth : Method} {c : Code} {K : Nat} {r : Int} {F9 : zF} {B9 : zB} (X : zX D ca L aS vS A p s m args meth c prog_15_method_173_code 7 (Option.none : Option Jvm.ClassFile.FieldType) "StaveHouseModel") {rec14 : Int → Int → Int → zF → zB → zO} {rec47 : Int → Int → Int → Int → Int → zF → zB → zO} (hrec14 : ∀ {l3 : Int} {l1 : Int} {l2 : Int} {F : zF} {B : zB} {H : Heap} {locs : List Loc} {ls : Array Slot}, rec14 l3 l1 l2 F B = some (r, F9, B9) → zH D ca ad lnM nM L F B A H → va_S A s.heap H locs → lv_has ls 7 [(3, .int (iI l3)), (0, .ref (ad 14 0 0)), (1, .ref (ad 13 l1 0)), (2, .int (iI l2))] → W p l e ({ frames := 1, cells := 0, slots := 0, locals := 23 } : Room) s m args below meth c H locs 0 0 (MQ below (Q_M_classesAt D ca ad L r F9 B9 A) args s 0 0 A) (F0 m 14 ls [])) (hrec47 : ∀ {l5 : Int} {l4 : Int} {l3 : Int} {l1 : Int} {l2 : Int} {F : zF} {B : zB} {H : Heap} {locs : List Loc} {ls : Array Slot}, rec47 l5 l4 l3 l1 l2 F B = some (r, F9, B9) → zH D ca ad lnM nM L F B A H → va_S A s.heap H locs → lv_has ls 7 [(5, .int (iI l5)), (4, .int (iI l4)), (3, .int (iI l3)), (0, .ref (ad 14 0 0)), (1, .ref (ad 13 l1 0)), (2, .int (iI l2))] → W p l e ({ frames := 1, cells := 0, slots := 0, locals := 23 } : Room) s m args below meth c H locs 0 0 (MQ below (Q_M_classesAt D ca ad L r F9 B9 A) args s 0 0 A) (F0 m 47 ls [])) {l5 : Int} {l4 : Int} {l3 : Int} {l1 : Int} {l2 : Int} {F : zF} {B : zB} {H : Heap} {locs : List Loc} {ls : Array Slot} (hf : f_M_classesAt_168 rec14 rec47 K l5 l4 l3 l1 l2 F B = some (r, F9, B9)) (hZ : zH D ca ad lnM nM L F B A H) (hS : va_S A s.heap H locs) (hl : lv_has ls 7 [(5, .int (iI l5)), (4, .int (iI l4)), (3, .int (iI l3)), (0, .ref (ad 14 0 0)), (1, .ref (ad 13 l1 0)), (2, .int (iI l2))]) : W p l e ({ frames := 1, cells := 0, slots := 0, locals := 23 } : Room) s m args below meth c H locs 0 0 (MQ below (Q_M_classesAt D ca ad L r F9 B9 A) args s 0 0 A) (F0 m 168 ls []) := by
  obtain ⟨hx, hb, hr, hml, hown, hts, hlk, hK, hA, hL, hX⟩ := id X
  replace hf : (rec47 (l5 + 1) l4 l3 l1 l2 F B) = some (r, F9, B9) := hf
  refine lv_iinc (v := iI (l5 + 1)) (lv' := [(5, .int (iI (l5 + 1))), (4, .int (iI l4)), (3, .int (iI l3)), (0, .ref (ad 14 0 0)), (1, .ref (ad 13 l1 0)), (2, .int (iI l2))]) hx hb d_15_173_168 hl (k := 0) rfl (iI_add _ 1) (by decide) rfl (fun ls hl => ?_)
  refine lv_goto (tgt := 47) hx hb d_15_173_171 (by decide) ?_
  exact hrec47 hf hZ hS (lv_sub hl [0, 1, 2, 3, 4, 5] rfl)

def f_M_classesAt_140 (rec14 : Int → Int → Int → zF → zB → zO) (rec47 : Int → Int → Int → Int → Int → zF → zB → zO) (K : Nat) (l6 : Int) (l5 : Int) (l4 : Int) (l3 : Int) (l1 : Int) (l2 : Int) (F : zF) (B : zB) : zO := if 0 ≤ l1 ∧ l1 < 3 then if 0 ≤ l5 ∧ l5 < 24000 then f_M_classesAt_168 rec14 rec47 K l5 l4 l3 l1 l2 (zup3 (zup3 (zup3 F 14 0 101 l6) 14 0 102 (B 13 l1 28 l5)) 14 0 103 (B 13 l1 29 l5)) B else none else none
set_option maxHeartbeats 4000000 in
set_option maxRecDepth 100000 in
theorem b_M_classesAt_140 {D : va_G} {ca : Nat → ClassId} {ad : Nat → Int → Nat → Nat} {L : List Nat} {aS vS : Nat → Nat} {A : Nat → Prop} {p : Program} {l : Launch} {e : Env} {s : State} {m : MethodId} {args : Array Value} {below : List Frame} {meth : Method} {c : Code} {K : Nat} {r : Int} {F9 : zF} {B9 : zB} (X : zX D ca L aS vS A p s m args meth c prog_15_method_173_code 7 (Option.none : Option Jvm.ClassFile.FieldType) "StaveHouseModel") {rec14 : Int → Int → Int → zF → zB → zO} {rec47 : Int → Int → Int → Int → Int → zF → zB → zO} (hrec14 : ∀ {l3 : Int} {l1 : Int} {l2 : Int} {F : zF} {B : zB} {H : Heap} {locs : List Loc} {ls : Array Slot}, rec14 l3 l1 l2 F B = some (r, F9, B9) → zH D ca ad lnM nM L F B A H → va_S A s.heap H locs → lv_has ls 7 [(3, .int (iI l3)), (0, .ref (ad 14 0 0)), (1, .ref (ad 13 l1 0)), (2, .int (iI l2))] → W p l e ({ frames := 1, cells := 0, slots := 0, locals := 23 } : Room) s m args below meth c H locs 0 0 (MQ below (Q_M_classesAt D ca ad L r F9 B9 A) args s 0 0 A) (F0 m 14 ls [])) (hrec47 : ∀ {l5 : Int} {l4 : Int} {l3 : Int} {l1 : Int} {l2 : Int} {F : zF} {B : zB} {H : Heap} {locs : List Loc} {ls : Array Slot}, rec47 l5 l4 l3 l1 l2 F B = some (r, F9, B9) → zH D ca ad lnM nM L F B A H → va_S A s.heap H locs → lv_has ls 7 [(5, .int (iI l5)), (4, .int (iI l4)), (3, .int (iI l3)), (0, .ref (ad 14 0 0)), (1, .ref (ad 13 l1 0)), (2, .int (iI l2))] → W p l e ({ frames := 1, cells := 0, slots := 0, locals := 23 } : Room) s m args below meth c H locs 0 0 (MQ below (Q_M_classesAt D ca ad L r F9 B9 A) args s 0 0 A) (F0 m 47 ls [])) {l6 : Int} {l5 : Int} {l4 : Int} {l3 : Int} {l1 : Int} {l2 : Int} {F : zF} {B : zB} {H : Heap} {locs : List Loc} {ls : Array Slot} (hf : f_M_classesAt_140 rec14 rec47 K l6 l5 l4 l3 l1 l2 F B = some (r, F9, B9)) (hZ : zH D ca ad lnM nM L F B A H) (hS : va_S A s.heap H locs) (hl : lv_has ls 7 [(6, .int (iI l6)), (5, .int (iI l5)), (4, .int (iI l4)), (3, .int (iI l3)), (0, .ref (ad 14 0 0)), (1, .ref (ad 13 l1 0)), (2, .int (iI l2))]) : W p l e ({ frames := 1, cells := 0, slots := 0, locals := 23 } : Room) s m args below meth c H locs 0 0 (MQ below (Q_M_classesAt D ca ad L r F9 B9 A) args s 0 0 A) (F0 m 140 ls []) := by
  obtain ⟨hx, hb, hr, hml, hown, hts, hlk, hK, hA, hL, hX⟩ := id X
  replace hf : (if 0 ≤ l1 ∧ l1 < 3 then if 0 ≤ l5 ∧ l5 < 24000 then f_M_classesAt_168 rec14 rec47 K l5 l4 l3 l1 l2 (zup3 (zup3 (zup3 F 14 0 101 l6) 14 0 102 (B 13 l1 28 l5)) 14 0 103 (B 13 l1 29 l5)) B else none else none) = some (r, F9, B9) := hf
  refine lv_aload_n hx hb d_15_173_140 rfl (lv_at hl 4 rfl) ?_
  refine lv_iload hx hb d_15_173_141 (lv_at hl 0 rfl) ?_
  refine zput (ci := 14) (C := RX14) (T := TX14) (k := 101) (v := l6) (w := .int (iI l6)) hx hb hts inW_14 tyX14 tyX14_ok nmX14 hown hK hZ hS (by decide) (by decide) rfl (by decide) k_11_99 rfl (fun G h => congrArg (fun q => Value.int (iI q)) h) rfl rfl d_15_173_143 (fun H23 locs23 hZ23 hS23 => ?_)
  refine lv_aload_n hx hb d_15_173_146 rfl (lv_at hl 4 rfl) ?_
  refine lv_aload_n hx hb d_15_173_147 rfl (lv_at hl 5 rfl) ?_
  obtain ⟨g24, hf⟩ := gif hf
  refine zget (ci := 13) (C := RX13) (T := TX13) (v := .ref (ad 13 l1 (28 + 1))) (k := 28) hx hb hts inW_13 hown hK hZ23 g24.1 g24.2 rfl (by decide) k_9_174 rfl d_15_173_148 ?_
  refine lv_iload hx hb d_15_173_151 (lv_at hl 1 rfl) ?_
  obtain ⟨g25, hf⟩ := gif hf
  refine zald (ci := 13) (k := 28) hx hb hK rfl hZ23 g24.1 g24.2 rfl (Nat.le_of_ble_eq_true rfl) g25.1 g25.2 d_15_173_153 ?_
  refine zput (ci := 14) (C := RX14) (T := TX14) (k := 102) (v := (B 13 l1 28 l5)) (w := .int (iI (B 13 l1 28 l5))) hx hb hts inW_14 tyX14 tyX14_ok nmX14 hown hK hZ23 hS23 (by decide) (by decide) rfl (by decide) k_11_100 rfl (fun G h => congrArg (fun q => Value.int (iI q)) h) rfl rfl d_15_173_154 (fun H26 locs26 hZ26 hS26 => ?_)
  refine lv_aload_n hx hb d_15_173_157 rfl (lv_at hl 4 rfl) ?_
  refine lv_aload_n hx hb d_15_173_158 rfl (lv_at hl 5 rfl) ?_
  refine zget (ci := 13) (C := RX13) (T := TX13) (v := .ref (ad 13 l1 (29 + 1))) (k := 29) hx hb hts inW_13 hown hK hZ26 g24.1 g24.2 rfl (by decide) k_9_176 rfl d_15_173_159 ?_
  refine lv_iload hx hb d_15_173_162 (lv_at hl 1 rfl) ?_
  refine zald (ci := 13) (k := 29) hx hb hK rfl hZ26 g24.1 g24.2 rfl (Nat.le_of_ble_eq_true rfl) g25.1 g25.2 d_15_173_164 ?_
  refine zput (ci := 14) (C := RX14) (T := TX14) (k := 103) (v := (B 13 l1 29 l5)) (w := .int (iI (B 13 l1 29 l5))) hx hb hts inW_14 tyX14 tyX14_ok nmX14 hown hK hZ26 hS26 (by decide) (by decide) rfl (by decide) k_11_101 rfl (fun G h => congrArg (fun q => Value.int (iI q)) h) rfl rfl d_15_173_165 (fun H27 locs27 hZ27 hS27 => ?_)
  exact b_M_classesAt_168 X hrec14 hrec47 hf hZ27 hS27 (lv_sub hl [1, 2, 3, 4, 5, 6] rfl)

def f_M_classesAt_47 (rec14 : Int → Int → Int → zF → zB → zO) (K : Nat) : Nat → Int → Int → Int → Int → Int → zF → zB → zO
  | 0, _, _, _, _, _, _, _ => none
  | n + 1, l5, l4, l3, l1, l2, F, B => if 0 ≤ l1 ∧ l1 < 3 then if 0 ≤ l4 ∧ l4 < 4000 then if r32 l5 then if r32 ((6 * l4) + (B 13 l1 21 l4)) then (if ((6 * l4) + (B 13 l1 21 l4)) ≤ l5 then rec14 (l3 + 1) l1 l2 F B else if 0 ≤ l5 ∧ l5 < 24000 then zbind (f_M_classOf K (zrm (B 13 l1 28 l5) 7) (B 13 l1 29 l5) F B) (fun r14 F14 B14 => zbind (f_M_tone K (B14 13 l1 28 l5) (B14 13 l1 29 l5) F14 B14) (fun r15 F15 B15 => if r32 r15 then if r32 (F15 14 0 101) then (if (F15 14 0 101) < r15 then f_M_classesAt_168 rec14 (f_M_classesAt_47 rec14 K n) K l5 l4 l3 l1 l2 F15 B15 else (if r15 = (F15 14 0 101) then if r32 (B15 13 l1 28 l5) then if r32 (F15 14 0 102) then (if (B15 13 l1 28 l5) < (F15 14 0 102) then f_M_classesAt_140 rec14 (f_M_classesAt_47 rec14 K n) K r15 l5 l4 l3 l1 l2 F15 B15 else f_M_classesAt_168 rec14 (f_M_classesAt_47 rec14 K n) K l5 l4 l3 l1 l2 F15 B15) else none else none else f_M_classesAt_140 rec14 (f_M_classesAt_47 rec14 K n) K r15 l5 l4 l3 l1 l2 F15 B15)) else none else none)) else none) else none else none else none else none
set_option maxHeartbeats 4000000 in
set_option maxRecDepth 100000 in
theorem b_M_classesAt_47 {D : va_G} {ca : Nat → ClassId} {ad : Nat → Int → Nat → Nat} {L : List Nat} {aS vS : Nat → Nat} {A : Nat → Prop} {p : Program} {l : Launch} {e : Env} {s : State} {m : MethodId} {args : Array Value} {below : List Frame} {meth : Method} {c : Code} {K : Nat} {r : Int} {F9 : zF} {B9 : zB} (X : zX D ca L aS vS A p s m args meth c prog_15_method_173_code 7 (Option.none : Option Jvm.ClassFile.FieldType) "StaveHouseModel") {rec14 : Int → Int → Int → zF → zB → zO} (hrec14 : ∀ {l3 : Int} {l1 : Int} {l2 : Int} {F : zF} {B : zB} {H : Heap} {locs : List Loc} {ls : Array Slot}, rec14 l3 l1 l2 F B = some (r, F9, B9) → zH D ca ad lnM nM L F B A H → va_S A s.heap H locs → lv_has ls 7 [(3, .int (iI l3)), (0, .ref (ad 14 0 0)), (1, .ref (ad 13 l1 0)), (2, .int (iI l2))] → W p l e ({ frames := 1, cells := 0, slots := 0, locals := 23 } : Room) s m args below meth c H locs 0 0 (MQ below (Q_M_classesAt D ca ad L r F9 B9 A) args s 0 0 A) (F0 m 14 ls [])) : ∀ {n : Nat} {l5 : Int} {l4 : Int} {l3 : Int} {l1 : Int} {l2 : Int} {F : zF} {B : zB} {H : Heap} {locs : List Loc} {ls : Array Slot}, f_M_classesAt_47 rec14 K n l5 l4 l3 l1 l2 F B = some (r, F9, B9) → zH D ca ad lnM nM L F B A H → va_S A s.heap H locs → lv_has ls 7 [(5, .int (iI l5)), (4, .int (iI l4)), (3, .int (iI l3)), (0, .ref (ad 14 0 0)), (1, .ref (ad 13 l1 0)), (2, .int (iI l2))] → W p l e ({ frames := 1, cells := 0, slots := 0, locals := 23 } : Room) s m args below meth c H locs 0 0 (MQ below (Q_M_classesAt D ca ad L r F9 B9 A) args s 0 0 A) (F0 m 47 ls []) := by
  obtain ⟨hx, hb, hr, hml, hown, hts, hlk, hK, hA, hL, hX⟩ := id X
  intro n
  induction n with
  | zero =>
    intros
    rename_i hf _ _ _
    cases hf
  | succ n ih =>
    intro l5 l4 l3 l1 l2 F B H locs ls hf hZ hS hl
    replace hf : (if 0 ≤ l1 ∧ l1 < 3 then if 0 ≤ l4 ∧ l4 < 4000 then if r32 l5 then if r32 ((6 * l4) + (B 13 l1 21 l4)) then (if ((6 * l4) + (B 13 l1 21 l4)) ≤ l5 then rec14 (l3 + 1) l1 l2 F B else if 0 ≤ l5 ∧ l5 < 24000 then zbind (f_M_classOf K (zrm (B 13 l1 28 l5) 7) (B 13 l1 29 l5) F B) (fun r14 F14 B14 => zbind (f_M_tone K (B14 13 l1 28 l5) (B14 13 l1 29 l5) F14 B14) (fun r15 F15 B15 => if r32 r15 then if r32 (F15 14 0 101) then (if (F15 14 0 101) < r15 then f_M_classesAt_168 rec14 (f_M_classesAt_47 rec14 K n) K l5 l4 l3 l1 l2 F15 B15 else (if r15 = (F15 14 0 101) then if r32 (B15 13 l1 28 l5) then if r32 (F15 14 0 102) then (if (B15 13 l1 28 l5) < (F15 14 0 102) then f_M_classesAt_140 rec14 (f_M_classesAt_47 rec14 K n) K r15 l5 l4 l3 l1 l2 F15 B15 else f_M_classesAt_168 rec14 (f_M_classesAt_47 rec14 K n) K l5 l4 l3 l1 l2 F15 B15) else none else none else f_M_classesAt_140 rec14 (f_M_classesAt_47 rec14 K n) K r15 l5 l4 l3 l1 l2 F15 B15)) else none else none)) else none) else none else none else none else none) = some (r, F9, B9) := hf
    refine lv_iload hx hb d_15_173_47 (lv_at hl 0 rfl) ?_
    refine lv_bipush (v := iI 6) hx hb d_15_173_49 (by decide) ?_
    refine lv_iload hx hb d_15_173_51 (lv_at hl 1 rfl) ?_
    refine zmul hx hb d_15_173_53 ?_
    refine lv_aload_n hx hb d_15_173_54 rfl (lv_at hl 4 rfl) ?_
    obtain ⟨g8, hf⟩ := gif hf
    refine zget (ci := 13) (C := RX13) (T := TX13) (v := .ref (ad 13 l1 (21 + 1))) (k := 21) hx hb hts inW_13 hown hK hZ g8.1 g8.2 rfl (by decide) k_9_160 rfl d_15_173_55 ?_
    refine lv_iload hx hb d_15_173_58 (lv_at hl 1 rfl) ?_
    obtain ⟨g9, hf⟩ := gif hf
    refine zald (ci := 13) (k := 21) hx hb hK rfl hZ g8.1 g8.2 rfl (Nat.le_of_ble_eq_true rfl) g9.1 g9.2 d_15_173_60 ?_
    refine zadd hx hb d_15_173_61 ?_
    obtain ⟨g10, hf⟩ := gif hf
    obtain ⟨g11, hf⟩ := gif hf
    refine zge (tgt := 174) hx hb g10 g11 d_15_173_62 (by decide) (fun h12 => ?_) (fun h12 => ?_)
    · replace hf := gpos hf h12
      refine lv_iinc (v := iI (l3 + 1)) (lv' := [(3, .int (iI (l3 + 1))), (5, .int (iI l5)), (4, .int (iI l4)), (0, .ref (ad 14 0 0)), (1, .ref (ad 13 l1 0)), (2, .int (iI l2))]) hx hb d_15_173_174 hl (k := 2) rfl (iI_add _ 1) (by decide) rfl (fun ls hl => ?_)
      refine lv_goto (tgt := 14) hx hb d_15_173_177 (by decide) ?_
      exact hrec14 hf hZ hS (lv_sub hl [0, 3, 4, 5] rfl)
    · replace hf := gneg hf h12
      refine lv_aload_n hx hb d_15_173_65 rfl (lv_at hl 3 rfl) ?_
      refine lv_aload_n hx hb d_15_173_66 rfl (lv_at hl 4 rfl) ?_
      refine zget (ci := 13) (C := RX13) (T := TX13) (v := .ref (ad 13 l1 (28 + 1))) (k := 28) hx hb hts inW_13 hown hK hZ g8.1 g8.2 rfl (by decide) k_9_174 rfl d_15_173_67 ?_
      refine lv_iload hx hb d_15_173_70 (lv_at hl 0 rfl) ?_
      obtain ⟨g13, hf⟩ := gif hf
      refine zald (ci := 13) (k := 28) hx hb hK rfl hZ g8.1 g8.2 rfl (Nat.le_of_ble_eq_true rfl) g13.1 g13.2 d_15_173_72 ?_
      refine lv_bipush (v := iI 7) hx hb d_15_173_73 (by decide) ?_
      refine zrm_r hx hb (by decide) d_15_173_75 ?_
      refine lv_aload_n hx hb d_15_173_76 rfl (lv_at hl 4 rfl) ?_
      refine zget (ci := 13) (C := RX13) (T := TX13) (v := .ref (ad 13 l1 (29 + 1))) (k := 29) hx hb hts inW_13 hown hK hZ g8.1 g8.2 rfl (by decide) k_9_176 rfl d_15_173_77 ?_
      refine lv_iload hx hb d_15_173_80 (lv_at hl 0 rfl) ?_
      refine zald (ci := 13) (k := 29) hx hb hK rfl hZ g8.1 g8.2 rfl (Nat.le_of_ble_eq_true rfl) g13.1 g13.2 d_15_173_82 ?_
      obtain ⟨r14, F14, B14, hc14, hf⟩ := gbind hf
      refine va_callv (va_runV (As := [.int (iI (zrm (B 13 l1 28 l5) 7)), .int (iI (B 13 l1 29 l5))]) (rest := []) ⟨hx, hb, hml, hown, hts⟩ (c_M_classOf (l := l) hc14) (cwV 2 hts (gdV k_14_25 k_14_27 ks_190 k_1_9 k_14_28) rfl rfl rfl (by decide +kernel) ⟨Nat.le_of_ble_eq_true rfl, Nat.le_of_ble_eq_true rfl⟩) (zPV X hZ hS (ci := 14) (by decide) (by decide) (r := (RX14, TX14, 107)) rfl [.int (iI (zrm (B 13 l1 28 l5) 7)), .int (iI (B 13 l1 29 l5))]) rfl rfl hl.1 rfl (lv_room (Nat.le_of_ble_eq_true rfl)) d_15_173_83 ⟨Nat.le_of_ble_eq_true rfl, Nat.le_of_ble_eq_true rfl⟩) hS (fun q _ h => zAin X hS q h) (zAin X hS) (fun u14 t14 H14 locs14 ht14 hv14 hw14 hB14 hz14 hk14 hS14 => ?_)
      have hZ14 := zBack X ht14 hB14
      refine lv_aload_n hx hb d_15_173_86 rfl (lv_at hl 4 rfl) ?_
      refine zget (ci := 13) (C := RX13) (T := TX13) (v := .ref (ad 13 l1 (28 + 1))) (k := 28) hx hb hts inW_13 hown hK hZ14 g8.1 g8.2 rfl (by decide) k_9_174 rfl d_15_173_87 ?_
      refine lv_iload hx hb d_15_173_90 (lv_at hl 0 rfl) ?_
      refine zald (ci := 13) (k := 28) hx hb hK rfl hZ14 g8.1 g8.2 rfl (Nat.le_of_ble_eq_true rfl) g13.1 g13.2 d_15_173_92 ?_
      refine lv_aload_n hx hb d_15_173_93 rfl (lv_at hl 4 rfl) ?_
      refine zget (ci := 13) (C := RX13) (T := TX13) (v := .ref (ad 13 l1 (29 + 1))) (k := 29) hx hb hts inW_13 hown hK hZ14 g8.1 g8.2 rfl (by decide) k_9_176 rfl d_15_173_94 ?_
      refine lv_iload hx hb d_15_173_97 (lv_at hl 0 rfl) ?_
      refine zald (ci := 13) (k := 29) hx hb hK rfl hZ14 g8.1 g8.2 rfl (Nat.le_of_ble_eq_true rfl) g13.1 g13.2 d_15_173_99 ?_
      obtain ⟨r15, F15, B15, hc15, hf⟩ := gbind hf
      refine va_calli (va_runS (As := [.int (iI (B14 13 l1 28 l5)), .int (iI (B14 13 l1 29 l5))]) (rest := []) ⟨hx, hb, hml, hown, hts⟩ (c_M_tone (l := l) hc15) (va_cwS 2 hts (gdS k_12_158 k_12_159 k_1_9 k_12_160) rfl rfl rfl (by decide +kernel) ⟨Nat.le_of_ble_eq_true rfl, Nat.le_of_ble_eq_true rfl⟩) (zPS X hZ14 hS14 [.int (iI (B14 13 l1 28 l5)), .int (iI (B14 13 l1 29 l5))]) rfl rfl hl.1 rfl (lv_room (Nat.le_of_ble_eq_true rfl)) d_15_173_100 ⟨Nat.le_of_ble_eq_true rfl, Nat.le_of_ble_eq_true rfl⟩) hS14 (fun q _ h => zAin X hS14 q h) (zAin X hS14) (fun p15 u15 t15 H15 locs15 ht15 hv15 hw15 hB15 hz15 hk15 hS15 => ?_)
      have hZ15 := zBack X ht15 hB15
      subst hw15
      refine lv_istore (lv' := [(6, .int (iI r15)), (5, .int (iI l5)), (4, .int (iI l4)), (3, .int (iI l3)), (0, .ref (ad 14 0 0)), (1, .ref (ad 13 l1 0)), (2, .int (iI l2))]) hx hb d_15_173_103 hl (by decide) rfl (fun ls hl => ?_)
      refine lv_iload hx hb d_15_173_105 (lv_at hl 0 rfl) ?_
      refine lv_aload_n hx hb d_15_173_107 rfl (lv_at hl 4 rfl) ?_
      refine zget (ci := 14) (C := RX14) (T := TX14) (v := .int (iI (F15 14 0 101))) (k := 101) hx hb hts inW_14 hown hK hZ15 (by decide) (by decide) rfl (by decide) k_11_99 rfl d_15_173_108 ?_
      obtain ⟨g16, hf⟩ := gif hf
      obtain ⟨g17, hf⟩ := gif hf
      refine zgt (tgt := 168) hx hb g16 g17 d_15_173_111 (by decide) (fun h18 => ?_) (fun h18 => ?_)
      · replace hf := gpos hf h18
        exact b_M_classesAt_168 X hrec14 ih hf hZ15 hS15 (lv_sub hl [1, 2, 3, 4, 5, 6] rfl)
      · replace hf := gneg hf h18
        refine lv_iload hx hb d_15_173_114 (lv_at hl 0 rfl) ?_
        refine lv_aload_n hx hb d_15_173_116 rfl (lv_at hl 4 rfl) ?_
        refine zget (ci := 14) (C := RX14) (T := TX14) (v := .int (iI (F15 14 0 101))) (k := 101) hx hb hts inW_14 hown hK hZ15 (by decide) (by decide) rfl (by decide) k_11_99 rfl d_15_173_117 ?_
        refine zne (tgt := 140) hx hb g16 g17 d_15_173_120 (by decide) (fun h19 => ?_) (fun h19 => ?_)
        · replace hf := gneg hf h19
          exact b_M_classesAt_140 X hrec14 ih hf hZ15 hS15 (lv_sub hl [0, 1, 2, 3, 4, 5, 6] rfl)
        · replace hf := gpos hf h19
          refine lv_aload_n hx hb d_15_173_123 rfl (lv_at hl 5 rfl) ?_
          refine zget (ci := 13) (C := RX13) (T := TX13) (v := .ref (ad 13 l1 (28 + 1))) (k := 28) hx hb hts inW_13 hown hK hZ15 g8.1 g8.2 rfl (by decide) k_9_174 rfl d_15_173_124 ?_
          refine lv_iload hx hb d_15_173_127 (lv_at hl 1 rfl) ?_
          refine zald (ci := 13) (k := 28) hx hb hK rfl hZ15 g8.1 g8.2 rfl (Nat.le_of_ble_eq_true rfl) g13.1 g13.2 d_15_173_129 ?_
          refine lv_aload_n hx hb d_15_173_130 rfl (lv_at hl 4 rfl) ?_
          refine zget (ci := 14) (C := RX14) (T := TX14) (v := .int (iI (F15 14 0 102))) (k := 102) hx hb hts inW_14 hown hK hZ15 (by decide) (by decide) rfl (by decide) k_11_100 rfl d_15_173_131 ?_
          obtain ⟨g20, hf⟩ := gif hf
          obtain ⟨g21, hf⟩ := gif hf
          refine zlt (tgt := 140) hx hb g20 g21 d_15_173_134 (by decide) (fun h22 => ?_) (fun h22 => ?_)
          · replace hf := gpos hf h22
            exact b_M_classesAt_140 X hrec14 ih hf hZ15 hS15 (lv_sub hl [0, 1, 2, 3, 4, 5, 6] rfl)
          · replace hf := gneg hf h22
            refine lv_goto (tgt := 168) hx hb d_15_173_137 (by decide) ?_
            exact b_M_classesAt_168 X hrec14 ih hf hZ15 hS15 (lv_sub hl [1, 2, 3, 4, 5, 6] rfl)

def f_M_classesAt_14 (K : Nat) : Nat → Int → Int → Int → zF → zB → zO
  | 0, _, _, _, _, _ => none
  | n + 1, l3, l1, l2, F, B => if 0 ≤ l1 ∧ l1 < 3 then if r32 l3 then if r32 (F 13 l1 1) then (if (F 13 l1 1) ≤ l3 then some (0, F, B) else if 0 ≤ ((4 * l2) + l3) ∧ ((4 * l2) + l3) < 3200 then f_M_classesAt_47 (f_M_classesAt_14 K n) K K (6 * ((1000 * l3) + (B 13 l1 75 ((4 * l2) + l3)))) ((1000 * l3) + (B 13 l1 75 ((4 * l2) + l3))) l3 l1 l2 F B else none) else none else none else none
set_option maxHeartbeats 4000000 in
set_option maxRecDepth 100000 in
theorem b_M_classesAt_14 {D : va_G} {ca : Nat → ClassId} {ad : Nat → Int → Nat → Nat} {L : List Nat} {aS vS : Nat → Nat} {A : Nat → Prop} {p : Program} {l : Launch} {e : Env} {s : State} {m : MethodId} {args : Array Value} {below : List Frame} {meth : Method} {c : Code} {K : Nat} {r : Int} {F9 : zF} {B9 : zB} (X : zX D ca L aS vS A p s m args meth c prog_15_method_173_code 7 (Option.none : Option Jvm.ClassFile.FieldType) "StaveHouseModel") : ∀ {n : Nat} {l3 : Int} {l1 : Int} {l2 : Int} {F : zF} {B : zB} {H : Heap} {locs : List Loc} {ls : Array Slot}, f_M_classesAt_14 K n l3 l1 l2 F B = some (r, F9, B9) → zH D ca ad lnM nM L F B A H → va_S A s.heap H locs → lv_has ls 7 [(3, .int (iI l3)), (0, .ref (ad 14 0 0)), (1, .ref (ad 13 l1 0)), (2, .int (iI l2))] → W p l e ({ frames := 1, cells := 0, slots := 0, locals := 23 } : Room) s m args below meth c H locs 0 0 (MQ below (Q_M_classesAt D ca ad L r F9 B9 A) args s 0 0 A) (F0 m 14 ls []) := by
  obtain ⟨hx, hb, hr, hml, hown, hts, hlk, hK, hA, hL, hX⟩ := id X
  intro n
  induction n with
  | zero =>
    intros
    rename_i hf _ _ _
    cases hf
  | succ n ih =>
    intro l3 l1 l2 F B H locs ls hf hZ hS hl
    replace hf : (if 0 ≤ l1 ∧ l1 < 3 then if r32 l3 then if r32 (F 13 l1 1) then (if (F 13 l1 1) ≤ l3 then some (0, F, B) else if 0 ≤ ((4 * l2) + l3) ∧ ((4 * l2) + l3) < 3200 then f_M_classesAt_47 (f_M_classesAt_14 K n) K K (6 * ((1000 * l3) + (B 13 l1 75 ((4 * l2) + l3)))) ((1000 * l3) + (B 13 l1 75 ((4 * l2) + l3))) l3 l1 l2 F B else none) else none else none else none) = some (r, F9, B9) := hf
    refine lv_iload_n hx hb d_15_173_14 rfl (lv_at hl 0 rfl) ?_
    refine lv_aload_n hx hb d_15_173_15 rfl (lv_at hl 2 rfl) ?_
    obtain ⟨g3, hf⟩ := gif hf
    refine zget (ci := 13) (C := RX13) (T := TX13) (v := .int (iI (F 13 l1 1))) (k := 1) hx hb hts inW_13 hown hK hZ g3.1 g3.2 rfl (by decide) k_9_126 rfl d_15_173_16 ?_
    obtain ⟨g4, hf⟩ := gif hf
    obtain ⟨g5, hf⟩ := gif hf
    refine zge (tgt := 180) hx hb g4 g5 d_15_173_19 (by decide) (fun h6 => ?_) (fun h6 => ?_)
    · replace hf := gpos hf h6
      cases hf
      exact W.vret hx hb hr (fun t ht hW => ⟨⟨(), rfl, trivial, by rw [ht]; exact hZ, va_K.moved hW.alike hK⟩, hS.F ht⟩) hS.2.2 d_15_173_180 hlk
    · replace hf := gneg hf h6
      refine lv_sipush (v := iI 1000) hx hb d_15_173_22 (by decide) ?_
      refine lv_iload_n hx hb d_15_173_25 rfl (lv_at hl 0 rfl) ?_
      refine zmul hx hb d_15_173_26 ?_
      refine lv_aload_n hx hb d_15_173_27 rfl (lv_at hl 2 rfl) ?_
      refine zget (ci := 13) (C := RX13) (T := TX13) (v := .ref (ad 13 l1 (75 + 1))) (k := 75) hx hb hts inW_13 hown hK hZ g3.1 g3.2 rfl (by decide) k_10_17 rfl d_15_173_28 ?_
      refine lv_iconst (v := iI 4) hx hb d_15_173_31 rfl ?_
      refine lv_iload_n hx hb d_15_173_32 rfl (lv_at hl 3 rfl) ?_
      refine zmul hx hb d_15_173_33 ?_
      refine lv_iload_n hx hb d_15_173_34 rfl (lv_at hl 0 rfl) ?_
      refine zadd hx hb d_15_173_35 ?_
      obtain ⟨g7, hf⟩ := gif hf
      refine zald (ci := 13) (k := 75) hx hb hK rfl hZ g3.1 g3.2 rfl (Nat.le_of_ble_eq_true rfl) g7.1 g7.2 d_15_173_36 ?_
      refine zadd hx hb d_15_173_37 ?_
      refine lv_istore (lv' := [(4, .int (iI ((1000 * l3) + (B 13 l1 75 ((4 * l2) + l3))))), (3, .int (iI l3)), (0, .ref (ad 14 0 0)), (1, .ref (ad 13 l1 0)), (2, .int (iI l2))]) hx hb d_15_173_38 hl (by decide) rfl (fun ls hl => ?_)
      refine lv_bipush (v := iI 6) hx hb d_15_173_40 (by decide) ?_
      refine lv_iload hx hb d_15_173_42 (lv_at hl 0 rfl) ?_
      refine zmul hx hb d_15_173_44 ?_
      refine lv_istore (lv' := [(5, .int (iI (6 * ((1000 * l3) + (B 13 l1 75 ((4 * l2) + l3)))))), (4, .int (iI ((1000 * l3) + (B 13 l1 75 ((4 * l2) + l3))))), (3, .int (iI l3)), (0, .ref (ad 14 0 0)), (1, .ref (ad 13 l1 0)), (2, .int (iI l2))]) hx hb d_15_173_45 hl (by decide) rfl (fun ls hl => ?_)
      exact b_M_classesAt_47 X ih hf hZ hS (lv_sub hl [0, 1, 2, 3, 4, 5] rfl)

def f_M_classesAt (K : Nat) (l1 : Int) (l2 : Int) (F : zF) (B : zB) : zO := f_M_classesAt_14 K K 0 l1 l2 (zup3 (zup3 F 14 0 100 0) 14 0 101 1000) B
set_option maxHeartbeats 4000000 in
set_option maxRecDepth 100000 in
theorem c_M_classesAt {l : Launch} {D : va_G} {ca : Nat → ClassId} {ad : Nat → Int → Nat → Nat} {L : List Nat} {aS vS : Nat → Nat} {sz K : Nat} {l1 : Int} {l2 : Int} {F F9 : zF} {B B9 : zB} {r : Int} (hf : f_M_classesAt K l1 l2 F B = some (r, F9, B9)) : Met l ({ cls := "StaveHouseModel", name := "classesAt", desc := "(LStaveHouseModel$Piece;I)V" } : Jvm.MethodName) (Cond.code ({ cls := "StaveHouseModel", name := "classesAt", desc := "(LStaveHouseModel$Piece;I)V" } : Jvm.MethodName) prog_15_method_173_code 7 (Option.none : Option Jvm.ClassFile.FieldType) :: wAll) ({ frames := 1, cells := 0, slots := 0, locals := 23 } : Room) (va_Pc [.ref (ad 14 0 0), .ref (ad 13 l1 0), .int (iI l2)] (zPre D ca ad lnM nM L aS vS F B sz)) (Q_M_classesAt D ca ad L r F9 B9 (zA L sz)) 0 0 (zA L sz) := by
  refine zMet (Qc := Q_M_classesAt D ca ad L r F9 B9) (lv := [(0, .ref (ad 14 0 0)), (1, .ref (ad 13 l1 0)), (2, .int (iI l2))]) (by decide) (Nat.le_of_ble_eq_true rfl) rfl (fun A p e s m below meth c ls X hZ hS hl => ?_)
  obtain ⟨hx, hb, hr, hml, hown, hts, hlk, hK, hA, hL, hX⟩ := id X
  replace hf : (f_M_classesAt_14 K K 0 l1 l2 (zup3 (zup3 F 14 0 100 0) 14 0 101 1000) B) = some (r, F9, B9) := hf
  refine lv_aload_n hx hb d_15_173_0 rfl (lv_at hl 0 rfl) ?_
  refine lv_iconst (v := iI 0) hx hb d_15_173_1 rfl ?_
  refine zput (ci := 14) (C := RX14) (T := TX14) (k := 100) (v := 0) (w := .int (iI 0)) hx hb hts inW_14 tyX14 tyX14_ok nmX14 hown hK hZ hS (by decide) (by decide) rfl (by decide) k_11_98 rfl (fun G h => congrArg (fun q => Value.int (iI q)) h) rfl rfl d_15_173_2 (fun H1 locs1 hZ1 hS1 => ?_)
  refine lv_aload_n hx hb d_15_173_5 rfl (lv_at hl 0 rfl) ?_
  refine lv_sipush (v := iI 1000) hx hb d_15_173_6 (by decide) ?_
  refine zput (ci := 14) (C := RX14) (T := TX14) (k := 101) (v := 1000) (w := .int (iI 1000)) hx hb hts inW_14 tyX14 tyX14_ok nmX14 hown hK hZ1 hS1 (by decide) (by decide) rfl (by decide) k_11_99 rfl (fun G h => congrArg (fun q => Value.int (iI q)) h) rfl rfl d_15_173_9 (fun H2 locs2 hZ2 hS2 => ?_)
  refine lv_iconst (v := iI 0) hx hb d_15_173_12 rfl ?_
  refine lv_istore_n (lv' := [(3, .int (iI 0)), (0, .ref (ad 14 0 0)), (1, .ref (ad 13 l1 0)), (2, .int (iI l2))]) hx hb d_15_173_13 rfl hl (by decide) rfl (fun ls hl => ?_)
  exact b_M_classesAt_14 X hf hZ2 hS2 (lv_sub hl [0, 1, 2, 3] rfl)

