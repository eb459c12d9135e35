theorem k_9_158 : (Jvm.Cond.fieldLink "StaveHouseModel" (595 : Nat) "StaveHouseModel$Piece" "token" "[I") ∈ wAll := wA_9 (j := 158) rfl rfl
theorem k_13_140 : (Jvm.Cond.methodLink "StaveHouseModel" (725 : Nat) ({ cls := "StaveHouseModel", name := "pieces", desc := "(LStaveHouseModel$Piece;IIJJJJZ)V" } : Jvm.MethodName)) ∈ wAll := wA_13 (j := 140) rfl rfl
theorem k_13_142 : (Jvm.Cond.instanceMethod ({ cls := "StaveHouseModel", name := "pieces", desc := "(LStaveHouseModel$Piece;IIJJJJZ)V" } : Jvm.MethodName)) ∈ wAll := wA_13 (j := 142) rfl rfl
theorem ks_176 : (Jvm.Cond.selects "StaveHouseModel" ({ cls := "StaveHouseModel", name := "pieces", desc := "(LStaveHouseModel$Piece;IIJJJJZ)V" } : Jvm.MethodName) ({ cls := "StaveHouseModel", name := "pieces", desc := "(LStaveHouseModel$Piece;IIJJJJZ)V" } : Jvm.MethodName)) ∈ wAll := wA_s (j := 176) rfl rfl
theorem k_13_143 : (Jvm.Cond.code ({ cls := "StaveHouseModel", name := "pieces", desc := "(LStaveHouseModel$Piece;IIJJJJZ)V" } : Jvm.MethodName) prog_15_method_87_code (27 : Nat) (Option.none : Option Jvm.ClassFile.FieldType)) ∈ wAll := wA_13 (j := 143) rfl rfl
theorem k_13_128 : (Jvm.Cond.methodLink "StaveHouseModel" (638 : Nat) ({ cls := "StaveHouseModel", name := "places", desc := "(LStaveHouseModel$Piece;I)V" } : Jvm.MethodName)) ∈ wAll := wA_13 (j := 128) rfl rfl
theorem k_13_130 : (Jvm.Cond.instanceMethod ({ cls := "StaveHouseModel", name := "places", desc := "(LStaveHouseModel$Piece;I)V" } : Jvm.MethodName)) ∈ wAll := wA_13 (j := 130) rfl rfl
theorem ks_173 : (Jvm.Cond.selects "StaveHouseModel" ({ cls := "StaveHouseModel", name := "places", desc := "(LStaveHouseModel$Piece;I)V" } : Jvm.MethodName) ({ cls := "StaveHouseModel", name := "places", desc := "(LStaveHouseModel$Piece;I)V" } : Jvm.MethodName)) ∈ wAll := wA_s (j := 173) rfl rfl
theorem k_13_131 : (Jvm.Cond.code ({ cls := "StaveHouseModel", name := "places", desc := "(LStaveHouseModel$Piece;I)V" } : Jvm.MethodName) prog_15_method_76_code (5 : Nat) (Option.none : Option Jvm.ClassFile.FieldType)) ∈ wAll := wA_13 (j := 131) rfl rfl
theorem k_11_26 : (Jvm.Cond.fieldLink "StaveHouseModel" (153 : Nat) "StaveHouseModel" "voiceToken" "[I") ∈ wAll := wA_11 (j := 26) rfl rfl
theorem k_15_38 : (Jvm.Cond.methodLink "StaveHouseModel" (642 : Nat) ({ cls := "StaveHouseModel", name := "judgeOuter", desc := "(I)V" } : Jvm.MethodName)) ∈ wAll := wA_15 (j := 38) rfl rfl
theorem k_15_40 : (Jvm.Cond.instanceMethod ({ cls := "StaveHouseModel", name := "judgeOuter", desc := "(I)V" } : Jvm.MethodName)) ∈ wAll := wA_15 (j := 40) rfl rfl
theorem ks_239 : (Jvm.Cond.selects "StaveHouseModel" ({ cls := "StaveHouseModel", name := "judgeOuter", desc := "(I)V" } : Jvm.MethodName) ({ cls := "StaveHouseModel", name := "judgeOuter", desc := "(I)V" } : Jvm.MethodName)) ∈ wAll := wA_s (j := 239) rfl rfl
theorem k_15_41 : (Jvm.Cond.code ({ cls := "StaveHouseModel", name := "judgeOuter", desc := "(I)V" } : Jvm.MethodName) prog_15_method_75_code (11 : Nat) (Option.none : Option Jvm.ClassFile.FieldType)) ∈ wAll := wA_15 (j := 41) rfl rfl
theorem k_15_45 : (Jvm.Cond.methodLink "StaveHouseModel" (645 : Nat) ({ cls := "StaveHouseModel", name := "share", desc := "(LStaveHouseModel$Piece;II)Z" } : Jvm.MethodName)) ∈ wAll := wA_15 (j := 45) rfl rfl
theorem k_15_46 : (Jvm.Cond.static ({ cls := "StaveHouseModel", name := "share", desc := "(LStaveHouseModel$Piece;II)Z" } : Jvm.MethodName)) ∈ wAll := wA_15 (j := 46) rfl rfl
theorem k_15_47 : (Jvm.Cond.code ({ cls := "StaveHouseModel", name := "share", desc := "(LStaveHouseModel$Piece;II)Z" } : Jvm.MethodName) prog_15_method_72_code (5 : Nat) (Option.some Jvm.ClassFile.FieldType.boolean)) ∈ wAll := wA_15 (j := 47) rfl rfl
theorem k_13_136 : (Jvm.Cond.methodLink "StaveHouseModel" (652 : Nat) ({ cls := "StaveHouseModel", name := "notes", desc := "(LStaveHouseModel$Piece;IZ)I" } : Jvm.MethodName)) ∈ wAll := wA_13 (j := 136) rfl rfl
theorem k_13_138 : (Jvm.Cond.instanceMethod ({ cls := "StaveHouseModel", name := "notes", desc := "(LStaveHouseModel$Piece;IZ)I" } : Jvm.MethodName)) ∈ wAll := wA_13 (j := 138) rfl rfl
theorem ks_175 : (Jvm.Cond.selects "StaveHouseModel" ({ cls := "StaveHouseModel", name := "notes", desc := "(LStaveHouseModel$Piece;IZ)I" } : Jvm.MethodName) ({ cls := "StaveHouseModel", name := "notes", desc := "(LStaveHouseModel$Piece;IZ)I" } : Jvm.MethodName)) ∈ wAll := wA_s (j := 175) rfl rfl
theorem k_13_139 : (Jvm.Cond.code ({ cls := "StaveHouseModel", name := "notes", desc := "(LStaveHouseModel$Piece;IZ)I" } : Jvm.MethodName) prog_15_method_86_code (10 : Nat) (Option.some Jvm.ClassFile.FieldType.int)) ∈ wAll := wA_13 (j := 139) rfl rfl
theorem d_15_86_0 : decode prog_15_method_86_code 0 = .ok (.aload_n 1, 1) := by decide +kernel
theorem d_15_86_1 : decode prog_15_method_86_code 1 = .ok (.getfield 723, 3) := by decide +kernel
theorem d_15_86_4 : decode prog_15_method_86_code 4 = .ok (.iload_n 2, 1) := by decide +kernel
theorem d_15_86_5 : decode prog_15_method_86_code 5 = .ok (.iconst 0, 1) := by decide +kernel
theorem d_15_86_6 : decode prog_15_method_86_code 6 = .ok (.iastore, 1) := by decide +kernel
theorem d_15_86_7 : decode prog_15_method_86_code 7 = .ok (.aload_n 0, 1) := by decide +kernel
theorem d_15_86_8 : decode prog_15_method_86_code 8 = .ok (.lconst 0, 1) := by decide +kernel
theorem d_15_86_9 : decode prog_15_method_86_code 9 = .ok (.lconst 1, 1) := by decide +kernel
theorem d_15_86_10 : decode prog_15_method_86_code 10 = .ok (.invokevirtual 16, 3) := by decide +kernel
theorem d_15_86_13 : decode prog_15_method_86_code 13 = .ok (.lconst 0, 1) := by decide +kernel
theorem d_15_86_14 : decode prog_15_method_86_code 14 = .ok (.lstore 4, 2) := by decide +kernel
theorem d_15_86_16 : decode prog_15_method_86_code 16 = .ok (.lconst 1, 1) := by decide +kernel
theorem d_15_86_17 : decode prog_15_method_86_code 17 = .ok (.lstore 6, 2) := by decide +kernel
theorem d_15_86_19 : decode prog_15_method_86_code 19 = .ok (.iconst 0, 1) := by decide +kernel
theorem d_15_86_20 : decode prog_15_method_86_code 20 = .ok (.istore 8, 2) := by decide +kernel
theorem d_15_86_22 : decode prog_15_method_86_code 22 = .ok (.iload 8, 2) := by decide +kernel
theorem d_15_86_24 : decode prog_15_method_86_code 24 = .ok (.aload_n 1, 1) := by decide +kernel
theorem d_15_86_25 : decode prog_15_method_86_code 25 = .ok (.getfield 515, 3) := by decide +kernel
theorem d_15_86_28 : decode prog_15_method_86_code 28 = .ok (.iload_n 2, 1) := by decide +kernel
theorem d_15_86_29 : decode prog_15_method_86_code 29 = .ok (.iaload, 1) := by decide +kernel
theorem d_15_86_30 : decode prog_15_method_86_code 30 = .ok (.if_icmp .ge 120, 3) := by decide +kernel
theorem d_15_86_33 : decode prog_15_method_86_code 33 = .ok (.aload_n 1, 1) := by decide +kernel
theorem d_15_86_34 : decode prog_15_method_86_code 34 = .ok (.getfield 723, 3) := by decide +kernel
theorem d_15_86_37 : decode prog_15_method_86_code 37 = .ok (.iload_n 2, 1) := by decide +kernel
theorem d_15_86_38 : decode prog_15_method_86_code 38 = .ok (.iaload, 1) := by decide +kernel
theorem d_15_86_39 : decode prog_15_method_86_code 39 = .ok (.sipush 800, 3) := by decide +kernel
theorem d_15_86_42 : decode prog_15_method_86_code 42 = .ok (.if_icmp .gt 108, 3) := by decide +kernel
theorem d_15_86_45 : decode prog_15_method_86_code 45 = .ok (.sipush 1000, 3) := by decide +kernel
theorem d_15_86_48 : decode prog_15_method_86_code 48 = .ok (.iload_n 2, 1) := by decide +kernel
theorem d_15_86_49 : decode prog_15_method_86_code 49 = .ok (.imul, 1) := by decide +kernel
theorem d_15_86_50 : decode prog_15_method_86_code 50 = .ok (.iload 8, 2) := by decide +kernel
theorem d_15_86_52 : decode prog_15_method_86_code 52 = .ok (.iadd, 1) := by decide +kernel
theorem d_15_86_53 : decode prog_15_method_86_code 53 = .ok (.istore 9, 2) := by decide +kernel
theorem d_15_86_55 : decode prog_15_method_86_code 55 = .ok (.aload_n 1, 1) := by decide +kernel
theorem d_15_86_56 : decode prog_15_method_86_code 56 = .ok (.getfield 521, 3) := by decide +kernel
theorem d_15_86_59 : decode prog_15_method_86_code 59 = .ok (.iload 9, 2) := by decide +kernel
theorem d_15_86_61 : decode prog_15_method_86_code 61 = .ok (.laload, 1) := by decide +kernel
theorem d_15_86_62 : decode prog_15_method_86_code 62 = .ok (.lstore 4, 2) := by decide +kernel
theorem d_15_86_64 : decode prog_15_method_86_code 64 = .ok (.aload_n 1, 1) := by decide +kernel
theorem d_15_86_65 : decode prog_15_method_86_code 65 = .ok (.getfield 524, 3) := by decide +kernel
theorem d_15_86_68 : decode prog_15_method_86_code 68 = .ok (.iload 9, 2) := by decide +kernel
theorem d_15_86_70 : decode prog_15_method_86_code 70 = .ok (.laload, 1) := by decide +kernel
theorem d_15_86_71 : decode prog_15_method_86_code 71 = .ok (.lstore 6, 2) := by decide +kernel
theorem d_15_86_73 : decode prog_15_method_86_code 73 = .ok (.aload_n 0, 1) := by decide +kernel
theorem d_15_86_74 : decode prog_15_method_86_code 74 = .ok (.aload_n 1, 1) := by decide +kernel
theorem d_15_86_75 : decode prog_15_method_86_code 75 = .ok (.iload_n 2, 1) := by decide +kernel
theorem d_15_86_76 : decode prog_15_method_86_code 76 = .ok (.iload 8, 2) := by decide +kernel
theorem d_15_86_78 : decode prog_15_method_86_code 78 = .ok (.lload 4, 2) := by decide +kernel
theorem d_15_86_80 : decode prog_15_method_86_code 80 = .ok (.lload 6, 2) := by decide +kernel
theorem d_15_86_82 : decode prog_15_method_86_code 82 = .ok (.aload_n 1, 1) := by decide +kernel
theorem d_15_86_83 : decode prog_15_method_86_code 83 = .ok (.getfield 527, 3) := by decide +kernel
theorem d_15_86_86 : decode prog_15_method_86_code 86 = .ok (.iload 9, 2) := by decide +kernel
theorem d_15_86_88 : decode prog_15_method_86_code 88 = .ok (.laload, 1) := by decide +kernel
theorem d_15_86_89 : decode prog_15_method_86_code 89 = .ok (.aload_n 1, 1) := by decide +kernel
theorem d_15_86_90 : decode prog_15_method_86_code 90 = .ok (.getfield 530, 3) := by decide +kernel
theorem d_15_86_93 : decode prog_15_method_86_code 93 = .ok (.iload 9, 2) := by decide +kernel
theorem d_15_86_95 : decode prog_15_method_86_code 95 = .ok (.laload, 1) := by decide +kernel
theorem d_15_86_96 : decode prog_15_method_86_code 96 = .ok (.iload_n 3, 1) := by decide +kernel
theorem d_15_86_97 : decode prog_15_method_86_code 97 = .ok (.invokevirtual 725, 3) := by decide +kernel
theorem d_15_86_100 : decode prog_15_method_86_code 100 = .ok (.aload_n 0, 1) := by decide +kernel
theorem d_15_86_101 : decode prog_15_method_86_code 101 = .ok (.aload_n 1, 1) := by decide +kernel
theorem d_15_86_102 : decode prog_15_method_86_code 102 = .ok (.getfield 521, 3) := by decide +kernel
theorem d_15_86_105 : decode prog_15_method_86_code 105 = .ok (.iload 9, 2) := by decide +kernel
theorem d_15_86_107 : decode prog_15_method_86_code 107 = .ok (.laload, 1) := by decide +kernel
theorem d_15_86_108 : decode prog_15_method_86_code 108 = .ok (.aload_n 1, 1) := by decide +kernel
theorem d_15_86_109 : decode prog_15_method_86_code 109 = .ok (.getfield 524, 3) := by decide +kernel
theorem d_15_86_112 : decode prog_15_method_86_code 112 = .ok (.iload 9, 2) := by decide +kernel
theorem d_15_86_114 : decode prog_15_method_86_code 114 = .ok (.laload, 1) := by decide +kernel
theorem d_15_86_115 : decode prog_15_method_86_code 115 = .ok (.aload_n 1, 1) := by decide +kernel
theorem d_15_86_116 : decode prog_15_method_86_code 116 = .ok (.getfield 527, 3) := by decide +kernel
theorem d_15_86_119 : decode prog_15_method_86_code 119 = .ok (.iload 9, 2) := by decide +kernel
theorem d_15_86_121 : decode prog_15_method_86_code 121 = .ok (.laload, 1) := by decide +kernel
theorem d_15_86_122 : decode prog_15_method_86_code 122 = .ok (.aload_n 1, 1) := by decide +kernel
theorem d_15_86_123 : decode prog_15_method_86_code 123 = .ok (.getfield 530, 3) := by decide +kernel
theorem d_15_86_126 : decode prog_15_method_86_code 126 = .ok (.iload 9, 2) := by decide +kernel
theorem d_15_86_128 : decode prog_15_method_86_code 128 = .ok (.laload, 1) := by decide +kernel
theorem d_15_86_129 : decode prog_15_method_86_code 129 = .ok (.invokevirtual 533, 3) := by decide +kernel
theorem d_15_86_132 : decode prog_15_method_86_code 132 = .ok (.aload_n 0, 1) := by decide +kernel
theorem d_15_86_133 : decode prog_15_method_86_code 133 = .ok (.getfield 9, 3) := by decide +kernel
theorem d_15_86_136 : decode prog_15_method_86_code 136 = .ok (.lstore 4, 2) := by decide +kernel
theorem d_15_86_138 : decode prog_15_method_86_code 138 = .ok (.aload_n 0, 1) := by decide +kernel
theorem d_15_86_139 : decode prog_15_method_86_code 139 = .ok (.getfield 13, 3) := by decide +kernel
theorem d_15_86_142 : decode prog_15_method_86_code 142 = .ok (.lstore 6, 2) := by decide +kernel
theorem d_15_86_144 : decode prog_15_method_86_code 144 = .ok (.iinc 8 1, 3) := by decide +kernel
theorem d_15_86_147 : decode prog_15_method_86_code 147 = .ok (.goto (-125), 3) := by decide +kernel
theorem d_15_86_150 : decode prog_15_method_86_code 150 = .ok (.lload 4, 2) := by decide +kernel
theorem d_15_86_152 : decode prog_15_method_86_code 152 = .ok (.lload 6, 2) := by decide +kernel
theorem d_15_86_154 : decode prog_15_method_86_code 154 = .ok (.aload_n 1, 1) := by decide +kernel
theorem d_15_86_155 : decode prog_15_method_86_code 155 = .ok (.getfield 404, 3) := by decide +kernel
theorem d_15_86_158 : decode prog_15_method_86_code 158 = .ok (.i2l, 1) := by decide +kernel
theorem d_15_86_159 : decode prog_15_method_86_code 159 = .ok (.aload_n 1, 1) := by decide +kernel
theorem d_15_86_160 : decode prog_15_method_86_code 160 = .ok (.getfield 407, 3) := by decide +kernel
theorem d_15_86_163 : decode prog_15_method_86_code 163 = .ok (.i2l, 1) := by decide +kernel
theorem d_15_86_164 : decode prog_15_method_86_code 164 = .ok (.invokestatic 660, 3) := by decide +kernel
theorem d_15_86_167 : decode prog_15_method_86_code 167 = .ok (.lstore 8, 2) := by decide +kernel
theorem d_15_86_169 : decode prog_15_method_86_code 169 = .ok (.aload_n 1, 1) := by decide +kernel
theorem d_15_86_170 : decode prog_15_method_86_code 170 = .ok (.lload 8, 2) := by decide +kernel
theorem d_15_86_172 : decode prog_15_method_86_code 172 = .ok (.l2i, 1) := by decide +kernel
theorem d_15_86_173 : decode prog_15_method_86_code 173 = .ok (.putfield 728, 3) := by decide +kernel
theorem d_15_86_176 : decode prog_15_method_86_code 176 = .ok (.lload 4, 2) := by decide +kernel
theorem d_15_86_178 : decode prog_15_method_86_code 178 = .ok (.lload 6, 2) := by decide +kernel
theorem d_15_86_180 : decode prog_15_method_86_code 180 = .ok (.aload_n 1, 1) := by decide +kernel
theorem d_15_86_181 : decode prog_15_method_86_code 181 = .ok (.getfield 404, 3) := by decide +kernel
theorem d_15_86_184 : decode prog_15_method_86_code 184 = .ok (.i2l, 1) := by decide +kernel
theorem d_15_86_185 : decode prog_15_method_86_code 185 = .ok (.aload_n 1, 1) := by decide +kernel
theorem d_15_86_186 : decode prog_15_method_86_code 186 = .ok (.getfield 407, 3) := by decide +kernel
theorem d_15_86_189 : decode prog_15_method_86_code 189 = .ok (.i2l, 1) := by decide +kernel
theorem d_15_86_190 : decode prog_15_method_86_code 190 = .ok (.invokestatic 568, 3) := by decide +kernel
theorem d_15_86_193 : decode prog_15_method_86_code 193 = .ok (.ifCond .ne 55, 3) := by decide +kernel
theorem d_15_86_196 : decode prog_15_method_86_code 196 = .ok (.aload_n 1, 1) := by decide +kernel
theorem d_15_86_197 : decode prog_15_method_86_code 197 = .ok (.lload 8, 2) := by decide +kernel
theorem d_15_86_199 : decode prog_15_method_86_code 199 = .ok (.l2i, 1) := by decide +kernel
theorem d_15_86_200 : decode prog_15_method_86_code 200 = .ok (.iconst 1, 1) := by decide +kernel
theorem d_15_86_201 : decode prog_15_method_86_code 201 = .ok (.iadd, 1) := by decide +kernel
theorem d_15_86_202 : decode prog_15_method_86_code 202 = .ok (.putfield 728, 3) := by decide +kernel
theorem d_15_86_205 : decode prog_15_method_86_code 205 = .ok (.aload_n 0, 1) := by decide +kernel
theorem d_15_86_206 : decode prog_15_method_86_code 206 = .ok (.lload 8, 2) := by decide +kernel
theorem d_15_86_208 : decode prog_15_method_86_code 208 = .ok (.lconst 1, 1) := by decide +kernel
theorem d_15_86_209 : decode prog_15_method_86_code 209 = .ok (.ladd, 1) := by decide +kernel
theorem d_15_86_210 : decode prog_15_method_86_code 210 = .ok (.aload_n 1, 1) := by decide +kernel
theorem d_15_86_211 : decode prog_15_method_86_code 211 = .ok (.getfield 404, 3) := by decide +kernel
theorem d_15_86_214 : decode prog_15_method_86_code 214 = .ok (.i2l, 1) := by decide +kernel
theorem d_15_86_215 : decode prog_15_method_86_code 215 = .ok (.lmul, 1) := by decide +kernel
theorem d_15_86_216 : decode prog_15_method_86_code 216 = .ok (.aload_n 1, 1) := by decide +kernel
theorem d_15_86_217 : decode prog_15_method_86_code 217 = .ok (.getfield 407, 3) := by decide +kernel
theorem d_15_86_220 : decode prog_15_method_86_code 220 = .ok (.i2l, 1) := by decide +kernel
theorem d_15_86_221 : decode prog_15_method_86_code 221 = .ok (.lload 4, 2) := by decide +kernel
theorem d_15_86_223 : decode prog_15_method_86_code 223 = .ok (.lload 6, 2) := by decide +kernel
theorem d_15_86_225 : decode prog_15_method_86_code 225 = .ok (.invokevirtual 664, 3) := by decide +kernel
theorem d_15_86_228 : decode prog_15_method_86_code 228 = .ok (.aload_n 0, 1) := by decide +kernel
theorem d_15_86_229 : decode prog_15_method_86_code 229 = .ok (.aload_n 1, 1) := by decide +kernel
theorem d_15_86_230 : decode prog_15_method_86_code 230 = .ok (.iload_n 2, 1) := by decide +kernel
theorem d_15_86_231 : decode prog_15_method_86_code 231 = .ok (.iconst (-1), 1) := by decide +kernel
theorem d_15_86_232 : decode prog_15_method_86_code 232 = .ok (.lload 4, 2) := by decide +kernel
theorem d_15_86_234 : decode prog_15_method_86_code 234 = .ok (.lload 6, 2) := by decide +kernel
theorem d_15_86_236 : decode prog_15_method_86_code 236 = .ok (.aload_n 0, 1) := by decide +kernel
theorem d_15_86_237 : decode prog_15_method_86_code 237 = .ok (.getfield 9, 3) := by decide +kernel
theorem d_15_86_240 : decode prog_15_method_86_code 240 = .ok (.aload_n 0, 1) := by decide +kernel
theorem d_15_86_241 : decode prog_15_method_86_code 241 = .ok (.getfield 13, 3) := by decide +kernel
theorem d_15_86_244 : decode prog_15_method_86_code 244 = .ok (.iload_n 3, 1) := by decide +kernel
theorem d_15_86_245 : decode prog_15_method_86_code 245 = .ok (.invokevirtual 725, 3) := by decide +kernel
theorem d_15_86_248 : decode prog_15_method_86_code 248 = .ok (.aload_n 1, 1) := by decide +kernel
theorem d_15_86_249 : decode prog_15_method_86_code 249 = .ok (.getfield 723, 3) := by decide +kernel
theorem d_15_86_252 : decode prog_15_method_86_code 252 = .ok (.iload_n 2, 1) := by decide +kernel
theorem d_15_86_253 : decode prog_15_method_86_code 253 = .ok (.iaload, 1) := by decide +kernel
theorem d_15_86_254 : decode prog_15_method_86_code 254 = .ok (.ireturn, 1) := by decide +kernel
theorem d_15_73_0 : decode prog_15_method_73_code 0 = .ok (.sipush 1000, 3) := by decide +kernel
theorem d_15_73_3 : decode prog_15_method_73_code 3 = .ok (.aload_n 0, 1) := by decide +kernel
theorem d_15_73_4 : decode prog_15_method_73_code 4 = .ok (.getfield 482, 3) := by decide +kernel
theorem d_15_73_7 : decode prog_15_method_73_code 7 = .ok (.imul, 1) := by decide +kernel
theorem d_15_73_8 : decode prog_15_method_73_code 8 = .ok (.istore_n 1, 1) := by decide +kernel
theorem d_15_73_9 : decode prog_15_method_73_code 9 = .ok (.aload_n 0, 1) := by decide +kernel
theorem d_15_73_10 : decode prog_15_method_73_code 10 = .ok (.getfield 485, 3) := by decide +kernel
theorem d_15_73_13 : decode prog_15_method_73_code 13 = .ok (.ifCond .ne 19, 3) := by decide +kernel
theorem d_15_73_32 : decode prog_15_method_73_code 32 = .ok (.aload_n 0, 1) := by decide +kernel
theorem d_15_73_33 : decode prog_15_method_73_code 33 = .ok (.aload_n 0, 1) := by decide +kernel
theorem d_15_73_34 : decode prog_15_method_73_code 34 = .ok (.getfield 44, 3) := by decide +kernel
theorem d_15_73_37 : decode prog_15_method_73_code 37 = .ok (.aload_n 0, 1) := by decide +kernel
theorem d_15_73_38 : decode prog_15_method_73_code 38 = .ok (.getfield 482, 3) := by decide +kernel
theorem d_15_73_41 : decode prog_15_method_73_code 41 = .ok (.invokevirtual 638, 3) := by decide +kernel
theorem d_15_73_44 : decode prog_15_method_73_code 44 = .ok (.iconst 0, 1) := by decide +kernel
theorem d_15_73_45 : decode prog_15_method_73_code 45 = .ok (.istore_n 2, 1) := by decide +kernel
theorem d_15_73_46 : decode prog_15_method_73_code 46 = .ok (.iconst 0, 1) := by decide +kernel
theorem d_15_73_47 : decode prog_15_method_73_code 47 = .ok (.istore_n 3, 1) := by decide +kernel
theorem d_15_73_16 : decode prog_15_method_73_code 16 = .ok (.aload_n 0, 1) := by decide +kernel
theorem d_15_73_17 : decode prog_15_method_73_code 17 = .ok (.bipush 15, 2) := by decide +kernel
theorem d_15_73_19 : decode prog_15_method_73_code 19 = .ok (.aload_n 0, 1) := by decide +kernel
theorem d_15_73_20 : decode prog_15_method_73_code 20 = .ok (.getfield 153, 3) := by decide +kernel
theorem d_15_73_23 : decode prog_15_method_73_code 23 = .ok (.aload_n 0, 1) := by decide +kernel
theorem d_15_73_24 : decode prog_15_method_73_code 24 = .ok (.getfield 482, 3) := by decide +kernel
theorem d_15_73_27 : decode prog_15_method_73_code 27 = .ok (.iaload, 1) := by decide +kernel
theorem d_15_73_28 : decode prog_15_method_73_code 28 = .ok (.invokevirtual 365, 3) := by decide +kernel
theorem d_15_73_31 : decode prog_15_method_73_code 31 = .ok (.return_, 1) := by decide +kernel
theorem d_15_73_48 : decode prog_15_method_73_code 48 = .ok (.iload_n 3, 1) := by decide +kernel
theorem d_15_73_49 : decode prog_15_method_73_code 49 = .ok (.aload_n 0, 1) := by decide +kernel
theorem d_15_73_50 : decode prog_15_method_73_code 50 = .ok (.getfield 485, 3) := by decide +kernel
theorem d_15_73_53 : decode prog_15_method_73_code 53 = .ok (.if_icmp .ge 212, 3) := by decide +kernel
theorem d_15_73_56 : decode prog_15_method_73_code 56 = .ok (.aload_n 0, 1) := by decide +kernel
theorem d_15_73_57 : decode prog_15_method_73_code 57 = .ok (.invokevirtual 376, 3) := by decide +kernel
theorem d_15_73_60 : decode prog_15_method_73_code 60 = .ok (.ifCond .eq 205, 3) := by decide +kernel
theorem d_15_73_63 : decode prog_15_method_73_code 63 = .ok (.iload_n 1, 1) := by decide +kernel
theorem d_15_73_64 : decode prog_15_method_73_code 64 = .ok (.iload_n 3, 1) := by decide +kernel
theorem d_15_73_65 : decode prog_15_method_73_code 65 = .ok (.iadd, 1) := by decide +kernel
theorem d_15_73_66 : decode prog_15_method_73_code 66 = .ok (.istore 4, 2) := by decide +kernel
theorem d_15_73_68 : decode prog_15_method_73_code 68 = .ok (.aload_n 0, 1) := by decide +kernel
theorem d_15_73_69 : decode prog_15_method_73_code 69 = .ok (.getfield 44, 3) := by decide +kernel
theorem d_15_73_72 : decode prog_15_method_73_code 72 = .ok (.getfield 610, 3) := by decide +kernel
theorem d_15_73_75 : decode prog_15_method_73_code 75 = .ok (.iload 4, 2) := by decide +kernel
theorem d_15_73_77 : decode prog_15_method_73_code 77 = .ok (.iaload, 1) := by decide +kernel
theorem d_15_73_78 : decode prog_15_method_73_code 78 = .ok (.ifCond .le 37, 3) := by decide +kernel
theorem d_15_73_81 : decode prog_15_method_73_code 81 = .ok (.iload_n 3, 1) := by decide +kernel
theorem d_15_73_82 : decode prog_15_method_73_code 82 = .ok (.ifCond .eq 28, 3) := by decide +kernel
theorem d_15_73_85 : decode prog_15_method_73_code 85 = .ok (.aload_n 0, 1) := by decide +kernel
theorem d_15_73_86 : decode prog_15_method_73_code 86 = .ok (.getfield 44, 3) := by decide +kernel
theorem d_15_73_89 : decode prog_15_method_73_code 89 = .ok (.getfield 610, 3) := by decide +kernel
theorem d_15_73_92 : decode prog_15_method_73_code 92 = .ok (.iload 4, 2) := by decide +kernel
theorem d_15_73_94 : decode prog_15_method_73_code 94 = .ok (.iconst 1, 1) := by decide +kernel
theorem d_15_73_95 : decode prog_15_method_73_code 95 = .ok (.isub, 1) := by decide +kernel
theorem d_15_73_96 : decode prog_15_method_73_code 96 = .ok (.iaload, 1) := by decide +kernel
theorem d_15_73_97 : decode prog_15_method_73_code 97 = .ok (.aload_n 0, 1) := by decide +kernel
theorem d_15_73_98 : decode prog_15_method_73_code 98 = .ok (.getfield 44, 3) := by decide +kernel
theorem d_15_73_101 : decode prog_15_method_73_code 101 = .ok (.getfield 610, 3) := by decide +kernel
theorem d_15_73_104 : decode prog_15_method_73_code 104 = .ok (.iload 4, 2) := by decide +kernel
theorem d_15_73_106 : decode prog_15_method_73_code 106 = .ok (.iaload, 1) := by decide +kernel
theorem d_15_73_107 : decode prog_15_method_73_code 107 = .ok (.if_icmp .eq 8, 3) := by decide +kernel
theorem d_15_73_110 : decode prog_15_method_73_code 110 = .ok (.aload_n 0, 1) := by decide +kernel
theorem d_15_73_111 : decode prog_15_method_73_code 111 = .ok (.iload_n 3, 1) := by decide +kernel
theorem d_15_73_112 : decode prog_15_method_73_code 112 = .ok (.invokevirtual 642, 3) := by decide +kernel
theorem d_15_73_115 : decode prog_15_method_73_code 115 = .ok (.aload_n 0, 1) := by decide +kernel
theorem d_15_73_116 : decode prog_15_method_73_code 116 = .ok (.getfield 44, 3) := by decide +kernel
theorem d_15_73_119 : decode prog_15_method_73_code 119 = .ok (.getfield 584, 3) := by decide +kernel
theorem d_15_73_122 : decode prog_15_method_73_code 122 = .ok (.iload 4, 2) := by decide +kernel
theorem d_15_73_124 : decode prog_15_method_73_code 124 = .ok (.iaload, 1) := by decide +kernel
theorem d_15_73_125 : decode prog_15_method_73_code 125 = .ok (.istore 5, 2) := by decide +kernel
theorem d_15_73_127 : decode prog_15_method_73_code 127 = .ok (.iload 5, 2) := by decide +kernel
theorem d_15_73_129 : decode prog_15_method_73_code 129 = .ok (.iconst 1, 1) := by decide +kernel
theorem d_15_73_130 : decode prog_15_method_73_code 130 = .ok (.iand, 1) := by decide +kernel
theorem d_15_73_131 : decode prog_15_method_73_code 131 = .ok (.ifCond .le 45, 3) := by decide +kernel
theorem d_15_73_134 : decode prog_15_method_73_code 134 = .ok (.iload_n 3, 1) := by decide +kernel
theorem d_15_73_135 : decode prog_15_method_73_code 135 = .ok (.iconst 1, 1) := by decide +kernel
theorem d_15_73_136 : decode prog_15_method_73_code 136 = .ok (.iadd, 1) := by decide +kernel
theorem d_15_73_137 : decode prog_15_method_73_code 137 = .ok (.aload_n 0, 1) := by decide +kernel
theorem d_15_73_138 : decode prog_15_method_73_code 138 = .ok (.getfield 485, 3) := by decide +kernel
theorem d_15_73_141 : decode prog_15_method_73_code 141 = .ok (.if_icmp .eq 19, 3) := by decide +kernel
theorem d_15_73_144 : decode prog_15_method_73_code 144 = .ok (.aload_n 0, 1) := by decide +kernel
theorem d_15_73_145 : decode prog_15_method_73_code 145 = .ok (.getfield 44, 3) := by decide +kernel
theorem d_15_73_148 : decode prog_15_method_73_code 148 = .ok (.iload 4, 2) := by decide +kernel
theorem d_15_73_150 : decode prog_15_method_73_code 150 = .ok (.iload 4, 2) := by decide +kernel
theorem d_15_73_152 : decode prog_15_method_73_code 152 = .ok (.iconst 1, 1) := by decide +kernel
theorem d_15_73_153 : decode prog_15_method_73_code 153 = .ok (.iadd, 1) := by decide +kernel
theorem d_15_73_154 : decode prog_15_method_73_code 154 = .ok (.invokestatic 645, 3) := by decide +kernel
theorem d_15_73_157 : decode prog_15_method_73_code 157 = .ok (.ifCond .ne 19, 3) := by decide +kernel
theorem d_15_73_160 : decode prog_15_method_73_code 160 = .ok (.aload_n 0, 1) := by decide +kernel
theorem d_15_73_161 : decode prog_15_method_73_code 161 = .ok (.bipush 10, 2) := by decide +kernel
theorem d_15_73_163 : decode prog_15_method_73_code 163 = .ok (.aload_n 0, 1) := by decide +kernel
theorem d_15_73_164 : decode prog_15_method_73_code 164 = .ok (.getfield 44, 3) := by decide +kernel
theorem d_15_73_167 : decode prog_15_method_73_code 167 = .ok (.getfield 595, 3) := by decide +kernel
theorem d_15_73_170 : decode prog_15_method_73_code 170 = .ok (.iload 4, 2) := by decide +kernel
theorem d_15_73_172 : decode prog_15_method_73_code 172 = .ok (.iaload, 1) := by decide +kernel
theorem d_15_73_173 : decode prog_15_method_73_code 173 = .ok (.invokevirtual 365, 3) := by decide +kernel
theorem d_15_73_176 : decode prog_15_method_73_code 176 = .ok (.iload 5, 2) := by decide +kernel
theorem d_15_73_178 : decode prog_15_method_73_code 178 = .ok (.iconst 4, 1) := by decide +kernel
theorem d_15_73_179 : decode prog_15_method_73_code 179 = .ok (.iand, 1) := by decide +kernel
theorem d_15_73_180 : decode prog_15_method_73_code 180 = .ok (.ifCond .le 23, 3) := by decide +kernel
theorem d_15_73_183 : decode prog_15_method_73_code 183 = .ok (.iload_n 2, 1) := by decide +kernel
theorem d_15_73_184 : decode prog_15_method_73_code 184 = .ok (.ifCond .ne 19, 3) := by decide +kernel
theorem d_15_73_187 : decode prog_15_method_73_code 187 = .ok (.aload_n 0, 1) := by decide +kernel
theorem d_15_73_188 : decode prog_15_method_73_code 188 = .ok (.bipush 11, 2) := by decide +kernel
theorem d_15_73_190 : decode prog_15_method_73_code 190 = .ok (.aload_n 0, 1) := by decide +kernel
theorem d_15_73_191 : decode prog_15_method_73_code 191 = .ok (.getfield 44, 3) := by decide +kernel
theorem d_15_73_194 : decode prog_15_method_73_code 194 = .ok (.getfield 595, 3) := by decide +kernel
theorem d_15_73_197 : decode prog_15_method_73_code 197 = .ok (.iload 4, 2) := by decide +kernel
theorem d_15_73_199 : decode prog_15_method_73_code 199 = .ok (.iaload, 1) := by decide +kernel
theorem d_15_73_200 : decode prog_15_method_73_code 200 = .ok (.invokevirtual 365, 3) := by decide +kernel
theorem d_15_73_203 : decode prog_15_method_73_code 203 = .ok (.iload 5, 2) := by decide +kernel
theorem d_15_73_205 : decode prog_15_method_73_code 205 = .ok (.iconst 4, 1) := by decide +kernel
theorem d_15_73_206 : decode prog_15_method_73_code 206 = .ok (.iand, 1) := by decide +kernel
theorem d_15_73_207 : decode prog_15_method_73_code 207 = .ok (.ifCond .le 5, 3) := by decide +kernel
theorem d_15_73_210 : decode prog_15_method_73_code 210 = .ok (.iconst 0, 1) := by decide +kernel
theorem d_15_73_211 : decode prog_15_method_73_code 211 = .ok (.istore_n 2, 1) := by decide +kernel
theorem d_15_73_212 : decode prog_15_method_73_code 212 = .ok (.iload 5, 2) := by decide +kernel
theorem d_15_73_214 : decode prog_15_method_73_code 214 = .ok (.iconst 2, 1) := by decide +kernel
theorem d_15_73_215 : decode prog_15_method_73_code 215 = .ok (.iand, 1) := by decide +kernel
theorem d_15_73_216 : decode prog_15_method_73_code 216 = .ok (.ifCond .le 23, 3) := by decide +kernel
theorem d_15_73_219 : decode prog_15_method_73_code 219 = .ok (.iload_n 2, 1) := by decide +kernel
theorem d_15_73_220 : decode prog_15_method_73_code 220 = .ok (.ifCond .eq 19, 3) := by decide +kernel
theorem d_15_73_223 : decode prog_15_method_73_code 223 = .ok (.aload_n 0, 1) := by decide +kernel
theorem d_15_73_224 : decode prog_15_method_73_code 224 = .ok (.bipush 11, 2) := by decide +kernel
theorem d_15_73_226 : decode prog_15_method_73_code 226 = .ok (.aload_n 0, 1) := by decide +kernel
theorem d_15_73_227 : decode prog_15_method_73_code 227 = .ok (.getfield 44, 3) := by decide +kernel
theorem d_15_73_230 : decode prog_15_method_73_code 230 = .ok (.getfield 595, 3) := by decide +kernel
theorem d_15_73_233 : decode prog_15_method_73_code 233 = .ok (.iload 4, 2) := by decide +kernel
theorem d_15_73_235 : decode prog_15_method_73_code 235 = .ok (.iaload, 1) := by decide +kernel
theorem d_15_73_236 : decode prog_15_method_73_code 236 = .ok (.invokevirtual 365, 3) := by decide +kernel
theorem d_15_73_239 : decode prog_15_method_73_code 239 = .ok (.iload 5, 2) := by decide +kernel
theorem d_15_73_241 : decode prog_15_method_73_code 241 = .ok (.iconst 2, 1) := by decide +kernel
theorem d_15_73_242 : decode prog_15_method_73_code 242 = .ok (.iand, 1) := by decide +kernel
theorem d_15_73_243 : decode prog_15_method_73_code 243 = .ok (.ifCond .le 5, 3) := by decide +kernel
theorem d_15_73_246 : decode prog_15_method_73_code 246 = .ok (.iconst 1, 1) := by decide +kernel
theorem d_15_73_247 : decode prog_15_method_73_code 247 = .ok (.istore_n 2, 1) := by decide +kernel
theorem d_15_73_248 : decode prog_15_method_73_code 248 = .ok (.aload_n 0, 1) := by decide +kernel
theorem d_15_73_249 : decode prog_15_method_73_code 249 = .ok (.getfield 44, 3) := by decide +kernel
theorem d_15_73_252 : decode prog_15_method_73_code 252 = .ok (.getfield 649, 3) := by decide +kernel
theorem d_15_73_255 : decode prog_15_method_73_code 255 = .ok (.iload 4, 2) := by decide +kernel
theorem d_15_73_257 : decode prog_15_method_73_code 257 = .ok (.iload_n 2, 1) := by decide +kernel
theorem d_15_73_258 : decode prog_15_method_73_code 258 = .ok (.bastore, 1) := by decide +kernel
theorem d_15_73_259 : decode prog_15_method_73_code 259 = .ok (.iinc 3 1, 3) := by decide +kernel
theorem d_15_73_262 : decode prog_15_method_73_code 262 = .ok (.goto (-214), 3) := by decide +kernel
theorem d_15_73_265 : decode prog_15_method_73_code 265 = .ok (.iload_n 2, 1) := by decide +kernel
theorem d_15_73_266 : decode prog_15_method_73_code 266 = .ok (.ifCond .eq 18, 3) := by decide +kernel
theorem d_15_73_269 : decode prog_15_method_73_code 269 = .ok (.aload_n 0, 1) := by decide +kernel
theorem d_15_73_270 : decode prog_15_method_73_code 270 = .ok (.bipush 11, 2) := by decide +kernel
theorem d_15_73_272 : decode prog_15_method_73_code 272 = .ok (.aload_n 0, 1) := by decide +kernel
theorem d_15_73_273 : decode prog_15_method_73_code 273 = .ok (.getfield 153, 3) := by decide +kernel
theorem d_15_73_276 : decode prog_15_method_73_code 276 = .ok (.aload_n 0, 1) := by decide +kernel
theorem d_15_73_277 : decode prog_15_method_73_code 277 = .ok (.getfield 482, 3) := by decide +kernel
theorem d_15_73_280 : decode prog_15_method_73_code 280 = .ok (.iaload, 1) := by decide +kernel
theorem d_15_73_281 : decode prog_15_method_73_code 281 = .ok (.invokevirtual 365, 3) := by decide +kernel
theorem d_15_73_284 : decode prog_15_method_73_code 284 = .ok (.aload_n 0, 1) := by decide +kernel
theorem d_15_73_285 : decode prog_15_method_73_code 285 = .ok (.invokevirtual 376, 3) := by decide +kernel
theorem d_15_73_288 : decode prog_15_method_73_code 288 = .ok (.ifCond .eq 37, 3) := by decide +kernel
theorem d_15_73_291 : decode prog_15_method_73_code 291 = .ok (.aload_n 0, 1) := by decide +kernel
theorem d_15_73_292 : decode prog_15_method_73_code 292 = .ok (.aload_n 0, 1) := by decide +kernel
theorem d_15_73_293 : decode prog_15_method_73_code 293 = .ok (.getfield 44, 3) := by decide +kernel
theorem d_15_73_296 : decode prog_15_method_73_code 296 = .ok (.aload_n 0, 1) := by decide +kernel
theorem d_15_73_297 : decode prog_15_method_73_code 297 = .ok (.getfield 482, 3) := by decide +kernel
theorem d_15_73_300 : decode prog_15_method_73_code 300 = .ok (.iconst 1, 1) := by decide +kernel
theorem d_15_73_301 : decode prog_15_method_73_code 301 = .ok (.invokevirtual 652, 3) := by decide +kernel
theorem d_15_73_304 : decode prog_15_method_73_code 304 = .ok (.sipush 800, 3) := by decide +kernel
theorem d_15_73_307 : decode prog_15_method_73_code 307 = .ok (.if_icmp .le 18, 3) := by decide +kernel
theorem d_15_73_310 : decode prog_15_method_73_code 310 = .ok (.aload_n 0, 1) := by decide +kernel
theorem d_15_73_311 : decode prog_15_method_73_code 311 = .ok (.bipush 14, 2) := by decide +kernel
theorem d_15_73_313 : decode prog_15_method_73_code 313 = .ok (.aload_n 0, 1) := by decide +kernel
theorem d_15_73_314 : decode prog_15_method_73_code 314 = .ok (.getfield 153, 3) := by decide +kernel
theorem d_15_73_317 : decode prog_15_method_73_code 317 = .ok (.aload_n 0, 1) := by decide +kernel
theorem d_15_73_318 : decode prog_15_method_73_code 318 = .ok (.getfield 482, 3) := by decide +kernel
theorem d_15_73_321 : decode prog_15_method_73_code 321 = .ok (.iaload, 1) := by decide +kernel
theorem d_15_73_322 : decode prog_15_method_73_code 322 = .ok (.invokevirtual 365, 3) := by decide +kernel
theorem d_15_73_325 : decode prog_15_method_73_code 325 = .ok (.return_, 1) := by decide +kernel
abbrev Q_M_notes (D : va_G) (ca : Nat → ClassId) (ad : Nat → Int → Nat → Nat) (L : List Nat) (r : Int) (F : zF) (B : zB) (A : Nat → Prop) : Array Value → State → Outcome → State → Prop := va_Qi (S := Unit) (fun p _ => p = iI r) (fun _ => zPo D ca ad lnM nM L F B A) A
def f_M_notes_248 (K : Nat) (l1 : Int) (l2 : Int) (F : zF) (B : zB) : zO := if 0 ≤ l1 ∧ l1 < 3 then if 0 ≤ l2 ∧ l2 < 4 then some (B 13 l1 13 l2, F, B) else none else none
set_option maxHeartbeats 4000000 in
set_option maxRecDepth 100000 in
theorem b_M_notes_248 {D : va_G} {ca : Nat → ClassId} {ad : Nat → Int → Nat → Nat} {L : List Nat} {aS vS : Nat → Nat} {A : Nat → Prop} {p : Program} {l : Launch} {e : Env} {s : State} {m : MethodId} {args : Array Value} {below : List Frame} {meth : Method} {c : Code} {K : Nat} {r : Int} {F9 : zF} {B9 : zB} (X : zX D ca L aS vS A p s m args meth c prog_15_method_86_code 10 (Option.some Jvm.ClassFile.FieldType.int) "StaveHouseModel") {l1 : Int} {l2 : Int} {F : zF} {B : zB} {H : Heap} {locs : List Loc} {ls : Array Slot} (hf : f_M_notes_248 K l1 l2 F B = some (r, F9, B9)) (hZ : zH D ca ad lnM nM L F B A H) (hS : va_S A s.heap H locs) (hl : lv_has ls 10 [(1, .ref (ad 13 l1 0)), (2, .int (iI l2))]) : W p l e ({ frames := 8, cells := 0, slots := 0, locals := 276 } : Room) s m args below meth c H locs 0 0 (MQ below (Q_M_notes D ca ad L r F9 B9 A) args s 0 0 A) (F0 m 248 ls []) := by
  obtain ⟨hx, hb, hr, hml, hown, hts, hlk, hK, hA, hL, hX⟩ := id X
  replace hf : (if 0 ≤ l1 ∧ l1 < 3 then if 0 ≤ l2 ∧ l2 < 4 then some (B 13 l1 13 l2, F, B) else none else none) = some (r, F9, B9) := hf
  refine lv_aload_n hx hb d_15_86_248 rfl (lv_at hl 0 rfl) ?_
  obtain ⟨g31, hf⟩ := gif hf
  refine zget (ci := 13) (C := RX13) (T := TX13) (v := .ref (ad 13 l1 (13 + 1))) (k := 13) hx hb hts inW_13 hown hK hZ g31.1 g31.2 rfl (by decide) k_9_144 rfl d_15_86_249 ?_
  refine lv_iload_n hx hb d_15_86_252 rfl (lv_at hl 1 rfl) ?_
  obtain ⟨g32, hf⟩ := gif hf
  refine zald (ci := 13) (k := 13) hx hb hK rfl hZ g31.1 g31.2 rfl (Nat.le_of_ble_eq_true rfl) g32.1 g32.2 d_15_86_253 ?_
  cases hf
  exact W.iret hx hb hr (fun t ht hW => ⟨⟨_, (), rfl, rfl, by rw [ht]; exact hZ, va_K.moved hW.alike hK⟩, hS.F ht⟩) hS.2.2 d_15_86_254 hlk

def f_M_notes_150 (K : Nat) (l6 : Int) (l4 : Int) (l1 : Int) (l2 : Int) (l3 : Int) (F : zF) (B : zB) : zO := if 0 ≤ l1 ∧ l1 < 3 then if r32 (F 13 l1 4) then if r32 (F 13 l1 5) then zbind (f_M_often K l4 l6 (F 13 l1 4) (F 13 l1 5) F B) (fun r18 F18 B18 => if r32 r18 then if r32 (F18 13 l1 4) then if r32 (F18 13 l1 5) then zbind (f_M_isMultiple K l4 l6 (F18 13 l1 4) (F18 13 l1 5) (zup3 F18 13 l1 7 r18) B18) (fun r23 F23 B23 => if r32 r23 then (if r23 = 0 then if r32 (F23 13 l1 4) then if r32 (F23 13 l1 5) then zbind (f_M_minus K ((r18 + 1) * (F23 13 l1 4)) (F23 13 l1 5) l4 l6 (zup3 F23 13 l1 7 (r18 + 1)) B23) (fun r29 F29 B29 => zbind (f_M_pieces K l1 l2 (-1) l4 l6 (F29 14 0 0) (F29 14 0 1) l3 F29 B29) (fun r30 F30 B30 => f_M_notes_248 K l1 l2 F30 B30)) else none else none else f_M_notes_248 K l1 l2 F23 B23) else none) else none else none else none) else none else none else none
set_option maxHeartbeats 4000000 in
set_option maxRecDepth 100000 in
theorem b_M_notes_150 {D : va_G} {ca : Nat → ClassId} {ad : Nat → Int → Nat → Nat} {L : List Nat} {aS vS : Nat → Nat} {A : Nat → Prop} {p : Program} {l : Launch} {e : Env} {s : State} {m : MethodId} {args : Array Value} {below : List Frame} {meth : Method} {c : Code} {K : Nat} {r : Int} {F9 : zF} {B9 : zB} (X : zX D ca L aS vS A p s m args meth c prog_15_method_86_code 10 (Option.some Jvm.ClassFile.FieldType.int) "StaveHouseModel") {l6 : Int} {l4 : Int} {l1 : Int} {l2 : Int} {l3 : Int} {F : zF} {B : zB} {H : Heap} {locs : List Loc} {ls : Array Slot} (hf : f_M_notes_150 K l6 l4 l1 l2 l3 F B = some (r, F9, B9)) (hZ : zH D ca ad lnM nM L F B A H) (hS : va_S A s.heap H locs) (hl : lv_has ls 10 [(6, .long (lI l6)), (4, .long (lI l4)), (0, .ref (ad 14 0 0)), (1, .ref (ad 13 l1 0)), (2, .int (iI l2)), (3, .int (iI l3))]) : W p l e ({ frames := 8, cells := 0, slots := 0, locals := 276 } : Room) s m args below meth c H locs 0 0 (MQ below (Q_M_notes D ca ad L r F9 B9 A) args s 0 0 A) (F0 m 150 ls []) := by
  obtain ⟨hx, hb, hr, hml, hown, hts, hlk, hK, hA, hL, hX⟩ := id X
  replace hf : (if 0 ≤ l1 ∧ l1 < 3 then if r32 (F 13 l1 4) then if r32 (F 13 l1 5) then zbind (f_M_often K l4 l6 (F 13 l1 4) (F 13 l1 5) F B) (fun r18 F18 B18 => if r32 r18 then if r32 (F18 13 l1 4) then if r32 (F18 13 l1 5) then zbind (f_M_isMultiple K l4 l6 (F18 13 l1 4) (F18 13 l1 5) (zup3 F18 13 l1 7 r18) B18) (fun r23 F23 B23 => if r32 r23 then (if r23 = 0 then if r32 (F23 13 l1 4) then if r32 (F23 13 l1 5) then zbind (f_M_minus K ((r18 + 1) * (F23 13 l1 4)) (F23 13 l1 5) l4 l6 (zup3 F23 13 l1 7 (r18 + 1)) B23) (fun r29 F29 B29 => zbind (f_M_pieces K l1 l2 (-1) l4 l6 (F29 14 0 0) (F29 14 0 1) l3 F29 B29) (fun r30 F30 B30 => f_M_notes_248 K l1 l2 F30 B30)) else none else none else f_M_notes_248 K l1 l2 F23 B23) else none) else none else none else none) else none else none else none) = some (r, F9, B9) := hf
  refine lv_lload hx hb d_15_86_150 (lv_at hl 1 rfl) ?_
  refine lv_lload hx hb d_15_86_152 (lv_at hl 0 rfl) ?_
  refine lv_aload_n hx hb d_15_86_154 rfl (lv_at hl 3 rfl) ?_
  obtain ⟨g15, hf⟩ := gif hf
  refine zget (ci := 13) (C := RX13) (T := TX13) (v := .int (iI (F 13 l1 4))) (k := 4) hx hb hts inW_13 hown hK hZ g15.1 g15.2 rfl (by decide) k_9_129 rfl d_15_86_155 ?_
  obtain ⟨g16, hf⟩ := gif hf
  refine zi2l hx hb g16 d_15_86_158 ?_
  refine lv_aload_n hx hb d_15_86_159 rfl (lv_at hl 3 rfl) ?_
  refine zget (ci := 13) (C := RX13) (T := TX13) (v := .int (iI (F 13 l1 5))) (k := 5) hx hb hts inW_13 hown hK hZ g15.1 g15.2 rfl (by decide) k_9_130 rfl d_15_86_160 ?_
  obtain ⟨g17, hf⟩ := gif hf
  refine zi2l hx hb g17 d_15_86_163 ?_
  obtain ⟨r18, F18, B18, hc18, hf⟩ := gbind hf
  refine va_calll (va_runS (As := [.long (lI l4), .long (lI l6), .long (lI (F 13 l1 4)), .long (lI (F 13 l1 5))]) (rest := []) ⟨hx, hb, hml, hown, hts⟩ (c_M_often (l := l) hc18) (va_cwS 4 hts (gdS k_13_144 k_13_145 k_1_9 k_13_146) rfl rfl rfl (by decide +kernel) ⟨Nat.le_of_ble_eq_true rfl, Nat.le_of_ble_eq_true rfl⟩) (zPS X hZ hS [.long (lI l4), .long (lI l6), .long (lI (F 13 l1 4)), .long (lI (F 13 l1 5))]) rfl rfl hl.1 rfl (lv_room (Nat.le_of_ble_eq_true rfl)) d_15_86_164 ⟨Nat.le_of_ble_eq_true rfl, Nat.le_of_ble_eq_true rfl⟩) hS (fun q _ h => zAin X hS q h) (zAin X hS) (fun p18 u18 t18 H18 locs18 ht18 hv18 hw18 hB18 hz18 hk18 hS18 => ?_)
  have hZ18 := zBack X ht18 hB18
  subst hw18
  refine lv_lstore (lv' := [(8, .long (lI r18)), (6, .long (lI l6)), (4, .long (lI l4)), (0, .ref (ad 14 0 0)), (1, .ref (ad 13 l1 0)), (2, .int (iI l2)), (3, .int (iI l3))]) hx hb d_15_86_167 hl (by decide) rfl (fun ls hl => ?_)
  refine lv_aload_n hx hb d_15_86_169 rfl (lv_at hl 4 rfl) ?_
  refine lv_lload hx hb d_15_86_170 (lv_at hl 0 rfl) ?_
  obtain ⟨g19, hf⟩ := gif hf
  refine zl2i hx hb g19 d_15_86_172 ?_
  refine zput (ci := 13) (C := RX13) (T := TX13) (k := 7) (v := r18) (w := .int (iI r18)) hx hb hts inW_13 tyX13 tyX13_ok nmX13 hown hK hZ18 hS18 g15.1 g15.2 rfl (by decide) k_9_132 rfl (fun G h => congrArg (fun q => Value.int (iI q)) h) rfl rfl d_15_86_173 (fun H20 locs20 hZ20 hS20 => ?_)
  refine lv_lload hx hb d_15_86_176 (lv_at hl 2 rfl) ?_
  refine lv_lload hx hb d_15_86_178 (lv_at hl 1 rfl) ?_
  refine lv_aload_n hx hb d_15_86_180 rfl (lv_at hl 4 rfl) ?_
  refine zget (ci := 13) (C := RX13) (T := TX13) (v := .int (iI (F18 13 l1 4))) (k := 4) hx hb hts inW_13 hown hK hZ20 g15.1 g15.2 rfl (by decide) k_9_129 (congrArg (fun q => Value.int (iI q)) (show (zup3 F18 13 l1 7 r18) 13 l1 4 = F18 13 l1 4 by simp [zup3])) d_15_86_181 ?_
  obtain ⟨g21, hf⟩ := gif hf
  refine zi2l hx hb g21 d_15_86_184 ?_
  refine lv_aload_n hx hb d_15_86_185 rfl (lv_at hl 4 rfl) ?_
  refine zget (ci := 13) (C := RX13) (T := TX13) (v := .int (iI (F18 13 l1 5))) (k := 5) hx hb hts inW_13 hown hK hZ20 g15.1 g15.2 rfl (by decide) k_9_130 (congrArg (fun q => Value.int (iI q)) (show (zup3 F18 13 l1 7 r18) 13 l1 5 = F18 13 l1 5 by simp [zup3])) d_15_86_186 ?_
  obtain ⟨g22, hf⟩ := gif hf
  refine zi2l hx hb g22 d_15_86_189 ?_
  obtain ⟨r23, F23, B23, hc23, hf⟩ := gbind hf
  refine va_calli (va_runS (As := [.long (lI l4), .long (lI l6), .long (lI (F18 13 l1 4)), .long (lI (F18 13 l1 5))]) (rest := []) ⟨hx, hb, hml, hown, hts⟩ (c_M_isMultiple (l := l) hc23) (va_cwS 4 hts (gdS k_13_185 k_13_186 k_1_9 k_13_187) rfl rfl rfl (by decide +kernel) ⟨Nat.le_of_ble_eq_true rfl, Nat.le_of_ble_eq_true rfl⟩) (zPS X hZ20 hS20 [.long (lI l4), .long (lI l6), .long (lI (F18 13 l1 4)), .long (lI (F18 13 l1 5))]) rfl rfl hl.1 rfl (lv_room (Nat.le_of_ble_eq_true rfl)) d_15_86_190 ⟨Nat.le_of_ble_eq_true rfl, Nat.le_of_ble_eq_true rfl⟩) hS20 (fun q _ h => zAin X hS20 q h) (zAin X hS20) (fun p23 u23 t23 H23 locs23 ht23 hv23 hw23 hB23 hz23 hk23 hS23 => ?_)
  have hZ23 := zBack X ht23 hB23
  subst hw23
  obtain ⟨g24, hf⟩ := gif hf
  refine z0ne (tgt := 248) hx hb g24 d_15_86_193 (by decide) (fun h25 => ?_) (fun h25 => ?_)
  · replace hf := gneg hf h25
    exact b_M_notes_248 X hf hZ23 hS23 (lv_sub hl [4, 5] rfl)
  · replace hf := gpos hf h25
    refine lv_aload_n hx hb d_15_86_196 rfl (lv_at hl 4 rfl) ?_
    refine lv_lload hx hb d_15_86_197 (lv_at hl 0 rfl) ?_
    refine zl2i hx hb g19 d_15_86_199 ?_
    refine lv_iconst (v := iI 1) hx hb d_15_86_200 rfl ?_
    refine zadd hx hb d_15_86_201 ?_
    refine zput (ci := 13) (C := RX13) (T := TX13) (k := 7) (v := (r18 + 1)) (w := .int (iI (r18 + 1))) hx hb hts inW_13 tyX13 tyX13_ok nmX13 hown hK hZ23 hS23 g15.1 g15.2 rfl (by decide) k_9_132 rfl (fun G h => congrArg (fun q => Value.int (iI q)) h) rfl rfl d_15_86_202 (fun H26 locs26 hZ26 hS26 => ?_)
    refine lv_aload_n hx hb d_15_86_205 rfl (lv_at hl 3 rfl) ?_
    refine lv_lload hx hb d_15_86_206 (lv_at hl 0 rfl) ?_
    refine lv_lconst (v := lI 1) hx hb d_15_86_208 (by decide) ?_
    refine zladd hx hb d_15_86_209 ?_
    refine lv_aload_n hx hb d_15_86_210 rfl (lv_at hl 4 rfl) ?_
    refine zget (ci := 13) (C := RX13) (T := TX13) (v := .int (iI (F23 13 l1 4))) (k := 4) hx hb hts inW_13 hown hK hZ26 g15.1 g15.2 rfl (by decide) k_9_129 (congrArg (fun q => Value.int (iI q)) (show (zup3 F23 13 l1 7 (r18 + 1)) 13 l1 4 = F23 13 l1 4 by simp [zup3])) d_15_86_211 ?_
    obtain ⟨g27, hf⟩ := gif hf
    refine zi2l hx hb g27 d_15_86_214 ?_
    refine zlmul hx hb d_15_86_215 ?_
    refine lv_aload_n hx hb d_15_86_216 rfl (lv_at hl 4 rfl) ?_
    refine zget (ci := 13) (C := RX13) (T := TX13) (v := .int (iI (F23 13 l1 5))) (k := 5) hx hb hts inW_13 hown hK hZ26 g15.1 g15.2 rfl (by decide) k_9_130 (congrArg (fun q => Value.int (iI q)) (show (zup3 F23 13 l1 7 (r18 + 1)) 13 l1 5 = F23 13 l1 5 by simp [zup3])) d_15_86_217 ?_
    obtain ⟨g28, hf⟩ := gif hf
    refine zi2l hx hb g28 d_15_86_220 ?_
    refine lv_lload hx hb d_15_86_221 (lv_at hl 2 rfl) ?_
    refine lv_lload hx hb d_15_86_223 (lv_at hl 1 rfl) ?_
    obtain ⟨r29, F29, B29, hc29, hf⟩ := gbind hf
    refine va_callv (va_runV (As := [.long (lI ((r18 + 1) * (F23 13 l1 4))), .long (lI (F23 13 l1 5)), .long (lI l4), .long (lI l6)]) (rest := []) ⟨hx, hb, hml, hown, hts⟩ (c_M_minus (l := l) hc29) (cwV 4 hts (gdV k_13_132 k_13_134 ks_174 k_1_9 k_13_135) rfl rfl rfl (by decide +kernel) ⟨Nat.le_of_ble_eq_true rfl, Nat.le_of_ble_eq_true rfl⟩) (zPV X hZ26 hS26 (ci := 14) (by decide) (by decide) (r := (RX14, TX14, 107)) rfl [.long (lI ((r18 + 1) * (F23 13 l1 4))), .long (lI (F23 13 l1 5)), .long (lI l4), .long (lI l6)]) rfl rfl hl.1 rfl (lv_room (Nat.le_of_ble_eq_true rfl)) d_15_86_225 ⟨Nat.le_of_ble_eq_true rfl, Nat.le_of_ble_eq_true rfl⟩) hS26 (fun q _ h => zAin X hS26 q h) (zAin X hS26) (fun u29 t29 H29 locs29 ht29 hv29 hw29 hB29 hz29 hk29 hS29 => ?_)
    have hZ29 := zBack X ht29 hB29
    refine lv_aload_n hx hb d_15_86_228 rfl (lv_at hl 3 rfl) ?_
    refine lv_aload_n hx hb d_15_86_229 rfl (lv_at hl 4 rfl) ?_
    refine lv_iload_n hx hb d_15_86_230 rfl (lv_at hl 5 rfl) ?_
    refine lv_iconst (v := iI (-1)) hx hb d_15_86_231 rfl ?_
    refine lv_lload hx hb d_15_86_232 (lv_at hl 2 rfl) ?_
    refine lv_lload hx hb d_15_86_234 (lv_at hl 1 rfl) ?_
    refine lv_aload_n hx hb d_15_86_236 rfl (lv_at hl 3 rfl) ?_
    refine zget (ci := 14) (C := RX14) (T := TX14) (v := .long (lI (F29 14 0 0))) (k := 0) hx hb hts inW_14 hown hK hZ29 (by decide) (by decide) rfl (by decide) k_10_238 rfl d_15_86_237 ?_
    refine lv_aload_n hx hb d_15_86_240 rfl (lv_at hl 3 rfl) ?_
    refine zget (ci := 14) (C := RX14) (T := TX14) (v := .long (lI (F29 14 0 1))) (k := 1) hx hb hts inW_14 hown hK hZ29 (by decide) (by decide) rfl (by decide) k_10_239 rfl d_15_86_241 ?_
    refine lv_iload_n hx hb d_15_86_244 rfl (lv_at hl 6 rfl) ?_
    obtain ⟨r30, F30, B30, hc30, hf⟩ := gbind hf
    refine va_callv (va_runV (As := [.ref (ad 13 l1 0), .int (iI l2), .int (iI (-1)), .long (lI l4), .long (lI l6), .long (lI (F29 14 0 0)), .long (lI (F29 14 0 1)), .int (iI l3)]) (rest := []) ⟨hx, hb, hml, hown, hts⟩ (c_M_pieces (l := l) hc30) (cwV 8 hts (gdV k_13_140 k_13_142 ks_176 k_1_9 k_13_143) rfl rfl rfl (by decide +kernel) ⟨Nat.le_of_ble_eq_true rfl, Nat.le_of_ble_eq_true rfl⟩) (zPV X hZ29 hS29 (ci := 14) (by decide) (by decide) (r := (RX14, TX14, 107)) rfl [.ref (ad 13 l1 0), .int (iI l2), .int (iI (-1)), .long (lI l4), .long (lI l6), .long (lI (F29 14 0 0)), .long (lI (F29 14 0 1)), .int (iI l3)]) rfl rfl hl.1 rfl (lv_room (Nat.le_of_ble_eq_true rfl)) d_15_86_245 ⟨Nat.le_of_ble_eq_true rfl, Nat.le_of_ble_eq_true rfl⟩) hS29 (fun q _ h => zAin X hS29 q h) (zAin X hS29) (fun u30 t30 H30 locs30 ht30 hv30 hw30 hB30 hz30 hk30 hS30 => ?_)
    have hZ30 := zBack X ht30 hB30
    exact b_M_notes_248 X hf hZ30 hS30 (lv_sub hl [4, 5] rfl)

def f_M_notes_22 (K : Nat) : Nat → Int → Int → Int → Int → Int → Int → zF → zB → zO
  | 0, _, _, _, _, _, _, _, _ => none
  | n + 1, l8, l6, l4, l1, l2, l3, F, B => if 0 ≤ l1 ∧ l1 < 3 then if 0 ≤ l2 ∧ l2 < 4 then if r32 l8 then if r32 (B 13 l1 12 l2) then (if (B 13 l1 12 l2) ≤ l8 then f_M_notes_150 K l6 l4 l1 l2 l3 F B else if r32 (B 13 l1 13 l2) then (if 800 < (B 13 l1 13 l2) then f_M_notes_150 K l6 l4 l1 l2 l3 F B else if 0 ≤ ((1000 * l2) + l8) ∧ ((1000 * l2) + l8) < 4000 then zbind (f_M_pieces K l1 l2 l8 (B 13 l1 14 ((1000 * l2) + l8)) (B 13 l1 15 ((1000 * l2) + l8)) (B 13 l1 16 ((1000 * l2) + l8)) (B 13 l1 17 ((1000 * l2) + l8)) l3 F B) (fun r13 F13 B13 => zbind (f_M_plus K (B13 13 l1 14 ((1000 * l2) + l8)) (B13 13 l1 15 ((1000 * l2) + l8)) (B13 13 l1 16 ((1000 * l2) + l8)) (B13 13 l1 17 ((1000 * l2) + l8)) F13 B13) (fun r14 F14 B14 => f_M_notes_22 K n (l8 + 1) (F14 14 0 1) (F14 14 0 0) l1 l2 l3 F14 B14)) else none) else none) else none else none else none else none
set_option maxHeartbeats 4000000 in
set_option maxRecDepth 100000 in
theorem b_M_notes_22 {D : va_G} {ca : Nat → ClassId} {ad : Nat → Int → Nat → Nat} {L : List Nat} {aS vS : Nat → Nat} {A : Nat → Prop} {p : Program} {l : Launch} {e : Env} {s : State} {m : MethodId} {args : Array Value} {below : List Frame} {meth : Method} {c : Code} {K : Nat} {r : Int} {F9 : zF} {B9 : zB} (X : zX D ca L aS vS A p s m args meth c prog_15_method_86_code 10 (Option.some Jvm.ClassFile.FieldType.int) "StaveHouseModel") : ∀ {n : Nat} {l8 : Int} {l6 : Int} {l4 : Int} {l1 : Int} {l2 : Int} {l3 : Int} {F : zF} {B : zB} {H : Heap} {locs : List Loc} {ls : Array Slot}, f_M_notes_22 K n l8 l6 l4 l1 l2 l3 F B = some (r, F9, B9) → zH D ca ad lnM nM L F B A H → va_S A s.heap H locs → lv_has ls 10 [(8, .int (iI l8)), (6, .long (lI l6)), (4, .long (lI l4)), (0, .ref (ad 14 0 0)), (1, .ref (ad 13 l1 0)), (2, .int (iI l2)), (3, .int (iI l3))] → W p l e ({ frames := 8, cells := 0, slots := 0, locals := 276 } : Room) s m args below meth c H locs 0 0 (MQ below (Q_M_notes D ca ad L r F9 B9 A) args s 0 0 A) (F0 m 22 ls []) := by
  obtain ⟨hx, hb, hr, hml, hown, hts, hlk, hK, hA, hL, hX⟩ := id X
  intro n
  induction n with
  | zero =>
    intros
    rename_i hf _ _ _
    cases hf
  | succ n ih =>
    intro l8 l6 l4 l1 l2 l3 F B H locs ls hf hZ hS hl
    replace hf : (if 0 ≤ l1 ∧ l1 < 3 then if 0 ≤ l2 ∧ l2 < 4 then if r32 l8 then if r32 (B 13 l1 12 l2) then (if (B 13 l1 12 l2) ≤ l8 then f_M_notes_150 K l6 l4 l1 l2 l3 F B else if r32 (B 13 l1 13 l2) then (if 800 < (B 13 l1 13 l2) then f_M_notes_150 K l6 l4 l1 l2 l3 F B else if 0 ≤ ((1000 * l2) + l8) ∧ ((1000 * l2) + l8) < 4000 then zbind (f_M_pieces K l1 l2 l8 (B 13 l1 14 ((1000 * l2) + l8)) (B 13 l1 15 ((1000 * l2) + l8)) (B 13 l1 16 ((1000 * l2) + l8)) (B 13 l1 17 ((1000 * l2) + l8)) l3 F B) (fun r13 F13 B13 => zbind (f_M_plus K (B13 13 l1 14 ((1000 * l2) + l8)) (B13 13 l1 15 ((1000 * l2) + l8)) (B13 13 l1 16 ((1000 * l2) + l8)) (B13 13 l1 17 ((1000 * l2) + l8)) F13 B13) (fun r14 F14 B14 => f_M_notes_22 K n (l8 + 1) (F14 14 0 1) (F14 14 0 0) l1 l2 l3 F14 B14)) else none) else none) else none else none else none else none) = some (r, F9, B9) := hf
    refine lv_iload hx hb d_15_86_22 (lv_at hl 0 rfl) ?_
    refine lv_aload_n hx hb d_15_86_24 rfl (lv_at hl 4 rfl) ?_
    obtain ⟨g5, hf⟩ := gif hf
    refine zget (ci := 13) (C := RX13) (T := TX13) (v := .ref (ad 13 l1 (12 + 1))) (k := 12) hx hb hts inW_13 hown hK hZ g5.1 g5.2 rfl (by decide) k_9_142 rfl d_15_86_25 ?_
    refine lv_iload_n hx hb d_15_86_28 rfl (lv_at hl 5 rfl) ?_
    obtain ⟨g6, hf⟩ := gif hf
    refine zald (ci := 13) (k := 12) hx hb hK rfl hZ g5.1 g5.2 rfl (Nat.le_of_ble_eq_true rfl) g6.1 g6.2 d_15_86_29 ?_
    obtain ⟨g7, hf⟩ := gif hf
    obtain ⟨g8, hf⟩ := gif hf
    refine zge (tgt := 150) hx hb g7 g8 d_15_86_30 (by decide) (fun h9 => ?_) (fun h9 => ?_)
    · replace hf := gpos hf h9
      exact b_M_notes_150 X hf hZ hS (lv_sub hl [1, 2, 3, 4, 5, 6] rfl)
    · replace hf := gneg hf h9
      refine lv_aload_n hx hb d_15_86_33 rfl (lv_at hl 4 rfl) ?_
      refine zget (ci := 13) (C := RX13) (T := TX13) (v := .ref (ad 13 l1 (13 + 1))) (k := 13) hx hb hts inW_13 hown hK hZ g5.1 g5.2 rfl (by decide) k_9_144 rfl d_15_86_34 ?_
      refine lv_iload_n hx hb d_15_86_37 rfl (lv_at hl 5 rfl) ?_
      refine zald (ci := 13) (k := 13) hx hb hK rfl hZ g5.1 g5.2 rfl (Nat.le_of_ble_eq_true rfl) g6.1 g6.2 d_15_86_38 ?_
      refine lv_sipush (v := iI 800) hx hb d_15_86_39 (by decide) ?_
      obtain ⟨g10, hf⟩ := gif hf
      refine zgt (tgt := 150) hx hb g10 (by decide) d_15_86_42 (by decide) (fun h11 => ?_) (fun h11 => ?_)
      · replace hf := gpos hf h11
        exact b_M_notes_150 X hf hZ hS (lv_sub hl [1, 2, 3, 4, 5, 6] rfl)
      · replace hf := gneg hf h11
        refine lv_sipush (v := iI 1000) hx hb d_15_86_45 (by decide) ?_
        refine lv_iload_n hx hb d_15_86_48 rfl (lv_at hl 5 rfl) ?_
        refine zmul hx hb d_15_86_49 ?_
        refine lv_iload hx hb d_15_86_50 (lv_at hl 0 rfl) ?_
        refine zadd hx hb d_15_86_52 ?_
        refine lv_istore (lv' := [(9, .int (iI ((1000 * l2) + l8))), (8, .int (iI l8)), (6, .long (lI l6)), (4, .long (lI l4)), (0, .ref (ad 14 0 0)), (1, .ref (ad 13 l1 0)), (2, .int (iI l2)), (3, .int (iI l3))]) hx hb d_15_86_53 hl (by decide) rfl (fun ls hl => ?_)
        refine lv_aload_n hx hb d_15_86_55 rfl (lv_at hl 5 rfl) ?_
        refine zget (ci := 13) (C := RX13) (T := TX13) (v := .ref (ad 13 l1 (14 + 1))) (k := 14) hx hb hts inW_13 hown hK hZ g5.1 g5.2 rfl (by decide) k_9_146 rfl d_15_86_56 ?_
        refine lv_iload hx hb d_15_86_59 (lv_at hl 0 rfl) ?_
        obtain ⟨g12, hf⟩ := gif hf
        refine zlald (ci := 13) (k := 14) hx hb hK rfl hZ g5.1 g5.2 rfl (Nat.le_of_ble_eq_true rfl) g12.1 g12.2 d_15_86_61 ?_
        refine lv_lstore (lv' := [(4, .long (lI (B 13 l1 14 ((1000 * l2) + l8)))), (9, .int (iI ((1000 * l2) + l8))), (8, .int (iI l8)), (6, .long (lI l6)), (0, .ref (ad 14 0 0)), (1, .ref (ad 13 l1 0)), (2, .int (iI l2)), (3, .int (iI l3))]) hx hb d_15_86_62 hl (by decide) rfl (fun ls hl => ?_)
        refine lv_aload_n hx hb d_15_86_64 rfl (lv_at hl 5 rfl) ?_
        refine zget (ci := 13) (C := RX13) (T := TX13) (v := .ref (ad 13 l1 (15 + 1))) (k := 15) hx hb hts inW_13 hown hK hZ g5.1 g5.2 rfl (by decide) k_9_148 rfl d_15_86_65 ?_
        refine lv_iload hx hb d_15_86_68 (lv_at hl 1 rfl) ?_
        refine zlald (ci := 13) (k := 15) hx hb hK rfl hZ g5.1 g5.2 rfl (Nat.le_of_ble_eq_true rfl) g12.1 g12.2 d_15_86_70 ?_
        refine lv_lstore (lv' := [(6, .long (lI (B 13 l1 15 ((1000 * l2) + l8)))), (4, .long (lI (B 13 l1 14 ((1000 * l2) + l8)))), (9, .int (iI ((1000 * l2) + l8))), (8, .int (iI l8)), (0, .ref (ad 14 0 0)), (1, .ref (ad 13 l1 0)), (2, .int (iI l2)), (3, .int (iI l3))]) hx hb d_15_86_71 hl (by decide) rfl (fun ls hl => ?_)
        refine lv_aload_n hx hb d_15_86_73 rfl (lv_at hl 4 rfl) ?_
        refine lv_aload_n hx hb d_15_86_74 rfl (lv_at hl 5 rfl) ?_
        refine lv_iload_n hx hb d_15_86_75 rfl (lv_at hl 6 rfl) ?_
        refine lv_iload hx hb d_15_86_76 (lv_at hl 3 rfl) ?_
        refine lv_lload hx hb d_15_86_78 (lv_at hl 1 rfl) ?_
        refine lv_lload hx hb d_15_86_80 (lv_at hl 0 rfl) ?_
        refine lv_aload_n hx hb d_15_86_82 rfl (lv_at hl 5 rfl) ?_
        refine zget (ci := 13) (C := RX13) (T := TX13) (v := .ref (ad 13 l1 (16 + 1))) (k := 16) hx hb hts inW_13 hown hK hZ g5.1 g5.2 rfl (by decide) k_9_150 rfl d_15_86_83 ?_
        refine lv_iload hx hb d_15_86_86 (lv_at hl 2 rfl) ?_
        refine zlald (ci := 13) (k := 16) hx hb hK rfl hZ g5.1 g5.2 rfl (Nat.le_of_ble_eq_true rfl) g12.1 g12.2 d_15_86_88 ?_
        refine lv_aload_n hx hb d_15_86_89 rfl (lv_at hl 5 rfl) ?_
        refine zget (ci := 13) (C := RX13) (T := TX13) (v := .ref (ad 13 l1 (17 + 1))) (k := 17) hx hb hts inW_13 hown hK hZ g5.1 g5.2 rfl (by decide) k_9_152 rfl d_15_86_90 ?_
        refine lv_iload hx hb d_15_86_93 (lv_at hl 2 rfl) ?_
        refine zlald (ci := 13) (k := 17) hx hb hK rfl hZ g5.1 g5.2 rfl (Nat.le_of_ble_eq_true rfl) g12.1 g12.2 d_15_86_95 ?_
        refine lv_iload_n hx hb d_15_86_96 rfl (lv_at hl 7 rfl) ?_
        obtain ⟨r13, F13, B13, hc13, hf⟩ := gbind hf
        refine va_callv (va_runV (As := [.ref (ad 13 l1 0), .int (iI l2), .int (iI l8), .long (lI (B 13 l1 14 ((1000 * l2) + l8))), .long (lI (B 13 l1 15 ((1000 * l2) + l8))), .long (lI (B 13 l1 16 ((1000 * l2) + l8))), .long (lI (B 13 l1 17 ((1000 * l2) + l8))), .int (iI l3)]) (rest := []) ⟨hx, hb, hml, hown, hts⟩ (c_M_pieces (l := l) hc13) (cwV 8 hts (gdV k_13_140 k_13_142 ks_176 k_1_9 k_13_143) rfl rfl rfl (by decide +kernel) ⟨Nat.le_of_ble_eq_true rfl, Nat.le_of_ble_eq_true rfl⟩) (zPV X hZ hS (ci := 14) (by decide) (by decide) (r := (RX14, TX14, 107)) rfl [.ref (ad 13 l1 0), .int (iI l2), .int (iI l8), .long (lI (B 13 l1 14 ((1000 * l2) + l8))), .long (lI (B 13 l1 15 ((1000 * l2) + l8))), .long (lI (B 13 l1 16 ((1000 * l2) + l8))), .long (lI (B 13 l1 17 ((1000 * l2) + l8))), .int (iI l3)]) rfl rfl hl.1 rfl (lv_room (Nat.le_of_ble_eq_true rfl)) d_15_86_97 ⟨Nat.le_of_ble_eq_true rfl, Nat.le_of_ble_eq_true rfl⟩) hS (fun q _ h => zAin X hS q h) (zAin X hS) (fun u13 t13 H13 locs13 ht13 hv13 hw13 hB13 hz13 hk13 hS13 => ?_)
        have hZ13 := zBack X ht13 hB13
        refine lv_aload_n hx hb d_15_86_100 rfl (lv_at hl 4 rfl) ?_
        refine lv_aload_n hx hb d_15_86_101 rfl (lv_at hl 5 rfl) ?_
        refine zget (ci := 13) (C := RX13) (T := TX13) (v := .ref (ad 13 l1 (14 + 1))) (k := 14) hx hb hts inW_13 hown hK hZ13 g5.1 g5.2 rfl (by decide) k_9_146 rfl d_15_86_102 ?_
        refine lv_iload hx hb d_15_86_105 (lv_at hl 2 rfl) ?_
        refine zlald (ci := 13) (k := 14) hx hb hK rfl hZ13 g5.1 g5.2 rfl (Nat.le_of_ble_eq_true rfl) g12.1 g12.2 d_15_86_107 ?_
        refine lv_aload_n hx hb d_15_86_108 rfl (lv_at hl 5 rfl) ?_
        refine zget (ci := 13) (C := RX13) (T := TX13) (v := .ref (ad 13 l1 (15 + 1))) (k := 15) hx hb hts inW_13 hown hK hZ13 g5.1 g5.2 rfl (by decide) k_9_148 rfl d_15_86_109 ?_
        refine lv_iload hx hb d_15_86_112 (lv_at hl 2 rfl) ?_
        refine zlald (ci := 13) (k := 15) hx hb hK rfl hZ13 g5.1 g5.2 rfl (Nat.le_of_ble_eq_true rfl) g12.1 g12.2 d_15_86_114 ?_
        refine lv_aload_n hx hb d_15_86_115 rfl (lv_at hl 5 rfl) ?_
        refine zget (ci := 13) (C := RX13) (T := TX13) (v := .ref (ad 13 l1 (16 + 1))) (k := 16) hx hb hts inW_13 hown hK hZ13 g5.1 g5.2 rfl (by decide) k_9_150 rfl d_15_86_116 ?_
        refine lv_iload hx hb d_15_86_119 (lv_at hl 2 rfl) ?_
        refine zlald (ci := 13) (k := 16) hx hb hK rfl hZ13 g5.1 g5.2 rfl (Nat.le_of_ble_eq_true rfl) g12.1 g12.2 d_15_86_121 ?_
        refine lv_aload_n hx hb d_15_86_122 rfl (lv_at hl 5 rfl) ?_
        refine zget (ci := 13) (C := RX13) (T := TX13) (v := .ref (ad 13 l1 (17 + 1))) (k := 17) hx hb hts inW_13 hown hK hZ13 g5.1 g5.2 rfl (by decide) k_9_152 rfl d_15_86_123 ?_
        refine lv_iload hx hb d_15_86_126 (lv_at hl 2 rfl) ?_
        refine zlald (ci := 13) (k := 17) hx hb hK rfl hZ13 g5.1 g5.2 rfl (Nat.le_of_ble_eq_true rfl) g12.1 g12.2 d_15_86_128 ?_
        obtain ⟨r14, F14, B14, hc14, hf⟩ := gbind hf
        refine va_callv (va_runV (As := [.long (lI (B13 13 l1 14 ((1000 * l2) + l8))), .long (lI (B13 13 l1 15 ((1000 * l2) + l8))), .long (lI (B13 13 l1 16 ((1000 * l2) + l8))), .long (lI (B13 13 l1 17 ((1000 * l2) + l8)))]) (rest := []) ⟨hx, hb, hml, hown, hts⟩ (c_M_plus (l := l) hc14) (cwV 4 hts (gdV k_12_147 k_12_149 ks_135 k_1_9 k_12_150) rfl rfl rfl (by decide +kernel) ⟨Nat.le_of_ble_eq_true rfl, Nat.le_of_ble_eq_true rfl⟩) (zPV X hZ13 hS13 (ci := 14) (by decide) (by decide) (r := (RX14, TX14, 107)) rfl [.long (lI (B13 13 l1 14 ((1000 * l2) + l8))), .long (lI (B13 13 l1 15 ((1000 * l2) + l8))), .long (lI (B13 13 l1 16 ((1000 * l2) + l8))), .long (lI (B13 13 l1 17 ((1000 * l2) + l8)))]) rfl rfl hl.1 rfl (lv_room (Nat.le_of_ble_eq_true rfl)) d_15_86_129 ⟨Nat.le_of_ble_eq_true rfl, Nat.le_of_ble_eq_true rfl⟩) hS13 (fun q _ h => zAin X hS13 q h) (zAin X hS13) (fun u14 t14 H14 locs14 ht14 hv14 hw14 hB14 hz14 hk14 hS14 => ?_)
        have hZ14 := zBack X ht14 hB14
        refine lv_aload_n hx hb d_15_86_132 rfl (lv_at hl 4 rfl) ?_
        refine zget (ci := 14) (C := RX14) (T := TX14) (v := .long (lI (F14 14 0 0))) (k := 0) hx hb hts inW_14 hown hK hZ14 (by decide) (by decide) rfl (by decide) k_10_238 rfl d_15_86_133 ?_
        refine lv_lstore (lv' := [(4, .long (lI (F14 14 0 0))), (6, .long (lI (B 13 l1 15 ((1000 * l2) + l8)))), (9, .int (iI ((1000 * l2) + l8))), (8, .int (iI l8)), (0, .ref (ad 14 0 0)), (1, .ref (ad 13 l1 0)), (2, .int (iI l2)), (3, .int (iI l3))]) hx hb d_15_86_136 hl (by decide) rfl (fun ls hl => ?_)
        refine lv_aload_n hx hb d_15_86_138 rfl (lv_at hl 4 rfl) ?_
        refine zget (ci := 14) (C := RX14) (T := TX14) (v := .long (lI (F14 14 0 1))) (k := 1) hx hb hts inW_14 hown hK hZ14 (by decide) (by decide) rfl (by decide) k_10_239 rfl d_15_86_139 ?_
        refine lv_lstore (lv' := [(6, .long (lI (F14 14 0 1))), (4, .long (lI (F14 14 0 0))), (9, .int (iI ((1000 * l2) + l8))), (8, .int (iI l8)), (0, .ref (ad 14 0 0)), (1, .ref (ad 13 l1 0)), (2, .int (iI l2)), (3, .int (iI l3))]) hx hb d_15_86_142 hl (by decide) rfl (fun ls hl => ?_)
        refine lv_iinc (v := iI (l8 + 1)) (lv' := [(8, .int (iI (l8 + 1))), (6, .long (lI (F14 14 0 1))), (4, .long (lI (F14 14 0 0))), (9, .int (iI ((1000 * l2) + l8))), (0, .ref (ad 14 0 0)), (1, .ref (ad 13 l1 0)), (2, .int (iI l2)), (3, .int (iI l3))]) hx hb d_15_86_144 hl (k := 3) rfl (iI_add _ 1) (by decide) rfl (fun ls hl => ?_)
        refine lv_goto (tgt := 22) hx hb d_15_86_147 (by decide) ?_
        exact ih hf hZ14 hS14 (lv_sub hl [0, 1, 2, 4, 5, 6, 7] rfl)

def f_M_notes (K : Nat) (l1 : Int) (l2 : Int) (l3 : Int) (F : zF) (B : zB) : zO := if 0 ≤ l1 ∧ l1 < 3 then if 0 ≤ l2 ∧ l2 < 4 then zbind (f_M_is K 0 1 F (zup4 B 13 l1 13 l2 0)) (fun r4 F4 B4 => f_M_notes_22 K K 0 1 0 l1 l2 l3 F4 B4) else none else none
set_option maxHeartbeats 4000000 in
set_option maxRecDepth 100000 in
theorem c_M_notes {l : Launch} {D : va_G} {ca : Nat → ClassId} {ad : Nat → Int → Nat → Nat} {L : List Nat} {aS vS : Nat → Nat} {sz K : Nat} {l1 : Int} {l2 : Int} {l3 : Int} {F F9 : zF} {B B9 : zB} {r : Int} (hf : f_M_notes K l1 l2 l3 F B = some (r, F9, B9)) : Met l ({ cls := "StaveHouseModel", name := "notes", desc := "(LStaveHouseModel$Piece;IZ)I" } : Jvm.MethodName) (Cond.code ({ cls := "StaveHouseModel", name := "notes", desc := "(LStaveHouseModel$Piece;IZ)I" } : Jvm.MethodName) prog_15_method_86_code 10 (Option.some Jvm.ClassFile.FieldType.int) :: wAll) ({ frames := 8, cells := 0, slots := 0, locals := 276 } : Room) (va_Pc [.ref (ad 14 0 0), .ref (ad 13 l1 0), .int (iI l2), .int (iI l3)] (zPre D ca ad lnM nM L aS vS F B sz)) (Q_M_notes D ca ad L r F9 B9 (zA L sz)) 0 0 (zA L sz) := by
  refine zMet (Qc := Q_M_notes D ca ad L r F9 B9) (lv := [(0, .ref (ad 14 0 0)), (1, .ref (ad 13 l1 0)), (2, .int (iI l2)), (3, .int (iI l3))]) (by decide) (Nat.le_of_ble_eq_true rfl) rfl (fun A p e s m below meth c ls X hZ hS hl => ?_)
  obtain ⟨hx, hb, hr, hml, hown, hts, hlk, hK, hA, hL, hX⟩ := id X
  replace hf : (if 0 ≤ l1 ∧ l1 < 3 then if 0 ≤ l2 ∧ l2 < 4 then zbind (f_M_is K 0 1 F (zup4 B 13 l1 13 l2 0)) (fun r4 F4 B4 => f_M_notes_22 K K 0 1 0 l1 l2 l3 F4 B4) else none else none) = some (r, F9, B9) := hf
  refine lv_aload_n hx hb d_15_86_0 rfl (lv_at hl 1 rfl) ?_
  obtain ⟨g1, hf⟩ := gif hf
  refine zget (ci := 13) (C := RX13) (T := TX13) (v := .ref (ad 13 l1 (13 + 1))) (k := 13) hx hb hts inW_13 hown hK hZ g1.1 g1.2 rfl (by decide) k_9_144 rfl d_15_86_1 ?_
  refine lv_iload_n hx hb d_15_86_4 rfl (lv_at hl 2 rfl) ?_
  refine lv_iconst (v := iI 0) hx hb d_15_86_5 rfl ?_
  obtain ⟨g2, hf⟩ := gif hf
  refine zast (ci := 13) (k := 13) hx hb hK rfl hZ hS g1.1 g1.2 rfl (Nat.le_of_ble_eq_true rfl) g2.1 g2.2 d_15_86_6 (fun H3 locs3 hZ3 hS3 => ?_)
  refine lv_aload_n hx hb d_15_86_7 rfl (lv_at hl 0 rfl) ?_
  refine lv_lconst (v := lI 0) hx hb d_15_86_8 (by decide) ?_
  refine lv_lconst (v := lI 1) hx hb d_15_86_9 (by decide) ?_
  obtain ⟨r4, F4, B4, hc4, hf⟩ := gbind hf
  refine va_callv (va_runV (As := [.long (lI 0), .long (lI 1)]) (rest := []) ⟨hx, hb, hml, hown, hts⟩ (c_M_is (l := l) hc4) (cwV 2 hts (gdV k_12_154 k_12_156 ks_136 k_1_9 k_12_157) rfl rfl rfl (by decide +kernel) ⟨Nat.le_of_ble_eq_true rfl, Nat.le_of_ble_eq_true rfl⟩) (zPV X hZ3 hS3 (ci := 14) (by decide) (by decide) (r := (RX14, TX14, 107)) rfl [.long (lI 0), .long (lI 1)]) rfl rfl hl.1 rfl (lv_room (Nat.le_of_ble_eq_true rfl)) d_15_86_10 ⟨Nat.le_of_ble_eq_true rfl, Nat.le_of_ble_eq_true rfl⟩) hS3 (fun q _ h => zAin X hS3 q h) (zAin X hS3) (fun u4 t4 H4 locs4 ht4 hv4 hw4 hB4 hz4 hk4 hS4 => ?_)
  have hZ4 := zBack X ht4 hB4
  refine lv_lconst (v := lI 0) hx hb d_15_86_13 (by decide) ?_
  refine lv_lstore (lv' := [(4, .long (lI 0)), (0, .ref (ad 14 0 0)), (1, .ref (ad 13 l1 0)), (2, .int (iI l2)), (3, .int (iI l3))]) hx hb d_15_86_14 hl (by decide) rfl (fun ls hl => ?_)
  refine lv_lconst (v := lI 1) hx hb d_15_86_16 (by decide) ?_
  refine lv_lstore (lv' := [(6, .long (lI 1)), (4, .long (lI 0)), (0, .ref (ad 14 0 0)), (1, .ref (ad 13 l1 0)), (2, .int (iI l2)), (3, .int (iI l3))]) hx hb d_15_86_17 hl (by decide) rfl (fun ls hl => ?_)
  refine lv_iconst (v := iI 0) hx hb d_15_86_19 rfl ?_
  refine lv_istore (lv' := [(8, .int (iI 0)), (6, .long (lI 1)), (4, .long (lI 0)), (0, .ref (ad 14 0 0)), (1, .ref (ad 13 l1 0)), (2, .int (iI l2)), (3, .int (iI l3))]) hx hb d_15_86_20 hl (by decide) rfl (fun ls hl => ?_)
  exact b_M_notes_22 X hf hZ4 hS4 (lv_sub hl [0, 1, 2, 3, 4, 5, 6] rfl)

abbrev Q_M_judge (D : va_G) (ca : Nat → ClassId) (ad : Nat → Int → Nat → Nat) (L : List Nat) (r : Int) (F : zF) (B : zB) (A : Nat → Prop) : Array Value → State → Outcome → State → Prop := va_Qv (S := Unit) (fun _ => True) (fun _ => zPo D ca ad lnM nM L F B A) A
def f_M_judge_325 (K : Nat)  (F : zF) (B : zB) : zO := some (0, F, B)
set_option maxHeartbeats 4000000 in
set_option maxRecDepth 100000 in
theorem b_M_judge_325 {D : va_G} {ca : Nat → ClassId} {ad : Nat → Int → Nat → Nat} {L : List Nat} {aS vS : Nat → Nat} {A : Nat → Prop} {p : Program} {l : Launch} {e : Env} {s : State} {m : MethodId} {args : Array Value} {below : List Frame} {meth : Method} {c : Code} {K : Nat} {r : Int} {F9 : zF} {B9 : zB} (X : zX D ca L aS vS A p s m args meth c prog_15_method_73_code 6 (Option.none : Option Jvm.ClassFile.FieldType) "StaveHouseModel")  {F : zF} {B : zB} {H : Heap} {locs : List Loc} {ls : Array Slot} (hf : f_M_judge_325 K  F B = some (r, F9, B9)) (hZ : zH D ca ad lnM nM L F B A H) (hS : va_S A s.heap H locs) (hl : lv_has ls 6 []) : W p l e ({ frames := 9, cells := 0, slots := 0, locals := 305 } : Room) s m args below meth c H locs 0 0 (MQ below (Q_M_judge D ca ad L r F9 B9 A) args s 0 0 A) (F0 m 325 ls []) := by
  obtain ⟨hx, hb, hr, hml, hown, hts, hlk, hK, hA, hL, hX⟩ := id X
  replace hf : (some (0, F, B)) = some (r, F9, B9) := hf
  cases hf
  exact W.vret hx hb hr (fun t ht hW => ⟨⟨(), rfl, trivial, by rw [ht]; exact hZ, va_K.moved hW.alike hK⟩, hS.F ht⟩) hS.2.2 d_15_73_325 hlk

def f_M_judge_284 (K : Nat)  (F : zF) (B : zB) : zO := zbind (f_M_good K F B) (fun r61 F61 B61 => if r32 r61 then (if r61 = 0 then f_M_judge_325 K F61 B61 else if 0 ≤ (F61 14 0 6) ∧ (F61 14 0 6) < 3 then zbind (f_M_notes K (F61 14 0 6) (F61 14 0 35) 1 F61 B61) (fun r65 F65 B65 => if r32 r65 then (if r65 ≤ 800 then f_M_judge_325 K F65 B65 else if 0 ≤ (F65 14 0 35) ∧ (F65 14 0 35) < 4 then zbind (f_M_failAt K 14 (B65 14 0 28 (F65 14 0 35)) F65 B65) (fun r69 F69 B69 => f_M_judge_325 K F69 B69) else none) else none) else none) else none)
set_option maxHeartbeats 4000000 in
set_option maxRecDepth 100000 in
theorem b_M_judge_284 {D : va_G} {ca : Nat → ClassId} {ad : Nat → Int → Nat → Nat} {L : List Nat} {aS vS : Nat → Nat} {A : Nat → Prop} {p : Program} {l : Launch} {e : Env} {s : State} {m : MethodId} {args : Array Value} {below : List Frame} {meth : Method} {c : Code} {K : Nat} {r : Int} {F9 : zF} {B9 : zB} (X : zX D ca L aS vS A p s m args meth c prog_15_method_73_code 6 (Option.none : Option Jvm.ClassFile.FieldType) "StaveHouseModel")  {F : zF} {B : zB} {H : Heap} {locs : List Loc} {ls : Array Slot} (hf : f_M_judge_284 K  F B = some (r, F9, B9)) (hZ : zH D ca ad lnM nM L F B A H) (hS : va_S A s.heap H locs) (hl : lv_has ls 6 [(0, .ref (ad 14 0 0))]) : W p l e ({ frames := 9, cells := 0, slots := 0, locals := 305 } : Room) s m args below meth c H locs 0 0 (MQ below (Q_M_judge D ca ad L r F9 B9 A) args s 0 0 A) (F0 m 284 ls []) := by
  obtain ⟨hx, hb, hr, hml, hown, hts, hlk, hK, hA, hL, hX⟩ := id X
  replace hf : (zbind (f_M_good K F B) (fun r61 F61 B61 => if r32 r61 then (if r61 = 0 then f_M_judge_325 K F61 B61 else if 0 ≤ (F61 14 0 6) ∧ (F61 14 0 6) < 3 then zbind (f_M_notes K (F61 14 0 6) (F61 14 0 35) 1 F61 B61) (fun r65 F65 B65 => if r32 r65 then (if r65 ≤ 800 then f_M_judge_325 K F65 B65 else if 0 ≤ (F65 14 0 35) ∧ (F65 14 0 35) < 4 then zbind (f_M_failAt K 14 (B65 14 0 28 (F65 14 0 35)) F65 B65) (fun r69 F69 B69 => f_M_judge_325 K F69 B69) else none) else none) else none) else none)) = some (r, F9, B9) := hf
  refine lv_aload_n hx hb d_15_73_284 rfl (lv_at hl 0 rfl) ?_
  obtain ⟨r61, F61, B61, hc61, hf⟩ := gbind hf
  refine va_calli (va_runV (As := []) (rest := []) ⟨hx, hb, hml, hown, hts⟩ (c_M_good (l := l) hc61) (cwV 0 hts (gdV k_13_15 k_13_17 ks_152 k_1_9 k_13_18) rfl rfl rfl (by decide +kernel) ⟨Nat.le_of_ble_eq_true rfl, Nat.le_of_ble_eq_true rfl⟩) (zPV X hZ hS (ci := 14) (by decide) (by decide) (r := (RX14, TX14, 107)) rfl []) rfl rfl hl.1 rfl (lv_room (Nat.le_of_ble_eq_true rfl)) d_15_73_285 ⟨Nat.le_of_ble_eq_true rfl, Nat.le_of_ble_eq_true rfl⟩) hS (fun q _ h => zAin X hS q h) (zAin X hS) (fun p61 u61 t61 H61 locs61 ht61 hv61 hw61 hB61 hz61 hk61 hS61 => ?_)
  have hZ61 := zBack X ht61 hB61
  subst hw61
  obtain ⟨g62, hf⟩ := gif hf
  refine z0eq (tgt := 325) hx hb g62 d_15_73_288 (by decide) (fun h63 => ?_) (fun h63 => ?_)
  · replace hf := gpos hf h63
    exact b_M_judge_325 X hf hZ61 hS61 (lv_sub hl [] rfl)
  · replace hf := gneg hf h63
    refine lv_aload_n hx hb d_15_73_291 rfl (lv_at hl 0 rfl) ?_
    refine lv_aload_n hx hb d_15_73_292 rfl (lv_at hl 0 rfl) ?_
    refine zget (ci := 14) (C := RX14) (T := TX14) (v := va_rf (zrf ad 13 (F61 14 0 6))) (k := 6) hx hb hts inW_14 hown hK hZ61 (by decide) (by decide) rfl (by decide) k_11_4 rfl d_15_73_293 ?_
    refine lv_aload_n hx hb d_15_73_296 rfl (lv_at hl 0 rfl) ?_
    refine zget (ci := 14) (C := RX14) (T := TX14) (v := .int (iI (F61 14 0 35))) (k := 35) hx hb hts inW_14 hown hK hZ61 (by decide) (by decide) rfl (by decide) k_11_33 rfl d_15_73_297 ?_
    refine lv_iconst (v := iI 1) hx hb d_15_73_300 rfl ?_
    obtain ⟨g64, hf⟩ := gif hf
    refine W.eq (g2 := F0 m 301 ls [.int (iI 1), .int (iI (F61 14 0 35)), .ref (ad 13 (F61 14 0 6) 0), .ref (ad 14 0 0)]) (by rw [zrf_pos (ad := ad) (t := 13) g64.1]; try rfl) ?_
    obtain ⟨r65, F65, B65, hc65, hf⟩ := gbind hf
    refine va_calli (va_runV (As := [.ref (ad 13 (F61 14 0 6) 0), .int (iI (F61 14 0 35)), .int (iI 1)]) (rest := []) ⟨hx, hb, hml, hown, hts⟩ (c_M_notes (l := l) hc65) (cwV 3 hts (gdV k_13_136 k_13_138 ks_175 k_1_9 k_13_139) rfl rfl rfl (by decide +kernel) ⟨Nat.le_of_ble_eq_true rfl, Nat.le_of_ble_eq_true rfl⟩) (zPV X hZ61 hS61 (ci := 14) (by decide) (by decide) (r := (RX14, TX14, 107)) rfl [.ref (ad 13 (F61 14 0 6) 0), .int (iI (F61 14 0 35)), .int (iI 1)]) rfl rfl hl.1 rfl (lv_room (Nat.le_of_ble_eq_true rfl)) d_15_73_301 ⟨Nat.le_of_ble_eq_true rfl, Nat.le_of_ble_eq_true rfl⟩) hS61 (fun q _ h => zAin X hS61 q h) (zAin X hS61) (fun p65 u65 t65 H65 locs65 ht65 hv65 hw65 hB65 hz65 hk65 hS65 => ?_)
    have hZ65 := zBack X ht65 hB65
    subst hw65
    refine lv_sipush (v := iI 800) hx hb d_15_73_304 (by decide) ?_
    obtain ⟨g66, hf⟩ := gif hf
    refine zle (tgt := 325) hx hb g66 (by decide) d_15_73_307 (by decide) (fun h67 => ?_) (fun h67 => ?_)
    · replace hf := gpos hf h67
      exact b_M_judge_325 X hf hZ65 hS65 (lv_sub hl [] rfl)
    · replace hf := gneg hf h67
      refine lv_aload_n hx hb d_15_73_310 rfl (lv_at hl 0 rfl) ?_
      refine lv_bipush (v := iI 14) hx hb d_15_73_311 (by decide) ?_
      refine lv_aload_n hx hb d_15_73_313 rfl (lv_at hl 0 rfl) ?_
      refine zget (ci := 14) (C := RX14) (T := TX14) (v := .ref (ad 14 0 (28 + 1))) (k := 28) hx hb hts inW_14 hown hK hZ65 (by decide) (by decide) rfl (by decide) k_11_26 rfl d_15_73_314 ?_
      refine lv_aload_n hx hb d_15_73_317 rfl (lv_at hl 0 rfl) ?_
      refine zget (ci := 14) (C := RX14) (T := TX14) (v := .int (iI (F65 14 0 35))) (k := 35) hx hb hts inW_14 hown hK hZ65 (by decide) (by decide) rfl (by decide) k_11_33 rfl d_15_73_318 ?_
      obtain ⟨g68, hf⟩ := gif hf
      refine zald (ci := 14) (k := 28) hx hb hK rfl hZ65 (by decide) (by decide) rfl (Nat.le_of_ble_eq_true rfl) g68.1 g68.2 d_15_73_321 ?_
      obtain ⟨r69, F69, B69, hc69, hf⟩ := gbind hf
      refine va_callv (va_runV (As := [.int (iI 14), .int (iI (B65 14 0 28 (F65 14 0 35)))]) (rest := []) ⟨hx, hb, hml, hown, hts⟩ (c_M_failAt (l := l) hc69) (cwV 2 hts (gdV k_14_132 k_14_134 ks_205 k_1_9 k_14_135) rfl rfl rfl (by decide +kernel) ⟨Nat.le_of_ble_eq_true rfl, Nat.le_of_ble_eq_true rfl⟩) (zPV X hZ65 hS65 (ci := 14) (by decide) (by decide) (r := (RX14, TX14, 107)) rfl [.int (iI 14), .int (iI (B65 14 0 28 (F65 14 0 35)))]) rfl rfl hl.1 rfl (lv_room (Nat.le_of_ble_eq_true rfl)) d_15_73_322 ⟨Nat.le_of_ble_eq_true rfl, Nat.le_of_ble_eq_true rfl⟩) hS65 (fun q _ h => zAin X hS65 q h) (zAin X hS65) (fun u69 t69 H69 locs69 ht69 hv69 hw69 hB69 hz69 hk69 hS69 => ?_)
      have hZ69 := zBack X ht69 hB69
      exact b_M_judge_325 X hf hZ69 hS69 (lv_sub hl [] rfl)

def f_M_judge_265 (K : Nat) (l2 : Int) (F : zF) (B : zB) : zO := if r32 l2 then (if l2 = 0 then f_M_judge_284 K F B else if 0 ≤ (F 14 0 35) ∧ (F 14 0 35) < 4 then zbind (f_M_failAt K 11 (B 14 0 28 (F 14 0 35)) F B) (fun r60 F60 B60 => f_M_judge_284 K F60 B60) else none) else none
set_option maxHeartbeats 4000000 in
set_option maxRecDepth 100000 in
theorem b_M_judge_265 {D : va_G} {ca : Nat → ClassId} {ad : Nat → Int → Nat → Nat} {L : List Nat} {aS vS : Nat → Nat} {A : Nat → Prop} {p : Program} {l : Launch} {e : Env} {s : State} {m : MethodId} {args : Array Value} {below : List Frame} {meth : Method} {c : Code} {K : Nat} {r : Int} {F9 : zF} {B9 : zB} (X : zX D ca L aS vS A p s m args meth c prog_15_method_73_code 6 (Option.none : Option Jvm.ClassFile.FieldType) "StaveHouseModel") {l2 : Int} {F : zF} {B : zB} {H : Heap} {locs : List Loc} {ls : Array Slot} (hf : f_M_judge_265 K l2 F B = some (r, F9, B9)) (hZ : zH D ca ad lnM nM L F B A H) (hS : va_S A s.heap H locs) (hl : lv_has ls 6 [(2, .int (iI l2)), (0, .ref (ad 14 0 0))]) : W p l e ({ frames := 9, cells := 0, slots := 0, locals := 305 } : Room) s m args below meth c H locs 0 0 (MQ below (Q_M_judge D ca ad L r F9 B9 A) args s 0 0 A) (F0 m 265 ls []) := by
  obtain ⟨hx, hb, hr, hml, hown, hts, hlk, hK, hA, hL, hX⟩ := id X
  replace hf : (if r32 l2 then (if l2 = 0 then f_M_judge_284 K F B else if 0 ≤ (F 14 0 35) ∧ (F 14 0 35) < 4 then zbind (f_M_failAt K 11 (B 14 0 28 (F 14 0 35)) F B) (fun r60 F60 B60 => f_M_judge_284 K F60 B60) else none) else none) = some (r, F9, B9) := hf
  refine lv_iload_n hx hb d_15_73_265 rfl (lv_at hl 0 rfl) ?_
  obtain ⟨g57, hf⟩ := gif hf
  refine z0eq (tgt := 284) hx hb g57 d_15_73_266 (by decide) (fun h58 => ?_) (fun h58 => ?_)
  · replace hf := gpos hf h58
    exact b_M_judge_284 X hf hZ hS (lv_sub hl [1] rfl)
  · replace hf := gneg hf h58
    refine lv_aload_n hx hb d_15_73_269 rfl (lv_at hl 1 rfl) ?_
    refine lv_bipush (v := iI 11) hx hb d_15_73_270 (by decide) ?_
    refine lv_aload_n hx hb d_15_73_272 rfl (lv_at hl 1 rfl) ?_
    refine zget (ci := 14) (C := RX14) (T := TX14) (v := .ref (ad 14 0 (28 + 1))) (k := 28) hx hb hts inW_14 hown hK hZ (by decide) (by decide) rfl (by decide) k_11_26 rfl d_15_73_273 ?_
    refine lv_aload_n hx hb d_15_73_276 rfl (lv_at hl 1 rfl) ?_
    refine zget (ci := 14) (C := RX14) (T := TX14) (v := .int (iI (F 14 0 35))) (k := 35) hx hb hts inW_14 hown hK hZ (by decide) (by decide) rfl (by decide) k_11_33 rfl d_15_73_277 ?_
    obtain ⟨g59, hf⟩ := gif hf
    refine zald (ci := 14) (k := 28) hx hb hK rfl hZ (by decide) (by decide) rfl (Nat.le_of_ble_eq_true rfl) g59.1 g59.2 d_15_73_280 ?_
    obtain ⟨r60, F60, B60, hc60, hf⟩ := gbind hf
    refine va_callv (va_runV (As := [.int (iI 11), .int (iI (B 14 0 28 (F 14 0 35)))]) (rest := []) ⟨hx, hb, hml, hown, hts⟩ (c_M_failAt (l := l) hc60) (cwV 2 hts (gdV k_14_132 k_14_134 ks_205 k_1_9 k_14_135) rfl rfl rfl (by decide +kernel) ⟨Nat.le_of_ble_eq_true rfl, Nat.le_of_ble_eq_true rfl⟩) (zPV X hZ hS (ci := 14) (by decide) (by decide) (r := (RX14, TX14, 107)) rfl [.int (iI 11), .int (iI (B 14 0 28 (F 14 0 35)))]) rfl rfl hl.1 rfl (lv_room (Nat.le_of_ble_eq_true rfl)) d_15_73_281 ⟨Nat.le_of_ble_eq_true rfl, Nat.le_of_ble_eq_true rfl⟩) hS (fun q _ h => zAin X hS q h) (zAin X hS) (fun u60 t60 H60 locs60 ht60 hv60 hw60 hB60 hz60 hk60 hS60 => ?_)
    have hZ60 := zBack X ht60 hB60
    exact b_M_judge_284 X hf hZ60 hS60 (lv_sub hl [1] rfl)

def f_M_judge_248 (rec48 : Int → Int → Int → zF → zB → zO) (K : Nat) (l4 : Int) (l3 : Int) (l2 : Int) (l1 : Int) (F : zF) (B : zB) : zO := if 0 ≤ (F 14 0 6) ∧ (F 14 0 6) < 3 then if 0 ≤ l4 ∧ l4 < 4000 then if (l2 = 0 ∨ l2 = 1) then rec48 (l3 + 1) l2 l1 F (zup4 B 13 (F 14 0 6) 27 l4 l2) else none else none else none
set_option maxHeartbeats 4000000 in
set_option maxRecDepth 100000 in
theorem b_M_judge_248 {D : va_G} {ca : Nat → ClassId} {ad : Nat → Int → Nat → Nat} {L : List Nat} {aS vS : Nat → Nat} {A : Nat → Prop} {p : Program} {l : Launch} {e : Env} {s : State} {m : MethodId} {args : Array Value} {below : List Frame} {meth : Method} {c : Code} {K : Nat} {r : Int} {F9 : zF} {B9 : zB} (X : zX D ca L aS vS A p s m args meth c prog_15_method_73_code 6 (Option.none : Option Jvm.ClassFile.FieldType) "StaveHouseModel") {rec48 : Int → Int → Int → zF → zB → zO} (hrec48 : ∀ {l3 : Int} {l2 : Int} {l1 : Int} {F : zF} {B : zB} {H : Heap} {locs : List Loc} {ls : Array Slot}, rec48 l3 l2 l1 F B = some (r, F9, B9) → zH D ca ad lnM nM L F B A H → va_S A s.heap H locs → lv_has ls 6 [(3, .int (iI l3)), (2, .int (iI l2)), (1, .int (iI l1)), (0, .ref (ad 14 0 0))] → W p l e ({ frames := 9, cells := 0, slots := 0, locals := 305 } : Room) s m args below meth c H locs 0 0 (MQ below (Q_M_judge D ca ad L r F9 B9 A) args s 0 0 A) (F0 m 48 ls [])) {l4 : Int} {l3 : Int} {l2 : Int} {l1 : Int} {F : zF} {B : zB} {H : Heap} {locs : List Loc} {ls : Array Slot} (hf : f_M_judge_248 rec48 K l4 l3 l2 l1 F B = some (r, F9, B9)) (hZ : zH D ca ad lnM nM L F B A H) (hS : va_S A s.heap H locs) (hl : lv_has ls 6 [(4, .int (iI l4)), (3, .int (iI l3)), (2, .int (iI l2)), (1, .int (iI l1)), (0, .ref (ad 14 0 0))]) : W p l e ({ frames := 9, cells := 0, slots := 0, locals := 305 } : Room) s m args below meth c H locs 0 0 (MQ below (Q_M_judge D ca ad L r F9 B9 A) args s 0 0 A) (F0 m 248 ls []) := by
  obtain ⟨hx, hb, hr, hml, hown, hts, hlk, hK, hA, hL, hX⟩ := id X
  replace hf : (if 0 ≤ (F 14 0 6) ∧ (F 14 0 6) < 3 then if 0 ≤ l4 ∧ l4 < 4000 then if (l2 = 0 ∨ l2 = 1) then rec48 (l3 + 1) l2 l1 F (zup4 B 13 (F 14 0 6) 27 l4 l2) else none else none else none) = some (r, F9, B9) := hf
  refine lv_aload_n hx hb d_15_73_248 rfl (lv_at hl 4 rfl) ?_
  refine zget (ci := 14) (C := RX14) (T := TX14) (v := va_rf (zrf ad 13 (F 14 0 6))) (k := 6) hx hb hts inW_14 hown hK hZ (by decide) (by decide) rfl (by decide) k_11_4 rfl d_15_73_249 ?_
  obtain ⟨g53, hf⟩ := gif hf
  refine zunrf g53.1 ?_
  refine zget (ci := 13) (C := RX13) (T := TX13) (v := .ref (ad 13 (F 14 0 6) (27 + 1))) (k := 27) hx hb hts inW_13 hown hK hZ g53.1 g53.2 rfl (by decide) k_9_172 rfl d_15_73_252 ?_
  refine lv_iload hx hb d_15_73_255 (lv_at hl 0 rfl) ?_
  refine lv_iload_n hx hb d_15_73_257 rfl (lv_at hl 2 rfl) ?_
  obtain ⟨g54, hf⟩ := gif hf
  obtain ⟨g56, hf⟩ := gif hf
  refine zzast (ci := 13) (k := 27) hx hb hK rfl hZ hS g53.1 g53.2 rfl (Nat.le_of_ble_eq_true rfl) g56 g54.1 g54.2 d_15_73_258 (fun H55 locs55 hZ55 hS55 => ?_)
  refine lv_iinc (v := iI (l3 + 1)) (lv' := [(3, .int (iI (l3 + 1))), (4, .int (iI l4)), (2, .int (iI l2)), (1, .int (iI l1)), (0, .ref (ad 14 0 0))]) hx hb d_15_73_259 hl (k := 1) rfl (iI_add _ 1) (by decide) rfl (fun ls hl => ?_)
  refine lv_goto (tgt := 48) hx hb d_15_73_262 (by decide) ?_
  exact hrec48 hf hZ55 hS55 (lv_sub hl [0, 2, 3, 4] rfl)

def f_M_judge_239 (rec48 : Int → Int → Int → zF → zB → zO) (K : Nat) (l5 : Int) (l4 : Int) (l3 : Int) (l2 : Int) (l1 : Int) (F : zF) (B : zB) : zO := if r32 (zand l5 2) then (if (zand l5 2) ≤ 0 then f_M_judge_248 rec48 K l4 l3 l2 l1 F B else f_M_judge_248 rec48 K l4 l3 1 l1 F B) else none
set_option maxHeartbeats 4000000 in
set_option maxRecDepth 100000 in
theorem b_M_judge_239 {D : va_G} {ca : Nat → ClassId} {ad : Nat → Int → Nat → Nat} {L : List Nat} {aS vS : Nat → Nat} {A : Nat → Prop} {p : Program} {l : Launch} {e : Env} {s : State} {m : MethodId} {args : Array Value} {below : List Frame} {meth : Method} {c : Code} {K : Nat} {r : Int} {F9 : zF} {B9 : zB} (X : zX D ca L aS vS A p s m args meth c prog_15_method_73_code 6 (Option.none : Option Jvm.ClassFile.FieldType) "StaveHouseModel") {rec48 : Int → Int → Int → zF → zB → zO} (hrec48 : ∀ {l3 : Int} {l2 : Int} {l1 : Int} {F : zF} {B : zB} {H : Heap} {locs : List Loc} {ls : Array Slot}, rec48 l3 l2 l1 F B = some (r, F9, B9) → zH D ca ad lnM nM L F B A H → va_S A s.heap H locs → lv_has ls 6 [(3, .int (iI l3)), (2, .int (iI l2)), (1, .int (iI l1)), (0, .ref (ad 14 0 0))] → W p l e ({ frames := 9, cells := 0, slots := 0, locals := 305 } : Room) s m args below meth c H locs 0 0 (MQ below (Q_M_judge D ca ad L r F9 B9 A) args s 0 0 A) (F0 m 48 ls [])) {l5 : Int} {l4 : Int} {l3 : Int} {l2 : Int} {l1 : Int} {F : zF} {B : zB} {H : Heap} {locs : List Loc} {ls : Array Slot} (hf : f_M_judge_239 rec48 K l5 l4 l3 l2 l1 F B = some (r, F9, B9)) (hZ : zH D ca ad lnM nM L F B A H) (hS : va_S A s.heap H locs) (hl : lv_has ls 6 [(5, .int (iI l5)), (4, .int (iI l4)), (3, .int (iI l3)), (2, .int (iI l2)), (1, .int (iI l1)), (0, .ref (ad 14 0 0))]) : W p l e ({ frames := 9, cells := 0, slots := 0, locals := 305 } : Room) s m args below meth c H locs 0 0 (MQ below (Q_M_judge D ca ad L r F9 B9 A) args s 0 0 A) (F0 m 239 ls []) := by
  obtain ⟨hx, hb, hr, hml, hown, hts, hlk, hK, hA, hL, hX⟩ := id X
  replace hf : (if r32 (zand l5 2) then (if (zand l5 2) ≤ 0 then f_M_judge_248 rec48 K l4 l3 l2 l1 F B else f_M_judge_248 rec48 K l4 l3 1 l1 F B) else none) = some (r, F9, B9) := hf
  refine lv_iload hx hb d_15_73_239 (lv_at hl 0 rfl) ?_
  refine lv_iconst (v := iI 2) hx hb d_15_73_241 rfl ?_
  refine zand_r hx hb d_15_73_242 ?_
  obtain ⟨g51, hf⟩ := gif hf
  refine z0le (tgt := 248) hx hb g51 d_15_73_243 (by decide) (fun h52 => ?_) (fun h52 => ?_)
  · replace hf := gpos hf h52
    exact b_M_judge_248 X hrec48 hf hZ hS (lv_sub hl [1, 2, 3, 4, 5] rfl)
  · replace hf := gneg hf h52
    refine lv_iconst (v := iI 1) hx hb d_15_73_246 rfl ?_
    refine lv_istore_n (lv' := [(2, .int (iI 1)), (5, .int (iI l5)), (4, .int (iI l4)), (3, .int (iI l3)), (1, .int (iI l1)), (0, .ref (ad 14 0 0))]) hx hb d_15_73_247 rfl hl (by decide) rfl (fun ls hl => ?_)
    exact b_M_judge_248 X hrec48 hf hZ hS (lv_sub hl [2, 3, 0, 4, 5] rfl)

def f_M_judge_212 (rec48 : Int → Int → Int → zF → zB → zO) (K : Nat) (l5 : Int) (l4 : Int) (l3 : Int) (l2 : Int) (l1 : Int) (F : zF) (B : zB) : zO := if r32 (zand l5 2) then (if (zand l5 2) ≤ 0 then f_M_judge_239 rec48 K l5 l4 l3 l2 l1 F B else if r32 l2 then (if l2 = 0 then f_M_judge_239 rec48 K l5 l4 l3 l2 l1 F B else if 0 ≤ (F 14 0 6) ∧ (F 14 0 6) < 3 then if 0 ≤ l4 ∧ l4 < 4000 then zbind (f_M_failAt K 11 (B 13 (F 14 0 6) 20 l4) F B) (fun r50 F50 B50 => f_M_judge_239 rec48 K l5 l4 l3 l2 l1 F50 B50) else none else none) else none) else none
set_option maxHeartbeats 4000000 in
set_option maxRecDepth 100000 in
theorem b_M_judge_212 {D : va_G} {ca : Nat → ClassId} {ad : Nat → Int → Nat → Nat} {L : List Nat} {aS vS : Nat → Nat} {A : Nat → Prop} {p : Program} {l : Launch} {e : Env} {s : State} {m : MethodId} {args : Array Value} {below : List Frame} {meth : Method} {c : Code} {K : Nat} {r : Int} {F9 : zF} {B9 : zB} (X : zX D ca L aS vS A p s m args meth c prog_15_method_73_code 6 (Option.none : Option Jvm.ClassFile.FieldType) "StaveHouseModel") {rec48 : Int → Int → Int → zF → zB → zO} (hrec48 : ∀ {l3 : Int} {l2 : Int} {l1 : Int} {F : zF} {B : zB} {H : Heap} {locs : List Loc} {ls : Array Slot}, rec48 l3 l2 l1 F B = some (r, F9, B9) → zH D ca ad lnM nM L F B A H → va_S A s.heap H locs → lv_has ls 6 [(3, .int (iI l3)), (2, .int (iI l2)), (1, .int (iI l1)), (0, .ref (ad 14 0 0))] → W p l e ({ frames := 9, cells := 0, slots := 0, locals := 305 } : Room) s m args below meth c H locs 0 0 (MQ below (Q_M_judge D ca ad L r F9 B9 A) args s 0 0 A) (F0 m 48 ls [])) {l5 : Int} {l4 : Int} {l3 : Int} {l2 : Int} {l1 : Int} {F : zF} {B : zB} {H : Heap} {locs : List Loc} {ls : Array Slot} (hf : f_M_judge_212 rec48 K l5 l4 l3 l2 l1 F B = some (r, F9, B9)) (hZ : zH D ca ad lnM nM L F B A H) (hS : va_S A s.heap H locs) (hl : lv_has ls 6 [(5, .int (iI l5)), (4, .int (iI l4)), (3, .int (iI l3)), (2, .int (iI l2)), (1, .int (iI l1)), (0, .ref (ad 14 0 0))]) : W p l e ({ frames := 9, cells := 0, slots := 0, locals := 305 } : Room) s m args below meth c H locs 0 0 (MQ below (Q_M_judge D ca ad L r F9 B9 A) args s 0 0 A) (F0 m 212 ls []) := by
  obtain ⟨hx, hb, hr, hml, hown, hts, hlk, hK, hA, hL, hX⟩ := id X
  replace hf : (if r32 (zand l5 2) then (if (zand l5 2) ≤ 0 then f_M_judge_239 rec48 K l5 l4 l3 l2 l1 F B else if r32 l2 then (if l2 = 0 then f_M_judge_239 rec48 K l5 l4 l3 l2 l1 F B else if 0 ≤ (F 14 0 6) ∧ (F 14 0 6) < 3 then if 0 ≤ l4 ∧ l4 < 4000 then zbind (f_M_failAt K 11 (B 13 (F 14 0 6) 20 l4) F B) (fun r50 F50 B50 => f_M_judge_239 rec48 K l5 l4 l3 l2 l1 F50 B50) else none else none) else none) else none) = some (r, F9, B9) := hf
  refine lv_iload hx hb d_15_73_212 (lv_at hl 0 rfl) ?_
  refine lv_iconst (v := iI 2) hx hb d_15_73_214 rfl ?_
  refine zand_r hx hb d_15_73_215 ?_
  obtain ⟨g44, hf⟩ := gif hf
  refine z0le (tgt := 239) hx hb g44 d_15_73_216 (by decide) (fun h45 => ?_) (fun h45 => ?_)
  · replace hf := gpos hf h45
    exact b_M_judge_239 X hrec48 hf hZ hS (lv_sub hl [0, 1, 2, 3, 4, 5] rfl)
  · replace hf := gneg hf h45
    refine lv_iload_n hx hb d_15_73_219 rfl (lv_at hl 3 rfl) ?_
    obtain ⟨g46, hf⟩ := gif hf
    refine z0eq (tgt := 239) hx hb g46 d_15_73_220 (by decide) (fun h47 => ?_) (fun h47 => ?_)
    · replace hf := gpos hf h47
      exact b_M_judge_239 X hrec48 hf hZ hS (lv_sub hl [0, 1, 2, 3, 4, 5] rfl)
    · replace hf := gneg hf h47
      refine lv_aload_n hx hb d_15_73_223 rfl (lv_at hl 5 rfl) ?_
      refine lv_bipush (v := iI 11) hx hb d_15_73_224 (by decide) ?_
      refine lv_aload_n hx hb d_15_73_226 rfl (lv_at hl 5 rfl) ?_
      refine zget (ci := 14) (C := RX14) (T := TX14) (v := va_rf (zrf ad 13 (F 14 0 6))) (k := 6) hx hb hts inW_14 hown hK hZ (by decide) (by decide) rfl (by decide) k_11_4 rfl d_15_73_227 ?_
      obtain ⟨g48, hf⟩ := gif hf
      refine zunrf g48.1 ?_
      refine zget (ci := 13) (C := RX13) (T := TX13) (v := .ref (ad 13 (F 14 0 6) (20 + 1))) (k := 20) hx hb hts inW_13 hown hK hZ g48.1 g48.2 rfl (by decide) k_9_158 rfl d_15_73_230 ?_
      refine lv_iload hx hb d_15_73_233 (lv_at hl 1 rfl) ?_
      obtain ⟨g49, hf⟩ := gif hf
      refine zald (ci := 13) (k := 20) hx hb hK rfl hZ g48.1 g48.2 rfl (Nat.le_of_ble_eq_true rfl) g49.1 g49.2 d_15_73_235 ?_
      obtain ⟨r50, F50, B50, hc50, hf⟩ := gbind hf
      refine va_callv (va_runV (As := [.int (iI 11), .int (iI (B 13 (F 14 0 6) 20 l4))]) (rest := []) ⟨hx, hb, hml, hown, hts⟩ (c_M_failAt (l := l) hc50) (cwV 2 hts (gdV k_14_132 k_14_134 ks_205 k_1_9 k_14_135) rfl rfl rfl (by decide +kernel) ⟨Nat.le_of_ble_eq_true rfl, Nat.le_of_ble_eq_true rfl⟩) (zPV X hZ hS (ci := 14) (by decide) (by decide) (r := (RX14, TX14, 107)) rfl [.int (iI 11), .int (iI (B 13 (F 14 0 6) 20 l4))]) rfl rfl hl.1 rfl (lv_room (Nat.le_of_ble_eq_true rfl)) d_15_73_236 ⟨Nat.le_of_ble_eq_true rfl, Nat.le_of_ble_eq_true rfl⟩) hS (fun q _ h => zAin X hS q h) (zAin X hS) (fun u50 t50 H50 locs50 ht50 hv50 hw50 hB50 hz50 hk50 hS50 => ?_)
      have hZ50 := zBack X ht50 hB50
      exact b_M_judge_239 X hrec48 hf hZ50 hS50 (lv_sub hl [0, 1, 2, 3, 4, 5] rfl)

def f_M_judge_203 (rec48 : Int → Int → Int → zF → zB → zO) (K : Nat) (l5 : Int) (l4 : Int) (l3 : Int) (l2 : Int) (l1 : Int) (F : zF) (B : zB) : zO := if r32 (zand l5 4) then (if (zand l5 4) ≤ 0 then f_M_judge_212 rec48 K l5 l4 l3 l2 l1 F B else f_M_judge_212 rec48 K l5 l4 l3 0 l1 F B) else none
set_option maxHeartbeats 4000000 in
set_option maxRecDepth 100000 in
theorem b_M_judge_203 {D : va_G} {ca : Nat → ClassId} {ad : Nat → Int → Nat → Nat} {L : List Nat} {aS vS : Nat → Nat} {A : Nat → Prop} {p : Program} {l : Launch} {e : Env} {s : State} {m : MethodId} {args : Array Value} {below : List Frame} {meth : Method} {c : Code} {K : Nat} {r : Int} {F9 : zF} {B9 : zB} (X : zX D ca L aS vS A p s m args meth c prog_15_method_73_code 6 (Option.none : Option Jvm.ClassFile.FieldType) "StaveHouseModel") {rec48 : Int → Int → Int → zF → zB → zO} (hrec48 : ∀ {l3 : Int} {l2 : Int} {l1 : Int} {F : zF} {B : zB} {H : Heap} {locs : List Loc} {ls : Array Slot}, rec48 l3 l2 l1 F B = some (r, F9, B9) → zH D ca ad lnM nM L F B A H → va_S A s.heap H locs → lv_has ls 6 [(3, .int (iI l3)), (2, .int (iI l2)), (1, .int (iI l1)), (0, .ref (ad 14 0 0))] → W p l e ({ frames := 9, cells := 0, slots := 0, locals := 305 } : Room) s m args below meth c H locs 0 0 (MQ below (Q_M_judge D ca ad L r F9 B9 A) args s 0 0 A) (F0 m 48 ls [])) {l5 : Int} {l4 : Int} {l3 : Int} {l2 : Int} {l1 : Int} {F : zF} {B : zB} {H : Heap} {locs : List Loc} {ls : Array Slot} (hf : f_M_judge_203 rec48 K l5 l4 l3 l2 l1 F B = some (r, F9, B9)) (hZ : zH D ca ad lnM nM L F B A H) (hS : va_S A s.heap H locs) (hl : lv_has ls 6 [(5, .int (iI l5)), (4, .int (iI l4)), (3, .int (iI l3)), (2, .int (iI l2)), (1, .int (iI l1)), (0, .ref (ad 14 0 0))]) : W p l e ({ frames := 9, cells := 0, slots := 0, locals := 305 } : Room) s m args below meth c H locs 0 0 (MQ below (Q_M_judge D ca ad L r F9 B9 A) args s 0 0 A) (F0 m 203 ls []) := by
  obtain ⟨hx, hb, hr, hml, hown, hts, hlk, hK, hA, hL, hX⟩ := id X
  replace hf : (if r32 (zand l5 4) then (if (zand l5 4) ≤ 0 then f_M_judge_212 rec48 K l5 l4 l3 l2 l1 F B else f_M_judge_212 rec48 K l5 l4 l3 0 l1 F B) else none) = some (r, F9, B9) := hf
  refine lv_iload hx hb d_15_73_203 (lv_at hl 0 rfl) ?_
  refine lv_iconst (v := iI 4) hx hb d_15_73_205 rfl ?_
  refine zand_r hx hb d_15_73_206 ?_
  obtain ⟨g42, hf⟩ := gif hf
  refine z0le (tgt := 212) hx hb g42 d_15_73_207 (by decide) (fun h43 => ?_) (fun h43 => ?_)
  · replace hf := gpos hf h43
    exact b_M_judge_212 X hrec48 hf hZ hS (lv_sub hl [0, 1, 2, 3, 4, 5] rfl)
  · replace hf := gneg hf h43
    refine lv_iconst (v := iI 0) hx hb d_15_73_210 rfl ?_
    refine lv_istore_n (lv' := [(2, .int (iI 0)), (5, .int (iI l5)), (4, .int (iI l4)), (3, .int (iI l3)), (1, .int (iI l1)), (0, .ref (ad 14 0 0))]) hx hb d_15_73_211 rfl hl (by decide) rfl (fun ls hl => ?_)
    exact b_M_judge_212 X hrec48 hf hZ hS (lv_sub hl [1, 2, 3, 0, 4, 5] rfl)

def f_M_judge_176 (rec48 : Int → Int → Int → zF → zB → zO) (K : Nat) (l5 : Int) (l4 : Int) (l3 : Int) (l2 : Int) (l1 : Int) (F : zF) (B : zB) : zO := if r32 (zand l5 4) then (if (zand l5 4) ≤ 0 then f_M_judge_203 rec48 K l5 l4 l3 l2 l1 F B else if r32 l2 then (if l2 = 0 then if 0 ≤ (F 14 0 6) ∧ (F 14 0 6) < 3 then if 0 ≤ l4 ∧ l4 < 4000 then zbind (f_M_failAt K 11 (B 13 (F 14 0 6) 20 l4) F B) (fun r41 F41 B41 => f_M_judge_203 rec48 K l5 l4 l3 l2 l1 F41 B41) else none else none else f_M_judge_203 rec48 K l5 l4 l3 l2 l1 F B) else none) else none
set_option maxHeartbeats 4000000 in
set_option maxRecDepth 100000 in
theorem b_M_judge_176 {D : va_G} {ca : Nat → ClassId} {ad : Nat → Int → Nat → Nat} {L : List Nat} {aS vS : Nat → Nat} {A : Nat → Prop} {p : Program} {l : Launch} {e : Env} {s : State} {m : MethodId} {args : Array Value} {below : List Frame} {meth : Method} {c : Code} {K : Nat} {r : Int} {F9 : zF} {B9 : zB} (X : zX D ca L aS vS A p s m args meth c prog_15_method_73_code 6 (Option.none : Option Jvm.ClassFile.FieldType) "StaveHouseModel") {rec48 : Int → Int → Int → zF → zB → zO} (hrec48 : ∀ {l3 : Int} {l2 : Int} {l1 : Int} {F : zF} {B : zB} {H : Heap} {locs : List Loc} {ls : Array Slot}, rec48 l3 l2 l1 F B = some (r, F9, B9) → zH D ca ad lnM nM L F B A H → va_S A s.heap H locs → lv_has ls 6 [(3, .int (iI l3)), (2, .int (iI l2)), (1, .int (iI l1)), (0, .ref (ad 14 0 0))] → W p l e ({ frames := 9, cells := 0, slots := 0, locals := 305 } : Room) s m args below meth c H locs 0 0 (MQ below (Q_M_judge D ca ad L r F9 B9 A) args s 0 0 A) (F0 m 48 ls [])) {l5 : Int} {l4 : Int} {l3 : Int} {l2 : Int} {l1 : Int} {F : zF} {B : zB} {H : Heap} {locs : List Loc} {ls : Array Slot} (hf : f_M_judge_176 rec48 K l5 l4 l3 l2 l1 F B = some (r, F9, B9)) (hZ : zH D ca ad lnM nM L F B A H) (hS : va_S A s.heap H locs) (hl : lv_has ls 6 [(5, .int (iI l5)), (4, .int (iI l4)), (3, .int (iI l3)), (2, .int (iI l2)), (1, .int (iI l1)), (0, .ref (ad 14 0 0))]) : W p l e ({ frames := 9, cells := 0, slots := 0, locals := 305 } : Room) s m args below meth c H locs 0 0 (MQ below (Q_M_judge D ca ad L r F9 B9 A) args s 0 0 A) (F0 m 176 ls []) := by
  obtain ⟨hx, hb, hr, hml, hown, hts, hlk, hK, hA, hL, hX⟩ := id X
  replace hf : (if r32 (zand l5 4) then (if (zand l5 4) ≤ 0 then f_M_judge_203 rec48 K l5 l4 l3 l2 l1 F B else if r32 l2 then (if l2 = 0 then if 0 ≤ (F 14 0 6) ∧ (F 14 0 6) < 3 then if 0 ≤ l4 ∧ l4 < 4000 then zbind (f_M_failAt K 11 (B 13 (F 14 0 6) 20 l4) F B) (fun r41 F41 B41 => f_M_judge_203 rec48 K l5 l4 l3 l2 l1 F41 B41) else none else none else f_M_judge_203 rec48 K l5 l4 l3 l2 l1 F B) else none) else none) = some (r, F9, B9) := hf
  refine lv_iload hx hb d_15_73_176 (lv_at hl 0 rfl) ?_
  refine lv_iconst (v := iI 4) hx hb d_15_73_178 rfl ?_
  refine zand_r hx hb d_15_73_179 ?_
  obtain ⟨g35, hf⟩ := gif hf
  refine z0le (tgt := 203) hx hb g35 d_15_73_180 (by decide) (fun h36 => ?_) (fun h36 => ?_)
  · replace hf := gpos hf h36
    exact b_M_judge_203 X hrec48 hf hZ hS (lv_sub hl [0, 1, 2, 3, 4, 5] rfl)
  · replace hf := gneg hf h36
    refine lv_iload_n hx hb d_15_73_183 rfl (lv_at hl 3 rfl) ?_
    obtain ⟨g37, hf⟩ := gif hf
    refine z0ne (tgt := 203) hx hb g37 d_15_73_184 (by decide) (fun h38 => ?_) (fun h38 => ?_)
    · replace hf := gneg hf h38
      exact b_M_judge_203 X hrec48 hf hZ hS (lv_sub hl [0, 1, 2, 3, 4, 5] rfl)
    · replace hf := gpos hf h38
      refine lv_aload_n hx hb d_15_73_187 rfl (lv_at hl 5 rfl) ?_
      refine lv_bipush (v := iI 11) hx hb d_15_73_188 (by decide) ?_
      refine lv_aload_n hx hb d_15_73_190 rfl (lv_at hl 5 rfl) ?_
      refine zget (ci := 14) (C := RX14) (T := TX14) (v := va_rf (zrf ad 13 (F 14 0 6))) (k := 6) hx hb hts inW_14 hown hK hZ (by decide) (by decide) rfl (by decide) k_11_4 rfl d_15_73_191 ?_
      obtain ⟨g39, hf⟩ := gif hf
      refine zunrf g39.1 ?_
      refine zget (ci := 13) (C := RX13) (T := TX13) (v := .ref (ad 13 (F 14 0 6) (20 + 1))) (k := 20) hx hb hts inW_13 hown hK hZ g39.1 g39.2 rfl (by decide) k_9_158 rfl d_15_73_194 ?_
      refine lv_iload hx hb d_15_73_197 (lv_at hl 1 rfl) ?_
      obtain ⟨g40, hf⟩ := gif hf
      refine zald (ci := 13) (k := 20) hx hb hK rfl hZ g39.1 g39.2 rfl (Nat.le_of_ble_eq_true rfl) g40.1 g40.2 d_15_73_199 ?_
      obtain ⟨r41, F41, B41, hc41, hf⟩ := gbind hf
      refine va_callv (va_runV (As := [.int (iI 11), .int (iI (B 13 (F 14 0 6) 20 l4))]) (rest := []) ⟨hx, hb, hml, hown, hts⟩ (c_M_failAt (l := l) hc41) (cwV 2 hts (gdV k_14_132 k_14_134 ks_205 k_1_9 k_14_135) rfl rfl rfl (by decide +kernel) ⟨Nat.le_of_ble_eq_true rfl, Nat.le_of_ble_eq_true rfl⟩) (zPV X hZ hS (ci := 14) (by decide) (by decide) (r := (RX14, TX14, 107)) rfl [.int (iI 11), .int (iI (B 13 (F 14 0 6) 20 l4))]) rfl rfl hl.1 rfl (lv_room (Nat.le_of_ble_eq_true rfl)) d_15_73_200 ⟨Nat.le_of_ble_eq_true rfl, Nat.le_of_ble_eq_true rfl⟩) hS (fun q _ h => zAin X hS q h) (zAin X hS) (fun u41 t41 H41 locs41 ht41 hv41 hw41 hB41 hz41 hk41 hS41 => ?_)
      have hZ41 := zBack X ht41 hB41
      exact b_M_judge_203 X hrec48 hf hZ41 hS41 (lv_sub hl [0, 1, 2, 3, 4, 5] rfl)

def f_M_judge_160 (rec48 : Int → Int → Int → zF → zB → zO) (K : Nat) (l5 : Int) (l4 : Int) (l3 : Int) (l2 : Int) (l1 : Int) (F : zF) (B : zB) : zO := if 0 ≤ (F 14 0 6) ∧ (F 14 0 6) < 3 then if 0 ≤ l4 ∧ l4 < 4000 then zbind (f_M_failAt K 10 (B 13 (F 14 0 6) 20 l4) F B) (fun r34 F34 B34 => f_M_judge_176 rec48 K l5 l4 l3 l2 l1 F34 B34) else none else none
set_option maxHeartbeats 4000000 in
set_option maxRecDepth 100000 in
theorem b_M_judge_160 {D : va_G} {ca : Nat → ClassId} {ad : Nat → Int → Nat → Nat} {L : List Nat} {aS vS : Nat → Nat} {A : Nat → Prop} {p : Program} {l : Launch} {e : Env} {s : State} {m : MethodId} {args : Array Value} {below : List Frame} {meth : Method} {c : Code} {K : Nat} {r : Int} {F9 : zF} {B9 : zB} (X : zX D ca L aS vS A p s m args meth c prog_15_method_73_code 6 (Option.none : Option Jvm.ClassFile.FieldType) "StaveHouseModel") {rec48 : Int → Int → Int → zF → zB → zO} (hrec48 : ∀ {l3 : Int} {l2 : Int} {l1 : Int} {F : zF} {B : zB} {H : Heap} {locs : List Loc} {ls : Array Slot}, rec48 l3 l2 l1 F B = some (r, F9, B9) → zH D ca ad lnM nM L F B A H → va_S A s.heap H locs → lv_has ls 6 [(3, .int (iI l3)), (2, .int (iI l2)), (1, .int (iI l1)), (0, .ref (ad 14 0 0))] → W p l e ({ frames := 9, cells := 0, slots := 0, locals := 305 } : Room) s m args below meth c H locs 0 0 (MQ below (Q_M_judge D ca ad L r F9 B9 A) args s 0 0 A) (F0 m 48 ls [])) {l5 : Int} {l4 : Int} {l3 : Int} {l2 : Int} {l1 : Int} {F : zF} {B : zB} {H : Heap} {locs : List Loc} {ls : Array Slot} (hf : f_M_judge_160 rec48 K l5 l4 l3 l2 l1 F B = some (r, F9, B9)) (hZ : zH D ca ad lnM nM L F B A H) (hS : va_S A s.heap H locs) (hl : lv_has ls 6 [(5, .int (iI l5)), (4, .int (iI l4)), (3, .int (iI l3)), (2, .int (iI l2)), (1, .int (iI l1)), (0, .ref (ad 14 0 0))]) : W p l e ({ frames := 9, cells := 0, slots := 0, locals := 305 } : Room) s m args below meth c H locs 0 0 (MQ below (Q_M_judge D ca ad L r F9 B9 A) args s 0 0 A) (F0 m 160 ls []) := by
  obtain ⟨hx, hb, hr, hml, hown, hts, hlk, hK, hA, hL, hX⟩ := id X
  replace hf : (if 0 ≤ (F 14 0 6) ∧ (F 14 0 6) < 3 then if 0 ≤ l4 ∧ l4 < 4000 then zbind (f_M_failAt K 10 (B 13 (F 14 0 6) 20 l4) F B) (fun r34 F34 B34 => f_M_judge_176 rec48 K l5 l4 l3 l2 l1 F34 B34) else none else none) = some (r, F9, B9) := hf
  refine lv_aload_n hx hb d_15_73_160 rfl (lv_at hl 5 rfl) ?_
  refine lv_bipush (v := iI 10) hx hb d_15_73_161 (by decide) ?_
  refine lv_aload_n hx hb d_15_73_163 rfl (lv_at hl 5 rfl) ?_
  refine zget (ci := 14) (C := RX14) (T := TX14) (v := va_rf (zrf ad 13 (F 14 0 6))) (k := 6) hx hb hts inW_14 hown hK hZ (by decide) (by decide) rfl (by decide) k_11_4 rfl d_15_73_164 ?_
  obtain ⟨g32, hf⟩ := gif hf
  refine zunrf g32.1 ?_
  refine zget (ci := 13) (C := RX13) (T := TX13) (v := .ref (ad 13 (F 14 0 6) (20 + 1))) (k := 20) hx hb hts inW_13 hown hK hZ g32.1 g32.2 rfl (by decide) k_9_158 rfl d_15_73_167 ?_
  refine lv_iload hx hb d_15_73_170 (lv_at hl 1 rfl) ?_
  obtain ⟨g33, hf⟩ := gif hf
  refine zald (ci := 13) (k := 20) hx hb hK rfl hZ g32.1 g32.2 rfl (Nat.le_of_ble_eq_true rfl) g33.1 g33.2 d_15_73_172 ?_
  obtain ⟨r34, F34, B34, hc34, hf⟩ := gbind hf
  refine va_callv (va_runV (As := [.int (iI 10), .int (iI (B 13 (F 14 0 6) 20 l4))]) (rest := []) ⟨hx, hb, hml, hown, hts⟩ (c_M_failAt (l := l) hc34) (cwV 2 hts (gdV k_14_132 k_14_134 ks_205 k_1_9 k_14_135) rfl rfl rfl (by decide +kernel) ⟨Nat.le_of_ble_eq_true rfl, Nat.le_of_ble_eq_true rfl⟩) (zPV X hZ hS (ci := 14) (by decide) (by decide) (r := (RX14, TX14, 107)) rfl [.int (iI 10), .int (iI (B 13 (F 14 0 6) 20 l4))]) rfl rfl hl.1 rfl (lv_room (Nat.le_of_ble_eq_true rfl)) d_15_73_173 ⟨Nat.le_of_ble_eq_true rfl, Nat.le_of_ble_eq_true rfl⟩) hS (fun q _ h => zAin X hS q h) (zAin X hS) (fun u34 t34 H34 locs34 ht34 hv34 hw34 hB34 hz34 hk34 hS34 => ?_)
  have hZ34 := zBack X ht34 hB34
  exact b_M_judge_176 X hrec48 hf hZ34 hS34 (lv_sub hl [0, 1, 2, 3, 4, 5] rfl)

def f_M_judge_115 (rec48 : Int → Int → Int → zF → zB → zO) (K : Nat) (l4 : Int) (l3 : Int) (l2 : Int) (l1 : Int) (F : zF) (B : zB) : zO := if 0 ≤ (F 14 0 6) ∧ (F 14 0 6) < 3 then if 0 ≤ l4 ∧ l4 < 4000 then if r32 (zand (B 13 (F 14 0 6) 18 l4) 1) then (if (zand (B 13 (F 14 0 6) 18 l4) 1) ≤ 0 then f_M_judge_176 rec48 K (B 13 (F 14 0 6) 18 l4) l4 l3 l2 l1 F B else if r32 (l3 + 1) then if r32 (F 14 0 36) then (if (l3 + 1) = (F 14 0 36) then f_M_judge_160 rec48 K (B 13 (F 14 0 6) 18 l4) l4 l3 l2 l1 F B else zbind (f_M_share K (F 14 0 6) l4 (l4 + 1) F B) (fun r29 F29 B29 => if r32 r29 then (if r29 = 0 then f_M_judge_160 rec48 K (B 13 (F 14 0 6) 18 l4) l4 l3 l2 l1 F29 B29 else f_M_judge_176 rec48 K (B 13 (F 14 0 6) 18 l4) l4 l3 l2 l1 F29 B29) else none)) else none else none) else none else none else none
set_option maxHeartbeats 4000000 in
set_option maxRecDepth 100000 in
theorem b_M_judge_115 {D : va_G} {ca : Nat → ClassId} {ad : Nat → Int → Nat → Nat} {L : List Nat} {aS vS : Nat → Nat} {A : Nat → Prop} {p : Program} {l : Launch} {e : Env} {s : State} {m : MethodId} {args : Array Value} {below : List Frame} {meth : Method} {c : Code} {K : Nat} {r : Int} {F9 : zF} {B9 : zB} (X : zX D ca L aS vS A p s m args meth c prog_15_method_73_code 6 (Option.none : Option Jvm.ClassFile.FieldType) "StaveHouseModel") {rec48 : Int → Int → Int → zF → zB → zO} (hrec48 : ∀ {l3 : Int} {l2 : Int} {l1 : Int} {F : zF} {B : zB} {H : Heap} {locs : List Loc} {ls : Array Slot}, rec48 l3 l2 l1 F B = some (r, F9, B9) → zH D ca ad lnM nM L F B A H → va_S A s.heap H locs → lv_has ls 6 [(3, .int (iI l3)), (2, .int (iI l2)), (1, .int (iI l1)), (0, .ref (ad 14 0 0))] → W p l e ({ frames := 9, cells := 0, slots := 0, locals := 305 } : Room) s m args below meth c H locs 0 0 (MQ below (Q_M_judge D ca ad L r F9 B9 A) args s 0 0 A) (F0 m 48 ls [])) {l4 : Int} {l3 : Int} {l2 : Int} {l1 : Int} {F : zF} {B : zB} {H : Heap} {locs : List Loc} {ls : Array Slot} (hf : f_M_judge_115 rec48 K l4 l3 l2 l1 F B = some (r, F9, B9)) (hZ : zH D ca ad lnM nM L F B A H) (hS : va_S A s.heap H locs) (hl : lv_has ls 6 [(4, .int (iI l4)), (3, .int (iI l3)), (2, .int (iI l2)), (1, .int (iI l1)), (0, .ref (ad 14 0 0))]) : W p l e ({ frames := 9, cells := 0, slots := 0, locals := 305 } : Room) s m args below meth c H locs 0 0 (MQ below (Q_M_judge D ca ad L r F9 B9 A) args s 0 0 A) (F0 m 115 ls []) := by
  obtain ⟨hx, hb, hr, hml, hown, hts, hlk, hK, hA, hL, hX⟩ := id X
  replace hf : (if 0 ≤ (F 14 0 6) ∧ (F 14 0 6) < 3 then if 0 ≤ l4 ∧ l4 < 4000 then if r32 (zand (B 13 (F 14 0 6) 18 l4) 1) then (if (zand (B 13 (F 14 0 6) 18 l4) 1) ≤ 0 then f_M_judge_176 rec48 K (B 13 (F 14 0 6) 18 l4) l4 l3 l2 l1 F B else if r32 (l3 + 1) then if r32 (F 14 0 36) then (if (l3 + 1) = (F 14 0 36) then f_M_judge_160 rec48 K (B 13 (F 14 0 6) 18 l4) l4 l3 l2 l1 F B else zbind (f_M_share K (F 14 0 6) l4 (l4 + 1) F B) (fun r29 F29 B29 => if r32 r29 then (if r29 = 0 then f_M_judge_160 rec48 K (B 13 (F 14 0 6) 18 l4) l4 l3 l2 l1 F29 B29 else f_M_judge_176 rec48 K (B 13 (F 14 0 6) 18 l4) l4 l3 l2 l1 F29 B29) else none)) else none else none) else none else none else none) = some (r, F9, B9) := hf
  refine lv_aload_n hx hb d_15_73_115 rfl (lv_at hl 4 rfl) ?_
  refine zget (ci := 14) (C := RX14) (T := TX14) (v := va_rf (zrf ad 13 (F 14 0 6))) (k := 6) hx hb hts inW_14 hown hK hZ (by decide) (by decide) rfl (by decide) k_11_4 rfl d_15_73_116 ?_
  obtain ⟨g22, hf⟩ := gif hf
  refine zunrf g22.1 ?_
  refine zget (ci := 13) (C := RX13) (T := TX13) (v := .ref (ad 13 (F 14 0 6) (18 + 1))) (k := 18) hx hb hts inW_13 hown hK hZ g22.1 g22.2 rfl (by decide) k_9_154 rfl d_15_73_119 ?_
  refine lv_iload hx hb d_15_73_122 (lv_at hl 0 rfl) ?_
  obtain ⟨g23, hf⟩ := gif hf
  refine zald (ci := 13) (k := 18) hx hb hK rfl hZ g22.1 g22.2 rfl (Nat.le_of_ble_eq_true rfl) g23.1 g23.2 d_15_73_124 ?_
  refine lv_istore (lv' := [(5, .int (iI (B 13 (F 14 0 6) 18 l4))), (4, .int (iI l4)), (3, .int (iI l3)), (2, .int (iI l2)), (1, .int (iI l1)), (0, .ref (ad 14 0 0))]) hx hb d_15_73_125 hl (by decide) rfl (fun ls hl => ?_)
  refine lv_iload hx hb d_15_73_127 (lv_at hl 0 rfl) ?_
  refine lv_iconst (v := iI 1) hx hb d_15_73_129 rfl ?_
  refine zand_r hx hb d_15_73_130 ?_
  obtain ⟨g24, hf⟩ := gif hf
  refine z0le (tgt := 176) hx hb g24 d_15_73_131 (by decide) (fun h25 => ?_) (fun h25 => ?_)
  · replace hf := gpos hf h25
    exact b_M_judge_176 X hrec48 hf hZ hS (lv_sub hl [0, 1, 2, 3, 4, 5] rfl)
  · replace hf := gneg hf h25
    refine lv_iload_n hx hb d_15_73_134 rfl (lv_at hl 2 rfl) ?_
    refine lv_iconst (v := iI 1) hx hb d_15_73_135 rfl ?_
    refine zadd hx hb d_15_73_136 ?_
    refine lv_aload_n hx hb d_15_73_137 rfl (lv_at hl 5 rfl) ?_
    refine zget (ci := 14) (C := RX14) (T := TX14) (v := .int (iI (F 14 0 36))) (k := 36) hx hb hts inW_14 hown hK hZ (by decide) (by decide) rfl (by decide) k_11_34 rfl d_15_73_138 ?_
    obtain ⟨g26, hf⟩ := gif hf
    obtain ⟨g27, hf⟩ := gif hf
    refine zeq (tgt := 160) hx hb g26 g27 d_15_73_141 (by decide) (fun h28 => ?_) (fun h28 => ?_)
    · replace hf := gpos hf h28
      exact b_M_judge_160 X hrec48 hf hZ hS (lv_sub hl [0, 1, 2, 3, 4, 5] rfl)
    · replace hf := gneg hf h28
      refine lv_aload_n hx hb d_15_73_144 rfl (lv_at hl 5 rfl) ?_
      refine zget (ci := 14) (C := RX14) (T := TX14) (v := va_rf (zrf ad 13 (F 14 0 6))) (k := 6) hx hb hts inW_14 hown hK hZ (by decide) (by decide) rfl (by decide) k_11_4 rfl d_15_73_145 ?_
      refine lv_iload hx hb d_15_73_148 (lv_at hl 1 rfl) ?_
      refine lv_iload hx hb d_15_73_150 (lv_at hl 1 rfl) ?_
      refine lv_iconst (v := iI 1) hx hb d_15_73_152 rfl ?_
      refine zadd hx hb d_15_73_153 ?_
      refine W.eq (g2 := F0 m 154 ls [.int (iI (l4 + 1)), .int (iI l4), .ref (ad 13 (F 14 0 6) 0)]) (by rw [zrf_pos (ad := ad) (t := 13) g22.1]; try rfl) ?_
      obtain ⟨r29, F29, B29, hc29, hf⟩ := gbind hf
      refine va_calli (va_runS (As := [.ref (ad 13 (F 14 0 6) 0), .int (iI l4), .int (iI (l4 + 1))]) (rest := []) ⟨hx, hb, hml, hown, hts⟩ (c_M_share (l := l) hc29) (va_cwS 3 hts (gdS k_15_45 k_15_46 k_1_9 k_15_47) rfl rfl rfl (by decide +kernel) ⟨Nat.le_of_ble_eq_true rfl, Nat.le_of_ble_eq_true rfl⟩) (zPS X hZ hS [.ref (ad 13 (F 14 0 6) 0), .int (iI l4), .int (iI (l4 + 1))]) rfl rfl hl.1 rfl (lv_room (Nat.le_of_ble_eq_true rfl)) d_15_73_154 ⟨Nat.le_of_ble_eq_true rfl, Nat.le_of_ble_eq_true rfl⟩) hS (fun q _ h => zAin X hS q h) (zAin X hS) (fun p29 u29 t29 H29 locs29 ht29 hv29 hw29 hB29 hz29 hk29 hS29 => ?_)
      have hZ29 := zBack X ht29 hB29
      subst hw29
      obtain ⟨g30, hf⟩ := gif hf
      refine z0ne (tgt := 176) hx hb g30 d_15_73_157 (by decide) (fun h31 => ?_) (fun h31 => ?_)
      · replace hf := gneg hf h31
        exact b_M_judge_176 X hrec48 hf hZ29 hS29 (lv_sub hl [0, 1, 2, 3, 4, 5] rfl)
      · replace hf := gpos hf h31
        exact b_M_judge_160 X hrec48 hf hZ29 hS29 (lv_sub hl [0, 1, 2, 3, 4, 5] rfl)

def f_M_judge_110 (rec48 : Int → Int → Int → zF → zB → zO) (K : Nat) (l4 : Int) (l3 : Int) (l2 : Int) (l1 : Int) (F : zF) (B : zB) : zO := zbind (f_M_judgeOuter K l3 F B) (fun r21 F21 B21 => f_M_judge_115 rec48 K l4 l3 l2 l1 F21 B21)
set_option maxHeartbeats 4000000 in
set_option maxRecDepth 100000 in
theorem b_M_judge_110 {D : va_G} {ca : Nat → ClassId} {ad : Nat → Int → Nat → Nat} {L : List Nat} {aS vS : Nat → Nat} {A : Nat → Prop} {p : Program} {l : Launch} {e : Env} {s : State} {m : MethodId} {args : Array Value} {below : List Frame} {meth : Method} {c : Code} {K : Nat} {r : Int} {F9 : zF} {B9 : zB} (X : zX D ca L aS vS A p s m args meth c prog_15_method_73_code 6 (Option.none : Option Jvm.ClassFile.FieldType) "StaveHouseModel") {rec48 : Int → Int → Int → zF → zB → zO} (hrec48 : ∀ {l3 : Int} {l2 : Int} {l1 : Int} {F : zF} {B : zB} {H : Heap} {locs : List Loc} {ls : Array Slot}, rec48 l3 l2 l1 F B = some (r, F9, B9) → zH D ca ad lnM nM L F B A H → va_S A s.heap H locs → lv_has ls 6 [(3, .int (iI l3)), (2, .int (iI l2)), (1, .int (iI l1)), (0, .ref (ad 14 0 0))] → W p l e ({ frames := 9, cells := 0, slots := 0, locals := 305 } : Room) s m args below meth c H locs 0 0 (MQ below (Q_M_judge D ca ad L r F9 B9 A) args s 0 0 A) (F0 m 48 ls [])) {l4 : Int} {l3 : Int} {l2 : Int} {l1 : Int} {F : zF} {B : zB} {H : Heap} {locs : List Loc} {ls : Array Slot} (hf : f_M_judge_110 rec48 K l4 l3 l2 l1 F B = some (r, F9, B9)) (hZ : zH D ca ad lnM nM L F B A H) (hS : va_S A s.heap H locs) (hl : lv_has ls 6 [(4, .int (iI l4)), (3, .int (iI l3)), (2, .int (iI l2)), (1, .int (iI l1)), (0, .ref (ad 14 0 0))]) : W p l e ({ frames := 9, cells := 0, slots := 0, locals := 305 } : Room) s m args below meth c H locs 0 0 (MQ below (Q_M_judge D ca ad L r F9 B9 A) args s 0 0 A) (F0 m 110 ls []) := by
  obtain ⟨hx, hb, hr, hml, hown, hts, hlk, hK, hA, hL, hX⟩ := id X
  replace hf : (zbind (f_M_judgeOuter K l3 F B) (fun r21 F21 B21 => f_M_judge_115 rec48 K l4 l3 l2 l1 F21 B21)) = some (r, F9, B9) := hf
  refine lv_aload_n hx hb d_15_73_110 rfl (lv_at hl 4 rfl) ?_
  refine lv_iload_n hx hb d_15_73_111 rfl (lv_at hl 1 rfl) ?_
  obtain ⟨r21, F21, B21, hc21, hf⟩ := gbind hf
  refine va_callv (va_runV (As := [.int (iI l3)]) (rest := []) ⟨hx, hb, hml, hown, hts⟩ (c_M_judgeOuter (l := l) hc21) (cwV 1 hts (gdV k_15_38 k_15_40 ks_239 k_1_9 k_15_41) rfl rfl rfl (by decide +kernel) ⟨Nat.le_of_ble_eq_true rfl, Nat.le_of_ble_eq_true rfl⟩) (zPV X hZ hS (ci := 14) (by decide) (by decide) (r := (RX14, TX14, 107)) rfl [.int (iI l3)]) rfl rfl hl.1 rfl (lv_room (Nat.le_of_ble_eq_true rfl)) d_15_73_112 ⟨Nat.le_of_ble_eq_true rfl, Nat.le_of_ble_eq_true rfl⟩) hS (fun q _ h => zAin X hS q h) (zAin X hS) (fun u21 t21 H21 locs21 ht21 hv21 hw21 hB21 hz21 hk21 hS21 => ?_)
  have hZ21 := zBack X ht21 hB21
  exact b_M_judge_115 X hrec48 hf hZ21 hS21 (lv_sub hl [0, 1, 2, 3, 4] rfl)

def f_M_judge_48 (K : Nat) : Nat → Int → Int → Int → zF → zB → zO
  | 0, _, _, _, _, _ => none
  | n + 1, l3, l2, l1, F, B => if r32 l3 then if r32 (F 14 0 36) then (if (F 14 0 36) ≤ l3 then f_M_judge_265 K l2 F B else zbind (f_M_good K F B) (fun r10 F10 B10 => if r32 r10 then (if r10 = 0 then f_M_judge_265 K l2 F10 B10 else if 0 ≤ (F10 14 0 6) ∧ (F10 14 0 6) < 3 then if 0 ≤ (l1 + l3) ∧ (l1 + l3) < 4000 then if r32 (B10 13 (F10 14 0 6) 25 (l1 + l3)) then (if (B10 13 (F10 14 0 6) 25 (l1 + l3)) ≤ 0 then f_M_judge_115 (f_M_judge_48 K n) K (l1 + l3) l3 l2 l1 F10 B10 else (if l3 = 0 then f_M_judge_110 (f_M_judge_48 K n) K (l1 + l3) l3 l2 l1 F10 B10 else if 0 ≤ ((l1 + l3) - 1) ∧ ((l1 + l3) - 1) < 4000 then if r32 (B10 13 (F10 14 0 6) 25 ((l1 + l3) - 1)) then (if (B10 13 (F10 14 0 6) 25 ((l1 + l3) - 1)) = (B10 13 (F10 14 0 6) 25 (l1 + l3)) then f_M_judge_115 (f_M_judge_48 K n) K (l1 + l3) l3 l2 l1 F10 B10 else f_M_judge_110 (f_M_judge_48 K n) K (l1 + l3) l3 l2 l1 F10 B10) else none else none)) else none else none else none) else none)) else none else none
set_option maxHeartbeats 4000000 in
set_option maxRecDepth 100000 in
theorem b_M_judge_48 {D : va_G} {ca : Nat → ClassId} {ad : Nat → Int → Nat → Nat} {L : List Nat} {aS vS : Nat → Nat} {A : Nat → Prop} {p : Program} {l : Launch} {e : Env} {s : State} {m : MethodId} {args : Array Value} {below : List Frame} {meth : Method} {c : Code} {K : Nat} {r : Int} {F9 : zF} {B9 : zB} (X : zX D ca L aS vS A p s m args meth c prog_15_method_73_code 6 (Option.none : Option Jvm.ClassFile.FieldType) "StaveHouseModel") : ∀ {n : Nat} {l3 : Int} {l2 : Int} {l1 : Int} {F : zF} {B : zB} {H : Heap} {locs : List Loc} {ls : Array Slot}, f_M_judge_48 K n l3 l2 l1 F B = some (r, F9, B9) → zH D ca ad lnM nM L F B A H → va_S A s.heap H locs → lv_has ls 6 [(3, .int (iI l3)), (2, .int (iI l2)), (1, .int (iI l1)), (0, .ref (ad 14 0 0))] → W p l e ({ frames := 9, cells := 0, slots := 0, locals := 305 } : Room) s m args below meth c H locs 0 0 (MQ below (Q_M_judge D ca ad L r F9 B9 A) args s 0 0 A) (F0 m 48 ls []) := by
  obtain ⟨hx, hb, hr, hml, hown, hts, hlk, hK, hA, hL, hX⟩ := id X
  intro n
  induction n with
  | zero =>
    intros
    rename_i hf _ _ _
    cases hf
  | succ n ih =>
    intro l3 l2 l1 F B H locs ls hf hZ hS hl
    replace hf : (if r32 l3 then if r32 (F 14 0 36) then (if (F 14 0 36) ≤ l3 then f_M_judge_265 K l2 F B else zbind (f_M_good K F B) (fun r10 F10 B10 => if r32 r10 then (if r10 = 0 then f_M_judge_265 K l2 F10 B10 else if 0 ≤ (F10 14 0 6) ∧ (F10 14 0 6) < 3 then if 0 ≤ (l1 + l3) ∧ (l1 + l3) < 4000 then if r32 (B10 13 (F10 14 0 6) 25 (l1 + l3)) then (if (B10 13 (F10 14 0 6) 25 (l1 + l3)) ≤ 0 then f_M_judge_115 (f_M_judge_48 K n) K (l1 + l3) l3 l2 l1 F10 B10 else (if l3 = 0 then f_M_judge_110 (f_M_judge_48 K n) K (l1 + l3) l3 l2 l1 F10 B10 else if 0 ≤ ((l1 + l3) - 1) ∧ ((l1 + l3) - 1) < 4000 then if r32 (B10 13 (F10 14 0 6) 25 ((l1 + l3) - 1)) then (if (B10 13 (F10 14 0 6) 25 ((l1 + l3) - 1)) = (B10 13 (F10 14 0 6) 25 (l1 + l3)) then f_M_judge_115 (f_M_judge_48 K n) K (l1 + l3) l3 l2 l1 F10 B10 else f_M_judge_110 (f_M_judge_48 K n) K (l1 + l3) l3 l2 l1 F10 B10) else none else none)) else none else none else none) else none)) else none else none) = some (r, F9, B9) := hf
    refine lv_iload_n hx hb d_15_73_48 rfl (lv_at hl 0 rfl) ?_
    refine lv_aload_n hx hb d_15_73_49 rfl (lv_at hl 3 rfl) ?_
    refine zget (ci := 14) (C := RX14) (T := TX14) (v := .int (iI (F 14 0 36))) (k := 36) hx hb hts inW_14 hown hK hZ (by decide) (by decide) rfl (by decide) k_11_34 rfl d_15_73_50 ?_
    obtain ⟨g7, hf⟩ := gif hf
    obtain ⟨g8, hf⟩ := gif hf
    refine zge (tgt := 265) hx hb g7 g8 d_15_73_53 (by decide) (fun h9 => ?_) (fun h9 => ?_)
    · replace hf := gpos hf h9
      exact b_M_judge_265 X hf hZ hS (lv_sub hl [1, 3] rfl)
    · replace hf := gneg hf h9
      refine lv_aload_n hx hb d_15_73_56 rfl (lv_at hl 3 rfl) ?_
      obtain ⟨r10, F10, B10, hc10, hf⟩ := gbind hf
      refine va_calli (va_runV (As := []) (rest := []) ⟨hx, hb, hml, hown, hts⟩ (c_M_good (l := l) hc10) (cwV 0 hts (gdV k_13_15 k_13_17 ks_152 k_1_9 k_13_18) rfl rfl rfl (by decide +kernel) ⟨Nat.le_of_ble_eq_true rfl, Nat.le_of_ble_eq_true rfl⟩) (zPV X hZ hS (ci := 14) (by decide) (by decide) (r := (RX14, TX14, 107)) rfl []) rfl rfl hl.1 rfl (lv_room (Nat.le_of_ble_eq_true rfl)) d_15_73_57 ⟨Nat.le_of_ble_eq_true rfl, Nat.le_of_ble_eq_true rfl⟩) hS (fun q _ h => zAin X hS q h) (zAin X hS) (fun p10 u10 t10 H10 locs10 ht10 hv10 hw10 hB10 hz10 hk10 hS10 => ?_)
      have hZ10 := zBack X ht10 hB10
      subst hw10
      obtain ⟨g11, hf⟩ := gif hf
      refine z0eq (tgt := 265) hx hb g11 d_15_73_60 (by decide) (fun h12 => ?_) (fun h12 => ?_)
      · replace hf := gpos hf h12
        exact b_M_judge_265 X hf hZ10 hS10 (lv_sub hl [1, 3] rfl)
      · replace hf := gneg hf h12
        refine lv_iload_n hx hb d_15_73_63 rfl (lv_at hl 2 rfl) ?_
        refine lv_iload_n hx hb d_15_73_64 rfl (lv_at hl 0 rfl) ?_
        refine zadd hx hb d_15_73_65 ?_
        refine lv_istore (lv' := [(4, .int (iI (l1 + l3))), (3, .int (iI l3)), (2, .int (iI l2)), (1, .int (iI l1)), (0, .ref (ad 14 0 0))]) hx hb d_15_73_66 hl (by decide) rfl (fun ls hl => ?_)
        refine lv_aload_n hx hb d_15_73_68 rfl (lv_at hl 4 rfl) ?_
        refine zget (ci := 14) (C := RX14) (T := TX14) (v := va_rf (zrf ad 13 (F10 14 0 6))) (k := 6) hx hb hts inW_14 hown hK hZ10 (by decide) (by decide) rfl (by decide) k_11_4 rfl d_15_73_69 ?_
        obtain ⟨g13, hf⟩ := gif hf
        refine zunrf g13.1 ?_
        refine zget (ci := 13) (C := RX13) (T := TX13) (v := .ref (ad 13 (F10 14 0 6) (25 + 1))) (k := 25) hx hb hts inW_13 hown hK hZ10 g13.1 g13.2 rfl (by decide) k_9_168 rfl d_15_73_72 ?_
        refine lv_iload hx hb d_15_73_75 (lv_at hl 0 rfl) ?_
        obtain ⟨g14, hf⟩ := gif hf
        refine zald (ci := 13) (k := 25) hx hb hK rfl hZ10 g13.1 g13.2 rfl (Nat.le_of_ble_eq_true rfl) g14.1 g14.2 d_15_73_77 ?_
        obtain ⟨g15, hf⟩ := gif hf
        refine z0le (tgt := 115) hx hb g15 d_15_73_78 (by decide) (fun h16 => ?_) (fun h16 => ?_)
        · replace hf := gpos hf h16
          exact b_M_judge_115 X ih hf hZ10 hS10 (lv_sub hl [0, 1, 2, 3, 4] rfl)
        · replace hf := gneg hf h16
          refine lv_iload_n hx hb d_15_73_81 rfl (lv_at hl 1 rfl) ?_
          refine z0eq (tgt := 110) hx hb g7 d_15_73_82 (by decide) (fun h17 => ?_) (fun h17 => ?_)
          · replace hf := gpos hf h17
            exact b_M_judge_110 X ih hf hZ10 hS10 (lv_sub hl [0, 1, 2, 3, 4] rfl)
          · replace hf := gneg hf h17
            refine lv_aload_n hx hb d_15_73_85 rfl (lv_at hl 4 rfl) ?_
            refine zget (ci := 14) (C := RX14) (T := TX14) (v := va_rf (zrf ad 13 (F10 14 0 6))) (k := 6) hx hb hts inW_14 hown hK hZ10 (by decide) (by decide) rfl (by decide) k_11_4 rfl d_15_73_86 ?_
            refine zunrf g13.1 ?_
            refine zget (ci := 13) (C := RX13) (T := TX13) (v := .ref (ad 13 (F10 14 0 6) (25 + 1))) (k := 25) hx hb hts inW_13 hown hK hZ10 g13.1 g13.2 rfl (by decide) k_9_168 rfl d_15_73_89 ?_
            refine lv_iload hx hb d_15_73_92 (lv_at hl 0 rfl) ?_
            refine lv_iconst (v := iI 1) hx hb d_15_73_94 rfl ?_
            refine zsub hx hb d_15_73_95 ?_
            obtain ⟨g18, hf⟩ := gif hf
            refine zald (ci := 13) (k := 25) hx hb hK rfl hZ10 g13.1 g13.2 rfl (Nat.le_of_ble_eq_true rfl) g18.1 g18.2 d_15_73_96 ?_
            refine lv_aload_n hx hb d_15_73_97 rfl (lv_at hl 4 rfl) ?_
            refine zget (ci := 14) (C := RX14) (T := TX14) (v := va_rf (zrf ad 13 (F10 14 0 6))) (k := 6) hx hb hts inW_14 hown hK hZ10 (by decide) (by decide) rfl (by decide) k_11_4 rfl d_15_73_98 ?_
            refine zunrf g13.1 ?_
            refine zget (ci := 13) (C := RX13) (T := TX13) (v := .ref (ad 13 (F10 14 0 6) (25 + 1))) (k := 25) hx hb hts inW_13 hown hK hZ10 g13.1 g13.2 rfl (by decide) k_9_168 rfl d_15_73_101 ?_
            refine lv_iload hx hb d_15_73_104 (lv_at hl 0 rfl) ?_
            refine zald (ci := 13) (k := 25) hx hb hK rfl hZ10 g13.1 g13.2 rfl (Nat.le_of_ble_eq_true rfl) g14.1 g14.2 d_15_73_106 ?_
            obtain ⟨g19, hf⟩ := gif hf
            refine zeq (tgt := 115) hx hb g19 g15 d_15_73_107 (by decide) (fun h20 => ?_) (fun h20 => ?_)
            · replace hf := gpos hf h20
              exact b_M_judge_115 X ih hf hZ10 hS10 (lv_sub hl [0, 1, 2, 3, 4] rfl)
            · replace hf := gneg hf h20
              exact b_M_judge_110 X ih hf hZ10 hS10 (lv_sub hl [0, 1, 2, 3, 4] rfl)

def f_M_judge (K : Nat)  (F : zF) (B : zB) : zO := if r32 (F 14 0 36) then (if (F 14 0 36) = 0 then if 0 ≤ (F 14 0 35) ∧ (F 14 0 35) < 4 then zbind (f_M_failAt K 15 (B 14 0 28 (F 14 0 35)) F B) (fun r6 F6 B6 => some (0, F6, B6)) else none else if 0 ≤ (F 14 0 6) ∧ (F 14 0 6) < 3 then zbind (f_M_places K (F 14 0 6) (F 14 0 35) F B) (fun r4 F4 B4 => f_M_judge_48 K K 0 0 (1000 * (F 14 0 35)) F4 B4) else none) else none
set_option maxHeartbeats 4000000 in
set_option maxRecDepth 100000 in
theorem c_M_judge {l : Launch} {D : va_G} {ca : Nat → ClassId} {ad : Nat → Int → Nat → Nat} {L : List Nat} {aS vS : Nat → Nat} {sz K : Nat}  {F F9 : zF} {B B9 : zB} {r : Int} (hf : f_M_judge K  F B = some (r, F9, B9)) : Met l ({ cls := "StaveHouseModel", name := "judge", desc := "()V" } : Jvm.MethodName) (Cond.code ({ cls := "StaveHouseModel", name := "judge", desc := "()V" } : Jvm.MethodName) prog_15_method_73_code 6 (Option.none : Option Jvm.ClassFile.FieldType) :: wAll) ({ frames := 9, cells := 0, slots := 0, locals := 305 } : Room) (va_Pc [.ref (ad 14 0 0)] (zPre D ca ad lnM nM L aS vS F B sz)) (Q_M_judge D ca ad L r F9 B9 (zA L sz)) 0 0 (zA L sz) := by
  refine zMet (Qc := Q_M_judge D ca ad L r F9 B9) (lv := [(0, .ref (ad 14 0 0))]) (by decide) (Nat.le_of_ble_eq_true rfl) rfl (fun A p e s m below meth c ls X hZ hS hl => ?_)
  obtain ⟨hx, hb, hr, hml, hown, hts, hlk, hK, hA, hL, hX⟩ := id X
  replace hf : (if r32 (F 14 0 36) then (if (F 14 0 36) = 0 then if 0 ≤ (F 14 0 35) ∧ (F 14 0 35) < 4 then zbind (f_M_failAt K 15 (B 14 0 28 (F 14 0 35)) F B) (fun r6 F6 B6 => some (0, F6, B6)) else none else if 0 ≤ (F 14 0 6) ∧ (F 14 0 6) < 3 then zbind (f_M_places K (F 14 0 6) (F 14 0 35) F B) (fun r4 F4 B4 => f_M_judge_48 K K 0 0 (1000 * (F 14 0 35)) F4 B4) else none) else none) = some (r, F9, B9) := hf
  refine lv_sipush (v := iI 1000) hx hb d_15_73_0 (by decide) ?_
  refine lv_aload_n hx hb d_15_73_3 rfl (lv_at hl 0 rfl) ?_
  refine zget (ci := 14) (C := RX14) (T := TX14) (v := .int (iI (F 14 0 35))) (k := 35) hx hb hts inW_14 hown hK hZ (by decide) (by decide) rfl (by decide) k_11_33 rfl d_15_73_4 ?_
  refine zmul hx hb d_15_73_7 ?_
  refine lv_istore_n (lv' := [(1, .int (iI (1000 * (F 14 0 35)))), (0, .ref (ad 14 0 0))]) hx hb d_15_73_8 rfl hl (by decide) rfl (fun ls hl => ?_)
  refine lv_aload_n hx hb d_15_73_9 rfl (lv_at hl 1 rfl) ?_
  refine zget (ci := 14) (C := RX14) (T := TX14) (v := .int (iI (F 14 0 36))) (k := 36) hx hb hts inW_14 hown hK hZ (by decide) (by decide) rfl (by decide) k_11_34 rfl d_15_73_10 ?_
  obtain ⟨g1, hf⟩ := gif hf
  refine z0ne (tgt := 32) hx hb g1 d_15_73_13 (by decide) (fun h2 => ?_) (fun h2 => ?_)
  · replace hf := gneg hf h2
    refine lv_aload_n hx hb d_15_73_32 rfl (lv_at hl 1 rfl) ?_
    refine lv_aload_n hx hb d_15_73_33 rfl (lv_at hl 1 rfl) ?_
    refine zget (ci := 14) (C := RX14) (T := TX14) (v := va_rf (zrf ad 13 (F 14 0 6))) (k := 6) hx hb hts inW_14 hown hK hZ (by decide) (by decide) rfl (by decide) k_11_4 rfl d_15_73_34 ?_
    refine lv_aload_n hx hb d_15_73_37 rfl (lv_at hl 1 rfl) ?_
    refine zget (ci := 14) (C := RX14) (T := TX14) (v := .int (iI (F 14 0 35))) (k := 35) hx hb hts inW_14 hown hK hZ (by decide) (by decide) rfl (by decide) k_11_33 rfl d_15_73_38 ?_
    obtain ⟨g3, hf⟩ := gif hf
    refine W.eq (g2 := F0 m 41 ls [.int (iI (F 14 0 35)), .ref (ad 13 (F 14 0 6) 0), .ref (ad 14 0 0)]) (by rw [zrf_pos (ad := ad) (t := 13) g3.1]; try rfl) ?_
    obtain ⟨r4, F4, B4, hc4, hf⟩ := gbind hf
    refine va_callv (va_runV (As := [.ref (ad 13 (F 14 0 6) 0), .int (iI (F 14 0 35))]) (rest := []) ⟨hx, hb, hml, hown, hts⟩ (c_M_places (l := l) hc4) (cwV 2 hts (gdV k_13_128 k_13_130 ks_173 k_1_9 k_13_131) rfl rfl rfl (by decide +kernel) ⟨Nat.le_of_ble_eq_true rfl, Nat.le_of_ble_eq_true rfl⟩) (zPV X hZ hS (ci := 14) (by decide) (by decide) (r := (RX14, TX14, 107)) rfl [.ref (ad 13 (F 14 0 6) 0), .int (iI (F 14 0 35))]) rfl rfl hl.1 rfl (lv_room (Nat.le_of_ble_eq_true rfl)) d_15_73_41 ⟨Nat.le_of_ble_eq_true rfl, Nat.le_of_ble_eq_true rfl⟩) hS (fun q _ h => zAin X hS q h) (zAin X hS) (fun u4 t4 H4 locs4 ht4 hv4 hw4 hB4 hz4 hk4 hS4 => ?_)
    have hZ4 := zBack X ht4 hB4
    refine lv_iconst (v := iI 0) hx hb d_15_73_44 rfl ?_
    refine lv_istore_n (lv' := [(2, .int (iI 0)), (1, .int (iI (1000 * (F 14 0 35)))), (0, .ref (ad 14 0 0))]) hx hb d_15_73_45 rfl hl (by decide) rfl (fun ls hl => ?_)
    refine lv_iconst (v := iI 0) hx hb d_15_73_46 rfl ?_
    refine lv_istore_n (lv' := [(3, .int (iI 0)), (2, .int (iI 0)), (1, .int (iI (1000 * (F 14 0 35)))), (0, .ref (ad 14 0 0))]) hx hb d_15_73_47 rfl hl (by decide) rfl (fun ls hl => ?_)
    exact b_M_judge_48 X hf hZ4 hS4 (lv_sub hl [0, 1, 2, 3] rfl)
  · replace hf := gpos hf h2
    refine lv_aload_n hx hb d_15_73_16 rfl (lv_at hl 1 rfl) ?_
    refine lv_bipush (v := iI 15) hx hb d_15_73_17 (by decide) ?_
    refine lv_aload_n hx hb d_15_73_19 rfl (lv_at hl 1 rfl) ?_
    refine zget (ci := 14) (C := RX14) (T := TX14) (v := .ref (ad 14 0 (28 + 1))) (k := 28) hx hb hts inW_14 hown hK hZ (by decide) (by decide) rfl (by decide) k_11_26 rfl d_15_73_20 ?_
    refine lv_aload_n hx hb d_15_73_23 rfl (lv_at hl 1 rfl) ?_
    refine zget (ci := 14) (C := RX14) (T := TX14) (v := .int (iI (F 14 0 35))) (k := 35) hx hb hts inW_14 hown hK hZ (by decide) (by decide) rfl (by decide) k_11_33 rfl d_15_73_24 ?_
    obtain ⟨g5, hf⟩ := gif hf
    refine zald (ci := 14) (k := 28) hx hb hK rfl hZ (by decide) (by decide) rfl (Nat.le_of_ble_eq_true rfl) g5.1 g5.2 d_15_73_27 ?_
    obtain ⟨r6, F6, B6, hc6, hf⟩ := gbind hf
    refine va_callv (va_runV (As := [.int (iI 15), .int (iI (B 14 0 28 (F 14 0 35)))]) (rest := []) ⟨hx, hb, hml, hown, hts⟩ (c_M_failAt (l := l) hc6) (cwV 2 hts (gdV k_14_132 k_14_134 ks_205 k_1_9 k_14_135) rfl rfl rfl (by decide +kernel) ⟨Nat.le_of_ble_eq_true rfl, Nat.le_of_ble_eq_true rfl⟩) (zPV X hZ hS (ci := 14) (by decide) (by decide) (r := (RX14, TX14, 107)) rfl [.int (iI 15), .int (iI (B 14 0 28 (F 14 0 35)))]) rfl rfl hl.1 rfl (lv_room (Nat.le_of_ble_eq_true rfl)) d_15_73_28 ⟨Nat.le_of_ble_eq_true rfl, Nat.le_of_ble_eq_true rfl⟩) hS (fun q _ h => zAin X hS q h) (zAin X hS) (fun u6 t6 H6 locs6 ht6 hv6 hw6 hB6 hz6 hk6 hS6 => ?_)
    have hZ6 := zBack X ht6 hB6
    cases hf
    exact W.vret hx hb hr (fun t ht hW => ⟨⟨(), rfl, trivial, by rw [ht]; exact hZ6, va_K.moved hW.alike hK⟩, hS6.F ht⟩) hS6.2.2 d_15_73_31 hlk

