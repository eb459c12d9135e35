theorem k_13_195 : (Jvm.Cond.methodLink "StaveHouseModel" (1112 : Nat) ({ cls := "StaveHouseModel", name := "downNote", desc := "(IIZ)V" } : Jvm.MethodName)) ∈ wAll := wA_13 (j := 195) rfl rfl
theorem k_13_197 : (Jvm.Cond.instanceMethod ({ cls := "StaveHouseModel", name := "downNote", desc := "(IIZ)V" } : Jvm.MethodName)) ∈ wAll := wA_13 (j := 197) rfl rfl
theorem ks_184 : (Jvm.Cond.selects "StaveHouseModel" ({ cls := "StaveHouseModel", name := "downNote", desc := "(IIZ)V" } : Jvm.MethodName) ({ cls := "StaveHouseModel", name := "downNote", desc := "(IIZ)V" } : Jvm.MethodName)) ∈ wAll := wA_s (j := 184) rfl rfl
theorem k_13_198 : (Jvm.Cond.code ({ cls := "StaveHouseModel", name := "downNote", desc := "(IIZ)V" } : Jvm.MethodName) prog_15_method_160_code (11 : Nat) (Option.none : Option Jvm.ClassFile.FieldType)) ∈ wAll := wA_13 (j := 198) rfl rfl
theorem k_13_77 : (Jvm.Cond.methodLink "StaveHouseModel" (1063 : Nat) ({ cls := "StaveHouseModel", name := "hasSounds", desc := "(I)Z" } : Jvm.MethodName)) ∈ wAll := wA_13 (j := 77) rfl rfl
theorem k_13_79 : (Jvm.Cond.instanceMethod ({ cls := "StaveHouseModel", name := "hasSounds", desc := "(I)Z" } : Jvm.MethodName)) ∈ wAll := wA_13 (j := 79) rfl rfl
theorem ks_164 : (Jvm.Cond.selects "StaveHouseModel" ({ cls := "StaveHouseModel", name := "hasSounds", desc := "(I)Z" } : Jvm.MethodName) ({ cls := "StaveHouseModel", name := "hasSounds", desc := "(I)Z" } : Jvm.MethodName)) ∈ wAll := wA_s (j := 164) rfl rfl
theorem k_13_80 : (Jvm.Cond.code ({ cls := "StaveHouseModel", name := "hasSounds", desc := "(I)Z" } : Jvm.MethodName) prog_15_method_152_code (4 : Nat) (Option.some Jvm.ClassFile.FieldType.boolean)) ∈ wAll := wA_13 (j := 80) rfl rfl
theorem k_13_81 : (Jvm.Cond.methodLink "StaveHouseModel" (1066 : Nat) ({ cls := "StaveHouseModel", name := "trackEvents", desc := "(III)J" } : Jvm.MethodName)) ∈ wAll := wA_13 (j := 81) rfl rfl
theorem k_13_83 : (Jvm.Cond.instanceMethod ({ cls := "StaveHouseModel", name := "trackEvents", desc := "(III)J" } : Jvm.MethodName)) ∈ wAll := wA_13 (j := 83) rfl rfl
theorem ks_165 : (Jvm.Cond.selects "StaveHouseModel" ({ cls := "StaveHouseModel", name := "trackEvents", desc := "(III)J" } : Jvm.MethodName) ({ cls := "StaveHouseModel", name := "trackEvents", desc := "(III)J" } : Jvm.MethodName)) ∈ wAll := wA_s (j := 165) rfl rfl
theorem k_13_84 : (Jvm.Cond.code ({ cls := "StaveHouseModel", name := "trackEvents", desc := "(III)J" } : Jvm.MethodName) prog_15_method_154_code (18 : Nat) (Option.some Jvm.ClassFile.FieldType.long)) ∈ wAll := wA_13 (j := 84) rfl rfl
theorem k_13_107 : (Jvm.Cond.methodLink "StaveHouseModel" (1070 : Nat) ({ cls := "StaveHouseModel", name := "downHeads", desc := "()V" } : Jvm.MethodName)) ∈ wAll := wA_13 (j := 107) rfl rfl
theorem k_13_109 : (Jvm.Cond.instanceMethod ({ cls := "StaveHouseModel", name := "downHeads", desc := "()V" } : Jvm.MethodName)) ∈ wAll := wA_13 (j := 109) rfl rfl
theorem ks_170 : (Jvm.Cond.selects "StaveHouseModel" ({ cls := "StaveHouseModel", name := "downHeads", desc := "()V" } : Jvm.MethodName) ({ cls := "StaveHouseModel", name := "downHeads", desc := "()V" } : Jvm.MethodName)) ∈ wAll := wA_s (j := 170) rfl rfl
theorem k_13_110 : (Jvm.Cond.code ({ cls := "StaveHouseModel", name := "downHeads", desc := "()V" } : Jvm.MethodName) prog_15_method_158_code (1 : Nat) (Option.none : Option Jvm.ClassFile.FieldType)) ∈ wAll := wA_13 (j := 110) rfl rfl
theorem k_13_120 : (Jvm.Cond.methodLink "StaveHouseModel" (1073 : Nat) ({ cls := "StaveHouseModel", name := "downVoice", desc := "(IJI)V" } : Jvm.MethodName)) ∈ wAll := wA_13 (j := 120) rfl rfl
theorem k_13_122 : (Jvm.Cond.instanceMethod ({ cls := "StaveHouseModel", name := "downVoice", desc := "(IJI)V" } : Jvm.MethodName)) ∈ wAll := wA_13 (j := 122) rfl rfl
theorem ks_172 : (Jvm.Cond.selects "StaveHouseModel" ({ cls := "StaveHouseModel", name := "downVoice", desc := "(IJI)V" } : Jvm.MethodName) ({ cls := "StaveHouseModel", name := "downVoice", desc := "(IJI)V" } : Jvm.MethodName)) ∈ wAll := wA_s (j := 172) rfl rfl
theorem k_13_123 : (Jvm.Cond.code ({ cls := "StaveHouseModel", name := "downVoice", desc := "(IJI)V" } : Jvm.MethodName) prog_15_method_159_code (7 : Nat) (Option.none : Option Jvm.ClassFile.FieldType)) ∈ wAll := wA_13 (j := 123) rfl rfl
theorem d_15_159_0 : decode prog_15_method_159_code 0 = .ok (.aload_n 0, 1) := by decide +kernel
theorem d_15_159_1 : decode prog_15_method_159_code 1 = .ok (.ldc_w 1104, 3) := by decide +kernel
theorem d_15_159_4 : decode prog_15_method_159_code 4 = .ok (.invokevirtual 971, 3) := by decide +kernel
theorem d_15_159_7 : decode prog_15_method_159_code 7 = .ok (.aload_n 0, 1) := by decide +kernel
theorem d_15_159_8 : decode prog_15_method_159_code 8 = .ok (.bipush 97, 2) := by decide +kernel
theorem d_15_159_10 : decode prog_15_method_159_code 10 = .ok (.iload_n 1, 1) := by decide +kernel
theorem d_15_159_11 : decode prog_15_method_159_code 11 = .ok (.iadd, 1) := by decide +kernel
theorem d_15_159_12 : decode prog_15_method_159_code 12 = .ok (.invokevirtual 964, 3) := by decide +kernel
theorem d_15_159_15 : decode prog_15_method_159_code 15 = .ok (.aload_n 0, 1) := by decide +kernel
theorem d_15_159_16 : decode prog_15_method_159_code 16 = .ok (.aload_n 0, 1) := by decide +kernel
theorem d_15_159_17 : decode prog_15_method_159_code 17 = .ok (.getfield 44, 3) := by decide +kernel
theorem d_15_159_20 : decode prog_15_method_159_code 20 = .ok (.getfield 451, 3) := by decide +kernel
theorem d_15_159_23 : decode prog_15_method_159_code 23 = .ok (.iload_n 1, 1) := by decide +kernel
theorem d_15_159_24 : decode prog_15_method_159_code 24 = .ok (.iaload, 1) := by decide +kernel
theorem d_15_159_25 : decode prog_15_method_159_code 25 = .ok (.ifCond .ne 9, 3) := by decide +kernel
theorem d_15_159_34 : decode prog_15_method_159_code 34 = .ok (.ldc_w 1108, 3) := by decide +kernel
theorem d_15_159_28 : decode prog_15_method_159_code 28 = .ok (.ldc_w 1106, 3) := by decide +kernel
theorem d_15_159_31 : decode prog_15_method_159_code 31 = .ok (.goto 6, 3) := by decide +kernel
theorem d_15_159_37 : decode prog_15_method_159_code 37 = .ok (.invokevirtual 971, 3) := by decide +kernel
theorem d_15_159_40 : decode prog_15_method_159_code 40 = .ok (.aload_n 0, 1) := by decide +kernel
theorem d_15_159_41 : decode prog_15_method_159_code 41 = .ok (.aload_n 0, 1) := by decide +kernel
theorem d_15_159_42 : decode prog_15_method_159_code 42 = .ok (.getfield 44, 3) := by decide +kernel
theorem d_15_159_45 : decode prog_15_method_159_code 45 = .ok (.getfield 454, 3) := by decide +kernel
theorem d_15_159_48 : decode prog_15_method_159_code 48 = .ok (.iload_n 1, 1) := by decide +kernel
theorem d_15_159_49 : decode prog_15_method_159_code 49 = .ok (.iaload, 1) := by decide +kernel
theorem d_15_159_50 : decode prog_15_method_159_code 50 = .ok (.invokevirtual 1093, 3) := by decide +kernel
theorem d_15_159_53 : decode prog_15_method_159_code 53 = .ok (.aload_n 0, 1) := by decide +kernel
theorem d_15_159_54 : decode prog_15_method_159_code 54 = .ok (.ldc_w 1110, 3) := by decide +kernel
theorem d_15_159_57 : decode prog_15_method_159_code 57 = .ok (.invokevirtual 971, 3) := by decide +kernel
theorem d_15_159_60 : decode prog_15_method_159_code 60 = .ok (.aload_n 0, 1) := by decide +kernel
theorem d_15_159_61 : decode prog_15_method_159_code 61 = .ok (.bipush 10, 2) := by decide +kernel
theorem d_15_159_63 : decode prog_15_method_159_code 63 = .ok (.invokevirtual 964, 3) := by decide +kernel
theorem d_15_159_66 : decode prog_15_method_159_code 66 = .ok (.aload_n 0, 1) := by decide +kernel
theorem d_15_159_67 : decode prog_15_method_159_code 67 = .ok (.aload_n 0, 1) := by decide +kernel
theorem d_15_159_68 : decode prog_15_method_159_code 68 = .ok (.getfield 44, 3) := by decide +kernel
theorem d_15_159_71 : decode prog_15_method_159_code 71 = .ok (.iload_n 1, 1) := by decide +kernel
theorem d_15_159_72 : decode prog_15_method_159_code 72 = .ok (.invokevirtual 638, 3) := by decide +kernel
theorem d_15_159_75 : decode prog_15_method_159_code 75 = .ok (.aload_n 0, 1) := by decide +kernel
theorem d_15_159_76 : decode prog_15_method_159_code 76 = .ok (.getfield 9, 3) := by decide +kernel
theorem d_15_159_79 : decode prog_15_method_159_code 79 = .ok (.aload_n 0, 1) := by decide +kernel
theorem d_15_159_80 : decode prog_15_method_159_code 80 = .ok (.getfield 13, 3) := by decide +kernel
theorem d_15_159_83 : decode prog_15_method_159_code 83 = .ok (.lload_n 2, 1) := by decide +kernel
theorem d_15_159_84 : decode prog_15_method_159_code 84 = .ok (.iload 4, 2) := by decide +kernel
theorem d_15_159_86 : decode prog_15_method_159_code 86 = .ok (.i2l, 1) := by decide +kernel
theorem d_15_159_87 : decode prog_15_method_159_code 87 = .ok (.invokestatic 537, 3) := by decide +kernel
theorem d_15_159_90 : decode prog_15_method_159_code 90 = .ok (.ifCond .ge 119, 3) := by decide +kernel
theorem d_15_159_93 : decode prog_15_method_159_code 93 = .ok (.aload_n 0, 1) := by decide +kernel
theorem d_15_159_94 : decode prog_15_method_159_code 94 = .ok (.lload_n 2, 1) := by decide +kernel
theorem d_15_159_95 : decode prog_15_method_159_code 95 = .ok (.iload 4, 2) := by decide +kernel
theorem d_15_159_97 : decode prog_15_method_159_code 97 = .ok (.i2l, 1) := by decide +kernel
theorem d_15_159_98 : decode prog_15_method_159_code 98 = .ok (.aload_n 0, 1) := by decide +kernel
theorem d_15_159_99 : decode prog_15_method_159_code 99 = .ok (.getfield 9, 3) := by decide +kernel
theorem d_15_159_102 : decode prog_15_method_159_code 102 = .ok (.aload_n 0, 1) := by decide +kernel
theorem d_15_159_103 : decode prog_15_method_159_code 103 = .ok (.getfield 13, 3) := by decide +kernel
theorem d_15_159_106 : decode prog_15_method_159_code 106 = .ok (.invokevirtual 664, 3) := by decide +kernel
theorem d_15_159_109 : decode prog_15_method_159_code 109 = .ok (.sipush 1000, 3) := by decide +kernel
theorem d_15_159_112 : decode prog_15_method_159_code 112 = .ok (.iload_n 1, 1) := by decide +kernel
theorem d_15_159_113 : decode prog_15_method_159_code 113 = .ok (.imul, 1) := by decide +kernel
theorem d_15_159_114 : decode prog_15_method_159_code 114 = .ok (.aload_n 0, 1) := by decide +kernel
theorem d_15_159_115 : decode prog_15_method_159_code 115 = .ok (.getfield 44, 3) := by decide +kernel
theorem d_15_159_118 : decode prog_15_method_159_code 118 = .ok (.getfield 515, 3) := by decide +kernel
theorem d_15_159_121 : decode prog_15_method_159_code 121 = .ok (.iload_n 1, 1) := by decide +kernel
theorem d_15_159_122 : decode prog_15_method_159_code 122 = .ok (.iaload, 1) := by decide +kernel
theorem d_15_159_123 : decode prog_15_method_159_code 123 = .ok (.iadd, 1) := by decide +kernel
theorem d_15_159_124 : decode prog_15_method_159_code 124 = .ok (.istore 5, 2) := by decide +kernel
theorem d_15_159_126 : decode prog_15_method_159_code 126 = .ok (.aload_n 0, 1) := by decide +kernel
theorem d_15_159_127 : decode prog_15_method_159_code 127 = .ok (.getfield 44, 3) := by decide +kernel
theorem d_15_159_130 : decode prog_15_method_159_code 130 = .ok (.getfield 515, 3) := by decide +kernel
theorem d_15_159_133 : decode prog_15_method_159_code 133 = .ok (.iload_n 1, 1) := by decide +kernel
theorem d_15_159_134 : decode prog_15_method_159_code 134 = .ok (.dup2, 1) := by decide +kernel
theorem d_15_159_135 : decode prog_15_method_159_code 135 = .ok (.iaload, 1) := by decide +kernel
theorem d_15_159_136 : decode prog_15_method_159_code 136 = .ok (.iconst 1, 1) := by decide +kernel
theorem d_15_159_137 : decode prog_15_method_159_code 137 = .ok (.iadd, 1) := by decide +kernel
theorem d_15_159_138 : decode prog_15_method_159_code 138 = .ok (.iastore, 1) := by decide +kernel
theorem d_15_159_139 : decode prog_15_method_159_code 139 = .ok (.aload_n 0, 1) := by decide +kernel
theorem d_15_159_140 : decode prog_15_method_159_code 140 = .ok (.getfield 44, 3) := by decide +kernel
theorem d_15_159_143 : decode prog_15_method_159_code 143 = .ok (.getfield 527, 3) := by decide +kernel
theorem d_15_159_146 : decode prog_15_method_159_code 146 = .ok (.iload 5, 2) := by decide +kernel
theorem d_15_159_148 : decode prog_15_method_159_code 148 = .ok (.aload_n 0, 1) := by decide +kernel
theorem d_15_159_149 : decode prog_15_method_159_code 149 = .ok (.getfield 9, 3) := by decide +kernel
theorem d_15_159_152 : decode prog_15_method_159_code 152 = .ok (.lastore, 1) := by decide +kernel
theorem d_15_159_153 : decode prog_15_method_159_code 153 = .ok (.aload_n 0, 1) := by decide +kernel
theorem d_15_159_154 : decode prog_15_method_159_code 154 = .ok (.getfield 44, 3) := by decide +kernel
theorem d_15_159_157 : decode prog_15_method_159_code 157 = .ok (.getfield 530, 3) := by decide +kernel
theorem d_15_159_160 : decode prog_15_method_159_code 160 = .ok (.iload 5, 2) := by decide +kernel
theorem d_15_159_162 : decode prog_15_method_159_code 162 = .ok (.aload_n 0, 1) := by decide +kernel
theorem d_15_159_163 : decode prog_15_method_159_code 163 = .ok (.getfield 13, 3) := by decide +kernel
theorem d_15_159_166 : decode prog_15_method_159_code 166 = .ok (.lastore, 1) := by decide +kernel
theorem d_15_159_167 : decode prog_15_method_159_code 167 = .ok (.aload_n 0, 1) := by decide +kernel
theorem d_15_159_168 : decode prog_15_method_159_code 168 = .ok (.getfield 44, 3) := by decide +kernel
theorem d_15_159_171 : decode prog_15_method_159_code 171 = .ok (.getfield 584, 3) := by decide +kernel
theorem d_15_159_174 : decode prog_15_method_159_code 174 = .ok (.iload 5, 2) := by decide +kernel
theorem d_15_159_176 : decode prog_15_method_159_code 176 = .ok (.iconst 0, 1) := by decide +kernel
theorem d_15_159_177 : decode prog_15_method_159_code 177 = .ok (.iastore, 1) := by decide +kernel
theorem d_15_159_178 : decode prog_15_method_159_code 178 = .ok (.aload_n 0, 1) := by decide +kernel
theorem d_15_159_179 : decode prog_15_method_159_code 179 = .ok (.getfield 44, 3) := by decide +kernel
theorem d_15_159_182 : decode prog_15_method_159_code 182 = .ok (.getfield 601, 3) := by decide +kernel
theorem d_15_159_185 : decode prog_15_method_159_code 185 = .ok (.iload 5, 2) := by decide +kernel
theorem d_15_159_187 : decode prog_15_method_159_code 187 = .ok (.iconst 0, 1) := by decide +kernel
theorem d_15_159_188 : decode prog_15_method_159_code 188 = .ok (.iastore, 1) := by decide +kernel
theorem d_15_159_189 : decode prog_15_method_159_code 189 = .ok (.aload_n 0, 1) := by decide +kernel
theorem d_15_159_190 : decode prog_15_method_159_code 190 = .ok (.getfield 44, 3) := by decide +kernel
theorem d_15_159_193 : decode prog_15_method_159_code 193 = .ok (.getfield 598, 3) := by decide +kernel
theorem d_15_159_196 : decode prog_15_method_159_code 196 = .ok (.iload 5, 2) := by decide +kernel
theorem d_15_159_198 : decode prog_15_method_159_code 198 = .ok (.iconst 0, 1) := by decide +kernel
theorem d_15_159_199 : decode prog_15_method_159_code 199 = .ok (.iastore, 1) := by decide +kernel
theorem d_15_159_200 : decode prog_15_method_159_code 200 = .ok (.aload_n 0, 1) := by decide +kernel
theorem d_15_159_201 : decode prog_15_method_159_code 201 = .ok (.aload_n 0, 1) := by decide +kernel
theorem d_15_159_202 : decode prog_15_method_159_code 202 = .ok (.getfield 44, 3) := by decide +kernel
theorem d_15_159_205 : decode prog_15_method_159_code 205 = .ok (.iload_n 1, 1) := by decide +kernel
theorem d_15_159_206 : decode prog_15_method_159_code 206 = .ok (.invokevirtual 638, 3) := by decide +kernel
theorem d_15_159_209 : decode prog_15_method_159_code 209 = .ok (.aload_n 0, 1) := by decide +kernel
theorem d_15_159_210 : decode prog_15_method_159_code 210 = .ok (.aload_n 0, 1) := by decide +kernel
theorem d_15_159_211 : decode prog_15_method_159_code 211 = .ok (.getfield 44, 3) := by decide +kernel
theorem d_15_159_214 : decode prog_15_method_159_code 214 = .ok (.iload_n 1, 1) := by decide +kernel
theorem d_15_159_215 : decode prog_15_method_159_code 215 = .ok (.iconst 0, 1) := by decide +kernel
theorem d_15_159_216 : decode prog_15_method_159_code 216 = .ok (.invokevirtual 652, 3) := by decide +kernel
theorem d_15_159_219 : decode prog_15_method_159_code 219 = .ok (.istore 5, 2) := by decide +kernel
theorem d_15_159_221 : decode prog_15_method_159_code 221 = .ok (.iload 5, 2) := by decide +kernel
theorem d_15_159_223 : decode prog_15_method_159_code 223 = .ok (.sipush 800, 3) := by decide +kernel
theorem d_15_159_226 : decode prog_15_method_159_code 226 = .ok (.if_icmp .le 10, 3) := by decide +kernel
theorem d_15_159_229 : decode prog_15_method_159_code 229 = .ok (.aload_n 0, 1) := by decide +kernel
theorem d_15_159_230 : decode prog_15_method_159_code 230 = .ok (.sipush 3001, 3) := by decide +kernel
theorem d_15_159_233 : decode prog_15_method_159_code 233 = .ok (.putfield 961, 3) := by decide +kernel
theorem d_15_159_236 : decode prog_15_method_159_code 236 = .ok (.iconst 0, 1) := by decide +kernel
theorem d_15_159_237 : decode prog_15_method_159_code 237 = .ok (.istore 6, 2) := by decide +kernel
theorem d_15_159_239 : decode prog_15_method_159_code 239 = .ok (.iload 6, 2) := by decide +kernel
theorem d_15_159_241 : decode prog_15_method_159_code 241 = .ok (.iload 5, 2) := by decide +kernel
theorem d_15_159_243 : decode prog_15_method_159_code 243 = .ok (.if_icmp .ge 40, 3) := by decide +kernel
theorem d_15_159_246 : decode prog_15_method_159_code 246 = .ok (.aload_n 0, 1) := by decide +kernel
theorem d_15_159_247 : decode prog_15_method_159_code 247 = .ok (.getfield 961, 3) := by decide +kernel
theorem d_15_159_250 : decode prog_15_method_159_code 250 = .ok (.sipush 3000, 3) := by decide +kernel
theorem d_15_159_253 : decode prog_15_method_159_code 253 = .ok (.if_icmp .gt 30, 3) := by decide +kernel
theorem d_15_159_256 : decode prog_15_method_159_code 256 = .ok (.aload_n 0, 1) := by decide +kernel
theorem d_15_159_257 : decode prog_15_method_159_code 257 = .ok (.iload_n 1, 1) := by decide +kernel
theorem d_15_159_258 : decode prog_15_method_159_code 258 = .ok (.iload 6, 2) := by decide +kernel
theorem d_15_159_260 : decode prog_15_method_159_code 260 = .ok (.iload 6, 2) := by decide +kernel
theorem d_15_159_262 : decode prog_15_method_159_code 262 = .ok (.iconst 1, 1) := by decide +kernel
theorem d_15_159_263 : decode prog_15_method_159_code 263 = .ok (.iadd, 1) := by decide +kernel
theorem d_15_159_264 : decode prog_15_method_159_code 264 = .ok (.iload 5, 2) := by decide +kernel
theorem d_15_159_266 : decode prog_15_method_159_code 266 = .ok (.if_icmp .ne 7, 3) := by decide +kernel
theorem d_15_159_273 : decode prog_15_method_159_code 273 = .ok (.iconst 0, 1) := by decide +kernel
theorem d_15_159_269 : decode prog_15_method_159_code 269 = .ok (.iconst 1, 1) := by decide +kernel
theorem d_15_159_270 : decode prog_15_method_159_code 270 = .ok (.goto 4, 3) := by decide +kernel
theorem d_15_159_274 : decode prog_15_method_159_code 274 = .ok (.invokevirtual 1112, 3) := by decide +kernel
theorem d_15_159_277 : decode prog_15_method_159_code 277 = .ok (.iinc 6 1, 3) := by decide +kernel
theorem d_15_159_280 : decode prog_15_method_159_code 280 = .ok (.goto (-41), 3) := by decide +kernel
theorem d_15_159_283 : decode prog_15_method_159_code 283 = .ok (.aload_n 0, 1) := by decide +kernel
theorem d_15_159_284 : decode prog_15_method_159_code 284 = .ok (.bipush 125, 2) := by decide +kernel
theorem d_15_159_286 : decode prog_15_method_159_code 286 = .ok (.invokevirtual 964, 3) := by decide +kernel
theorem d_15_159_289 : decode prog_15_method_159_code 289 = .ok (.aload_n 0, 1) := by decide +kernel
theorem d_15_159_290 : decode prog_15_method_159_code 290 = .ok (.bipush 10, 2) := by decide +kernel
theorem d_15_159_292 : decode prog_15_method_159_code 292 = .ok (.invokevirtual 964, 3) := by decide +kernel
theorem d_15_159_295 : decode prog_15_method_159_code 295 = .ok (.return_, 1) := by decide +kernel
theorem d_15_153_0 : decode prog_15_method_153_code 0 = .ok (.aload_n 0, 1) := by decide +kernel
theorem d_15_153_1 : decode prog_15_method_153_code 1 = .ok (.getfield 1045, 3) := by decide +kernel
theorem d_15_153_4 : decode prog_15_method_153_code 4 = .ok (.ifCond .eq 36, 3) := by decide +kernel
theorem d_15_153_7 : decode prog_15_method_153_code 7 = .ok (.aload_n 0, 1) := by decide +kernel
theorem d_15_153_8 : decode prog_15_method_153_code 8 = .ok (.getfield 230, 3) := by decide +kernel
theorem d_15_153_11 : decode prog_15_method_153_code 11 = .ok (.bipush 7, 2) := by decide +kernel
theorem d_15_153_13 : decode prog_15_method_153_code 13 = .ok (.iaload, 1) := by decide +kernel
theorem d_15_153_14 : decode prog_15_method_153_code 14 = .ok (.ifCond .eq 26, 3) := by decide +kernel
theorem d_15_153_17 : decode prog_15_method_153_code 17 = .ok (.iload_n 1, 1) := by decide +kernel
theorem d_15_153_18 : decode prog_15_method_153_code 18 = .ok (.iconst 4, 1) := by decide +kernel
theorem d_15_153_19 : decode prog_15_method_153_code 19 = .ok (.if_icmp .eq 23, 3) := by decide +kernel
theorem d_15_153_22 : decode prog_15_method_153_code 22 = .ok (.iload_n 1, 1) := by decide +kernel
theorem d_15_153_23 : decode prog_15_method_153_code 23 = .ok (.bipush 8, 2) := by decide +kernel
theorem d_15_153_25 : decode prog_15_method_153_code 25 = .ok (.if_icmp .eq 17, 3) := by decide +kernel
theorem d_15_153_28 : decode prog_15_method_153_code 28 = .ok (.iload_n 1, 1) := by decide +kernel
theorem d_15_153_29 : decode prog_15_method_153_code 29 = .ok (.bipush 16, 2) := by decide +kernel
theorem d_15_153_31 : decode prog_15_method_153_code 31 = .ok (.if_icmp .eq 11, 3) := by decide +kernel
theorem d_15_153_34 : decode prog_15_method_153_code 34 = .ok (.iload_n 1, 1) := by decide +kernel
theorem d_15_153_35 : decode prog_15_method_153_code 35 = .ok (.bipush 32, 2) := by decide +kernel
theorem d_15_153_37 : decode prog_15_method_153_code 37 = .ok (.if_icmp .eq 5, 3) := by decide +kernel
theorem d_15_153_40 : decode prog_15_method_153_code 40 = .ok (.iconst (-1), 1) := by decide +kernel
theorem d_15_153_41 : decode prog_15_method_153_code 41 = .ok (.ireturn, 1) := by decide +kernel
theorem d_15_153_42 : decode prog_15_method_153_code 42 = .ok (.aload_n 0, 1) := by decide +kernel
theorem d_15_153_43 : decode prog_15_method_153_code 43 = .ok (.iconst 0, 1) := by decide +kernel
theorem d_15_153_44 : decode prog_15_method_153_code 44 = .ok (.putfield 961, 3) := by decide +kernel
theorem d_15_153_47 : decode prog_15_method_153_code 47 = .ok (.aload_n 0, 1) := by decide +kernel
theorem d_15_153_48 : decode prog_15_method_153_code 48 = .ok (.getfield 44, 3) := by decide +kernel
theorem d_15_153_51 : decode prog_15_method_153_code 51 = .ok (.iconst 0, 1) := by decide +kernel
theorem d_15_153_52 : decode prog_15_method_153_code 52 = .ok (.putfield 304, 3) := by decide +kernel
theorem d_15_153_55 : decode prog_15_method_153_code 55 = .ok (.aload_n 0, 1) := by decide +kernel
theorem d_15_153_56 : decode prog_15_method_153_code 56 = .ok (.getfield 44, 3) := by decide +kernel
theorem d_15_153_59 : decode prog_15_method_153_code 59 = .ok (.aload_n 0, 1) := by decide +kernel
theorem d_15_153_60 : decode prog_15_method_153_code 60 = .ok (.getfield 230, 3) := by decide +kernel
theorem d_15_153_63 : decode prog_15_method_153_code 63 = .ok (.iconst 2, 1) := by decide +kernel
theorem d_15_153_64 : decode prog_15_method_153_code 64 = .ok (.iaload, 1) := by decide +kernel
theorem d_15_153_65 : decode prog_15_method_153_code 65 = .ok (.putfield 310, 3) := by decide +kernel
theorem d_15_153_68 : decode prog_15_method_153_code 68 = .ok (.aload_n 0, 1) := by decide +kernel
theorem d_15_153_69 : decode prog_15_method_153_code 69 = .ok (.getfield 44, 3) := by decide +kernel
theorem d_15_153_72 : decode prog_15_method_153_code 72 = .ok (.aload_n 0, 1) := by decide +kernel
theorem d_15_153_73 : decode prog_15_method_153_code 73 = .ok (.getfield 230, 3) := by decide +kernel
theorem d_15_153_76 : decode prog_15_method_153_code 76 = .ok (.iconst 3, 1) := by decide +kernel
theorem d_15_153_77 : decode prog_15_method_153_code 77 = .ok (.iaload, 1) := by decide +kernel
theorem d_15_153_78 : decode prog_15_method_153_code 78 = .ok (.iconst 1, 1) := by decide +kernel
theorem d_15_153_79 : decode prog_15_method_153_code 79 = .ok (.if_icmp .ne 7, 3) := by decide +kernel
theorem d_15_153_86 : decode prog_15_method_153_code 86 = .ok (.iconst 0, 1) := by decide +kernel
theorem d_15_153_82 : decode prog_15_method_153_code 82 = .ok (.iconst 1, 1) := by decide +kernel
theorem d_15_153_83 : decode prog_15_method_153_code 83 = .ok (.goto 4, 3) := by decide +kernel
theorem d_15_153_87 : decode prog_15_method_153_code 87 = .ok (.putfield 313, 3) := by decide +kernel
theorem d_15_153_90 : decode prog_15_method_153_code 90 = .ok (.aload_n 0, 1) := by decide +kernel
theorem d_15_153_91 : decode prog_15_method_153_code 91 = .ok (.getfield 44, 3) := by decide +kernel
theorem d_15_153_94 : decode prog_15_method_153_code 94 = .ok (.aload_n 0, 1) := by decide +kernel
theorem d_15_153_95 : decode prog_15_method_153_code 95 = .ok (.getfield 230, 3) := by decide +kernel
theorem d_15_153_98 : decode prog_15_method_153_code 98 = .ok (.iconst 4, 1) := by decide +kernel
theorem d_15_153_99 : decode prog_15_method_153_code 99 = .ok (.iaload, 1) := by decide +kernel
theorem d_15_153_100 : decode prog_15_method_153_code 100 = .ok (.putfield 404, 3) := by decide +kernel
theorem d_15_153_103 : decode prog_15_method_153_code 103 = .ok (.aload_n 0, 1) := by decide +kernel
theorem d_15_153_104 : decode prog_15_method_153_code 104 = .ok (.getfield 44, 3) := by decide +kernel
theorem d_15_153_107 : decode prog_15_method_153_code 107 = .ok (.aload_n 0, 1) := by decide +kernel
theorem d_15_153_108 : decode prog_15_method_153_code 108 = .ok (.getfield 230, 3) := by decide +kernel
theorem d_15_153_111 : decode prog_15_method_153_code 111 = .ok (.iconst 5, 1) := by decide +kernel
theorem d_15_153_112 : decode prog_15_method_153_code 112 = .ok (.iaload, 1) := by decide +kernel
theorem d_15_153_113 : decode prog_15_method_153_code 113 = .ok (.putfield 407, 3) := by decide +kernel
theorem d_15_153_116 : decode prog_15_method_153_code 116 = .ok (.lconst 0, 1) := by decide +kernel
theorem d_15_153_117 : decode prog_15_method_153_code 117 = .ok (.lstore_n 2, 1) := by decide +kernel
theorem d_15_153_118 : decode prog_15_method_153_code 118 = .ok (.iconst 0, 1) := by decide +kernel
theorem d_15_153_119 : decode prog_15_method_153_code 119 = .ok (.istore 4, 2) := by decide +kernel
theorem d_15_153_121 : decode prog_15_method_153_code 121 = .ok (.iload 4, 2) := by decide +kernel
theorem d_15_153_123 : decode prog_15_method_153_code 123 = .ok (.aload_n 0, 1) := by decide +kernel
theorem d_15_153_124 : decode prog_15_method_153_code 124 = .ok (.getfield 230, 3) := by decide +kernel
theorem d_15_153_127 : decode prog_15_method_153_code 127 = .ok (.iconst 0, 1) := by decide +kernel
theorem d_15_153_128 : decode prog_15_method_153_code 128 = .ok (.iaload, 1) := by decide +kernel
theorem d_15_153_129 : decode prog_15_method_153_code 129 = .ok (.if_icmp .ge 71, 3) := by decide +kernel
theorem d_15_153_132 : decode prog_15_method_153_code 132 = .ok (.aload_n 0, 1) := by decide +kernel
theorem d_15_153_133 : decode prog_15_method_153_code 133 = .ok (.getfield 44, 3) := by decide +kernel
theorem d_15_153_136 : decode prog_15_method_153_code 136 = .ok (.getfield 304, 3) := by decide +kernel
theorem d_15_153_139 : decode prog_15_method_153_code 139 = .ok (.iconst 4, 1) := by decide +kernel
theorem d_15_153_140 : decode prog_15_method_153_code 140 = .ok (.if_icmp .ge 60, 3) := by decide +kernel
theorem d_15_153_143 : decode prog_15_method_153_code 143 = .ok (.aload_n 0, 1) := by decide +kernel
theorem d_15_153_144 : decode prog_15_method_153_code 144 = .ok (.iload 4, 2) := by decide +kernel
theorem d_15_153_146 : decode prog_15_method_153_code 146 = .ok (.invokevirtual 1063, 3) := by decide +kernel
theorem d_15_153_149 : decode prog_15_method_153_code 149 = .ok (.ifCond .ne 6, 3) := by decide +kernel
theorem d_15_153_155 : decode prog_15_method_153_code 155 = .ok (.aload_n 0, 1) := by decide +kernel
theorem d_15_153_156 : decode prog_15_method_153_code 156 = .ok (.iload 4, 2) := by decide +kernel
theorem d_15_153_158 : decode prog_15_method_153_code 158 = .ok (.aload_n 0, 1) := by decide +kernel
theorem d_15_153_159 : decode prog_15_method_153_code 159 = .ok (.getfield 44, 3) := by decide +kernel
theorem d_15_153_162 : decode prog_15_method_153_code 162 = .ok (.getfield 304, 3) := by decide +kernel
theorem d_15_153_165 : decode prog_15_method_153_code 165 = .ok (.iload_n 1, 1) := by decide +kernel
theorem d_15_153_166 : decode prog_15_method_153_code 166 = .ok (.invokevirtual 1066, 3) := by decide +kernel
theorem d_15_153_169 : decode prog_15_method_153_code 169 = .ok (.lstore 5, 2) := by decide +kernel
theorem d_15_153_171 : decode prog_15_method_153_code 171 = .ok (.lload 5, 2) := by decide +kernel
theorem d_15_153_173 : decode prog_15_method_153_code 173 = .ok (.lload_n 2, 1) := by decide +kernel
theorem d_15_153_174 : decode prog_15_method_153_code 174 = .ok (.lcmp, 1) := by decide +kernel
theorem d_15_153_175 : decode prog_15_method_153_code 175 = .ok (.ifCond .le 6, 3) := by decide +kernel
theorem d_15_153_178 : decode prog_15_method_153_code 178 = .ok (.lload 5, 2) := by decide +kernel
theorem d_15_153_180 : decode prog_15_method_153_code 180 = .ok (.lstore_n 2, 1) := by decide +kernel
theorem d_15_153_152 : decode prog_15_method_153_code 152 = .ok (.goto 42, 3) := by decide +kernel
theorem d_15_153_194 : decode prog_15_method_153_code 194 = .ok (.iinc 4 1, 3) := by decide +kernel
theorem d_15_153_197 : decode prog_15_method_153_code 197 = .ok (.goto (-76), 3) := by decide +kernel
theorem d_15_153_181 : decode prog_15_method_153_code 181 = .ok (.aload_n 0, 1) := by decide +kernel
theorem d_15_153_182 : decode prog_15_method_153_code 182 = .ok (.getfield 44, 3) := by decide +kernel
theorem d_15_153_185 : decode prog_15_method_153_code 185 = .ok (.dup, 1) := by decide +kernel
theorem d_15_153_186 : decode prog_15_method_153_code 186 = .ok (.getfield 304, 3) := by decide +kernel
theorem d_15_153_189 : decode prog_15_method_153_code 189 = .ok (.iconst 1, 1) := by decide +kernel
theorem d_15_153_190 : decode prog_15_method_153_code 190 = .ok (.iadd, 1) := by decide +kernel
theorem d_15_153_191 : decode prog_15_method_153_code 191 = .ok (.putfield 304, 3) := by decide +kernel
theorem d_15_153_200 : decode prog_15_method_153_code 200 = .ok (.lload_n 2, 1) := by decide +kernel
theorem d_15_153_201 : decode prog_15_method_153_code 201 = .ok (.iload_n 1, 1) := by decide +kernel
theorem d_15_153_202 : decode prog_15_method_153_code 202 = .ok (.i2l, 1) := by decide +kernel
theorem d_15_153_203 : decode prog_15_method_153_code 203 = .ok (.ldc2_w 626, 3) := by decide +kernel
theorem d_15_153_206 : decode prog_15_method_153_code 206 = .ok (.aload_n 0, 1) := by decide +kernel
theorem d_15_153_207 : decode prog_15_method_153_code 207 = .ok (.getfield 44, 3) := by decide +kernel
theorem d_15_153_210 : decode prog_15_method_153_code 210 = .ok (.getfield 404, 3) := by decide +kernel
theorem d_15_153_213 : decode prog_15_method_153_code 213 = .ok (.i2l, 1) := by decide +kernel
theorem d_15_153_214 : decode prog_15_method_153_code 214 = .ok (.lmul, 1) := by decide +kernel
theorem d_15_153_215 : decode prog_15_method_153_code 215 = .ok (.aload_n 0, 1) := by decide +kernel
theorem d_15_153_216 : decode prog_15_method_153_code 216 = .ok (.getfield 44, 3) := by decide +kernel
theorem d_15_153_219 : decode prog_15_method_153_code 219 = .ok (.getfield 407, 3) := by decide +kernel
theorem d_15_153_222 : decode prog_15_method_153_code 222 = .ok (.i2l, 1) := by decide +kernel
theorem d_15_153_223 : decode prog_15_method_153_code 223 = .ok (.invokestatic 537, 3) := by decide +kernel
theorem d_15_153_226 : decode prog_15_method_153_code 226 = .ok (.ifCond .gt 7, 3) := by decide +kernel
theorem d_15_153_233 : decode prog_15_method_153_code 233 = .ok (.iconst 0, 1) := by decide +kernel
theorem d_15_153_229 : decode prog_15_method_153_code 229 = .ok (.iconst 1, 1) := by decide +kernel
theorem d_15_153_230 : decode prog_15_method_153_code 230 = .ok (.goto 4, 3) := by decide +kernel
theorem d_15_153_234 : decode prog_15_method_153_code 234 = .ok (.istore 4, 2) := by decide +kernel
theorem d_15_153_236 : decode prog_15_method_153_code 236 = .ok (.iload 4, 2) := by decide +kernel
theorem d_15_153_238 : decode prog_15_method_153_code 238 = .ok (.ifCond .eq 46, 3) := by decide +kernel
theorem d_15_153_241 : decode prog_15_method_153_code 241 = .ok (.aload_n 0, 1) := by decide +kernel
theorem d_15_153_242 : decode prog_15_method_153_code 242 = .ok (.invokevirtual 1070, 3) := by decide +kernel
theorem d_15_153_245 : decode prog_15_method_153_code 245 = .ok (.iconst 0, 1) := by decide +kernel
theorem d_15_153_246 : decode prog_15_method_153_code 246 = .ok (.istore 5, 2) := by decide +kernel
theorem d_15_153_248 : decode prog_15_method_153_code 248 = .ok (.iload 5, 2) := by decide +kernel
theorem d_15_153_250 : decode prog_15_method_153_code 250 = .ok (.aload_n 0, 1) := by decide +kernel
theorem d_15_153_251 : decode prog_15_method_153_code 251 = .ok (.getfield 44, 3) := by decide +kernel
theorem d_15_153_254 : decode prog_15_method_153_code 254 = .ok (.getfield 304, 3) := by decide +kernel
theorem d_15_153_257 : decode prog_15_method_153_code 257 = .ok (.if_icmp .ge 27, 3) := by decide +kernel
theorem d_15_153_260 : decode prog_15_method_153_code 260 = .ok (.aload_n 0, 1) := by decide +kernel
theorem d_15_153_261 : decode prog_15_method_153_code 261 = .ok (.getfield 961, 3) := by decide +kernel
theorem d_15_153_264 : decode prog_15_method_153_code 264 = .ok (.sipush 3000, 3) := by decide +kernel
theorem d_15_153_267 : decode prog_15_method_153_code 267 = .ok (.if_icmp .gt 17, 3) := by decide +kernel
theorem d_15_153_270 : decode prog_15_method_153_code 270 = .ok (.aload_n 0, 1) := by decide +kernel
theorem d_15_153_271 : decode prog_15_method_153_code 271 = .ok (.iload 5, 2) := by decide +kernel
theorem d_15_153_273 : decode prog_15_method_153_code 273 = .ok (.lload_n 2, 1) := by decide +kernel
theorem d_15_153_274 : decode prog_15_method_153_code 274 = .ok (.iload_n 1, 1) := by decide +kernel
theorem d_15_153_275 : decode prog_15_method_153_code 275 = .ok (.invokevirtual 1073, 3) := by decide +kernel
theorem d_15_153_278 : decode prog_15_method_153_code 278 = .ok (.iinc 5 1, 3) := by decide +kernel
theorem d_15_153_281 : decode prog_15_method_153_code 281 = .ok (.goto (-33), 3) := by decide +kernel
theorem d_15_153_284 : decode prog_15_method_153_code 284 = .ok (.iload 4, 2) := by decide +kernel
theorem d_15_153_286 : decode prog_15_method_153_code 286 = .ok (.ifCond .eq 18, 3) := by decide +kernel
theorem d_15_153_289 : decode prog_15_method_153_code 289 = .ok (.aload_n 0, 1) := by decide +kernel
theorem d_15_153_290 : decode prog_15_method_153_code 290 = .ok (.getfield 961, 3) := by decide +kernel
theorem d_15_153_293 : decode prog_15_method_153_code 293 = .ok (.sipush 3000, 3) := by decide +kernel
theorem d_15_153_296 : decode prog_15_method_153_code 296 = .ok (.if_icmp .gt 8, 3) := by decide +kernel
theorem d_15_153_299 : decode prog_15_method_153_code 299 = .ok (.aload_n 0, 1) := by decide +kernel
theorem d_15_153_300 : decode prog_15_method_153_code 300 = .ok (.getfield 961, 3) := by decide +kernel
theorem d_15_153_303 : decode prog_15_method_153_code 303 = .ok (.ireturn, 1) := by decide +kernel
theorem d_15_153_304 : decode prog_15_method_153_code 304 = .ok (.aload_n 0, 1) := by decide +kernel
theorem d_15_153_305 : decode prog_15_method_153_code 305 = .ok (.iconst 0, 1) := by decide +kernel
theorem d_15_153_306 : decode prog_15_method_153_code 306 = .ok (.putfield 961, 3) := by decide +kernel
theorem d_15_153_309 : decode prog_15_method_153_code 309 = .ok (.bipush (-2), 2) := by decide +kernel
theorem d_15_153_311 : decode prog_15_method_153_code 311 = .ok (.ireturn, 1) := by decide +kernel
abbrev Q_M_downVoice (D : va_G) (ca : Nat → ClassId) (ad : Nat → Int → Nat → Nat) (L : List Nat) (r : Int) (F : zF) (B : zB) (A : Nat → Prop) : Array Value → State → Outcome → State → Prop := va_Qv (S := Unit) (fun _ => True) (fun _ => zPo D ca ad lnM nM L F B A) A
def f_M_downVoice_283 (K : Nat)  (F : zF) (B : zB) : zO := zbind (f_M_put_0 K 125 F B) (fun r42 F42 B42 => zbind (f_M_put_0 K 10 F42 B42) (fun r43 F43 B43 => some (0, F43, B43)))
set_option maxHeartbeats 4000000 in
set_option maxRecDepth 100000 in
theorem b_M_downVoice_283 {D : va_G} {ca : Nat → ClassId} {ad : Nat → Int → Nat → Nat} {L : List Nat} {aS vS : Nat → Nat} {A : Nat → Prop} {p : Program} {l : Launch} {e : Env} {s : State} {m : MethodId} {args : Array Value} {below : List Frame} {meth : Method} {c : Code} {K : Nat} {r : Int} {F9 : zF} {B9 : zB} (X : zX D ca L aS vS A p s m args meth c prog_15_method_159_code 7 (Option.none : Option Jvm.ClassFile.FieldType) "StaveHouseModel")  {F : zF} {B : zB} {H : Heap} {locs : List Loc} {ls : Array Slot} (hf : f_M_downVoice_283 K  F B = some (r, F9, B9)) (hZ : zH D ca ad lnM nM L F B A H) (hS : va_S A s.heap H locs) (hl : lv_has ls 7 [(0, .ref (ad 14 0 0))]) : W p l e ({ frames := 9, cells := 0, slots := 0, locals := 305 } : Room) s m args below meth c H locs 0 0 (MQ below (Q_M_downVoice D ca ad L r F9 B9 A) args s 0 0 A) (F0 m 283 ls []) := by
  obtain ⟨hx, hb, hr, hml, hown, hts, hlk, hK, hA, hL, hX⟩ := id X
  replace hf : (zbind (f_M_put_0 K 125 F B) (fun r42 F42 B42 => zbind (f_M_put_0 K 10 F42 B42) (fun r43 F43 B43 => some (0, F43, B43)))) = some (r, F9, B9) := hf
  refine lv_aload_n hx hb d_15_159_283 rfl (lv_at hl 0 rfl) ?_
  refine lv_bipush (v := iI 125) hx hb d_15_159_284 (by decide) ?_
  obtain ⟨r42, F42, B42, hc42, hf⟩ := gbind hf
  refine va_callv (va_runV (As := [.int (iI 125)]) (rest := []) ⟨hx, hb, hml, hown, hts⟩ (c_M_put_0 (l := l) hc42) (cwV 1 hts (gdV k_12_199 k_12_201 ks_142 k_1_9 k_12_202) rfl rfl rfl (by decide +kernel) ⟨Nat.le_of_ble_eq_true rfl, Nat.le_of_ble_eq_true rfl⟩) (zPV X hZ hS (ci := 14) (by decide) (by decide) (r := (RX14, TX14, 107)) rfl [.int (iI 125)]) rfl rfl hl.1 rfl (lv_room (Nat.le_of_ble_eq_true rfl)) d_15_159_286 ⟨Nat.le_of_ble_eq_true rfl, Nat.le_of_ble_eq_true rfl⟩) hS (fun q _ h => zAin X hS q h) (zAin X hS) (fun u42 t42 H42 locs42 ht42 hv42 hw42 hB42 hz42 hk42 hS42 => ?_)
  have hZ42 := zBack X ht42 hB42
  refine lv_aload_n hx hb d_15_159_289 rfl (lv_at hl 0 rfl) ?_
  refine lv_bipush (v := iI 10) hx hb d_15_159_290 (by decide) ?_
  obtain ⟨r43, F43, B43, hc43, hf⟩ := gbind hf
  refine va_callv (va_runV (As := [.int (iI 10)]) (rest := []) ⟨hx, hb, hml, hown, hts⟩ (c_M_put_0 (l := l) hc43) (cwV 1 hts (gdV k_12_199 k_12_201 ks_142 k_1_9 k_12_202) rfl rfl rfl (by decide +kernel) ⟨Nat.le_of_ble_eq_true rfl, Nat.le_of_ble_eq_true rfl⟩) (zPV X hZ42 hS42 (ci := 14) (by decide) (by decide) (r := (RX14, TX14, 107)) rfl [.int (iI 10)]) rfl rfl hl.1 rfl (lv_room (Nat.le_of_ble_eq_true rfl)) d_15_159_292 ⟨Nat.le_of_ble_eq_true rfl, Nat.le_of_ble_eq_true rfl⟩) hS42 (fun q _ h => zAin X hS42 q h) (zAin X hS42) (fun u43 t43 H43 locs43 ht43 hv43 hw43 hB43 hz43 hk43 hS43 => ?_)
  have hZ43 := zBack X ht43 hB43
  cases hf
  exact W.vret hx hb hr (fun t ht hW => ⟨⟨(), rfl, trivial, by rw [ht]; exact hZ43, va_K.moved hW.alike hK⟩, hS43.F ht⟩) hS43.2.2 d_15_159_295 hlk

def f_M_downVoice_274 (rec239 : Int → Int → Int → zF → zB → zO) (K : Nat) (l6 : Int) (l5 : Int) (l1 : Int) (s1 : Int) (s2 : Int) (s3 : Int) (F : zF) (B : zB) : zO := zbind (f_M_downNote K s1 s2 s3 F B) (fun r41 F41 B41 => rec239 (l6 + 1) l5 l1 F41 B41)
set_option maxHeartbeats 4000000 in
set_option maxRecDepth 100000 in
theorem b_M_downVoice_274 {D : va_G} {ca : Nat → ClassId} {ad : Nat → Int → Nat → Nat} {L : List Nat} {aS vS : Nat → Nat} {A : Nat → Prop} {p : Program} {l : Launch} {e : Env} {s : State} {m : MethodId} {args : Array Value} {below : List Frame} {meth : Method} {c : Code} {K : Nat} {r : Int} {F9 : zF} {B9 : zB} (X : zX D ca L aS vS A p s m args meth c prog_15_method_159_code 7 (Option.none : Option Jvm.ClassFile.FieldType) "StaveHouseModel") {rec239 : Int → Int → Int → zF → zB → zO} (hrec239 : ∀ {l6 : Int} {l5 : Int} {l1 : Int} {F : zF} {B : zB} {H : Heap} {locs : List Loc} {ls : Array Slot}, rec239 l6 l5 l1 F B = some (r, F9, B9) → zH D ca ad lnM nM L F B A H → va_S A s.heap H locs → lv_has ls 7 [(6, .int (iI l6)), (5, .int (iI l5)), (0, .ref (ad 14 0 0)), (1, .int (iI l1))] → W p l e ({ frames := 9, cells := 0, slots := 0, locals := 305 } : Room) s m args below meth c H locs 0 0 (MQ below (Q_M_downVoice D ca ad L r F9 B9 A) args s 0 0 A) (F0 m 239 ls [])) {l6 : Int} {l5 : Int} {l1 : Int} {s1 : Int} {s2 : Int} {s3 : Int} {F : zF} {B : zB} {H : Heap} {locs : List Loc} {ls : Array Slot} (hf : f_M_downVoice_274 rec239 K l6 l5 l1 s1 s2 s3 F B = some (r, F9, B9)) (hZ : zH D ca ad lnM nM L F B A H) (hS : va_S A s.heap H locs) (hl : lv_has ls 7 [(6, .int (iI l6)), (5, .int (iI l5)), (0, .ref (ad 14 0 0)), (1, .int (iI l1))]) : W p l e ({ frames := 9, cells := 0, slots := 0, locals := 305 } : Room) s m args below meth c H locs 0 0 (MQ below (Q_M_downVoice D ca ad L r F9 B9 A) args s 0 0 A) (F0 m 274 ls [.int (iI s3), .int (iI s2), .int (iI s1), .ref (ad 14 0 0)]) := by
  obtain ⟨hx, hb, hr, hml, hown, hts, hlk, hK, hA, hL, hX⟩ := id X
  replace hf : (zbind (f_M_downNote K s1 s2 s3 F B) (fun r41 F41 B41 => rec239 (l6 + 1) l5 l1 F41 B41)) = some (r, F9, B9) := hf
  obtain ⟨r41, F41, B41, hc41, hf⟩ := gbind hf
  refine va_callv (va_runV (As := [.int (iI s1), .int (iI s2), .int (iI s3)]) (rest := []) ⟨hx, hb, hml, hown, hts⟩ (c_M_downNote (l := l) hc41) (cwV 3 hts (gdV k_13_195 k_13_197 ks_184 k_1_9 k_13_198) rfl rfl rfl (by decide +kernel) ⟨Nat.le_of_ble_eq_true rfl, Nat.le_of_ble_eq_true rfl⟩) (zPV X hZ hS (ci := 14) (by decide) (by decide) (r := (RX14, TX14, 107)) rfl [.int (iI s1), .int (iI s2), .int (iI s3)]) rfl rfl hl.1 rfl (lv_room (Nat.le_of_ble_eq_true rfl)) d_15_159_274 ⟨Nat.le_of_ble_eq_true rfl, Nat.le_of_ble_eq_true rfl⟩) hS (fun q _ h => zAin X hS q h) (zAin X hS) (fun u41 t41 H41 locs41 ht41 hv41 hw41 hB41 hz41 hk41 hS41 => ?_)
  have hZ41 := zBack X ht41 hB41
  refine lv_iinc (v := iI (l6 + 1)) (lv' := [(6, .int (iI (l6 + 1))), (5, .int (iI l5)), (0, .ref (ad 14 0 0)), (1, .int (iI l1))]) hx hb d_15_159_277 hl (k := 0) rfl (iI_add _ 1) (by decide) rfl (fun ls hl => ?_)
  refine lv_goto (tgt := 239) hx hb d_15_159_280 (by decide) ?_
  exact hrec239 hf hZ41 hS41 (lv_sub hl [0, 1, 2, 3] rfl)

def f_M_downVoice_239 (K : Nat) : Nat → Int → Int → Int → zF → zB → zO
  | 0, _, _, _, _, _ => none
  | n + 1, l6, l5, l1, F, B => if r32 l6 then if r32 l5 then (if l5 ≤ l6 then f_M_downVoice_283 K F B else if r32 (F 14 0 71) then (if 3000 < (F 14 0 71) then f_M_downVoice_283 K F B else if r32 (l6 + 1) then (if (l6 + 1) = l5 then f_M_downVoice_274 (f_M_downVoice_239 K n) K l6 l5 l1 l1 l6 1 F B else f_M_downVoice_274 (f_M_downVoice_239 K n) K l6 l5 l1 l1 l6 0 F B) else none) else none) else none else none
set_option maxHeartbeats 4000000 in
set_option maxRecDepth 100000 in
theorem b_M_downVoice_239 {D : va_G} {ca : Nat → ClassId} {ad : Nat → Int → Nat → Nat} {L : List Nat} {aS vS : Nat → Nat} {A : Nat → Prop} {p : Program} {l : Launch} {e : Env} {s : State} {m : MethodId} {args : Array Value} {below : List Frame} {meth : Method} {c : Code} {K : Nat} {r : Int} {F9 : zF} {B9 : zB} (X : zX D ca L aS vS A p s m args meth c prog_15_method_159_code 7 (Option.none : Option Jvm.ClassFile.FieldType) "StaveHouseModel") : ∀ {n : Nat} {l6 : Int} {l5 : Int} {l1 : Int} {F : zF} {B : zB} {H : Heap} {locs : List Loc} {ls : Array Slot}, f_M_downVoice_239 K n l6 l5 l1 F B = some (r, F9, B9) → zH D ca ad lnM nM L F B A H → va_S A s.heap H locs → lv_has ls 7 [(6, .int (iI l6)), (5, .int (iI l5)), (0, .ref (ad 14 0 0)), (1, .int (iI l1))] → W p l e ({ frames := 9, cells := 0, slots := 0, locals := 305 } : Room) s m args below meth c H locs 0 0 (MQ below (Q_M_downVoice D ca ad L r F9 B9 A) args s 0 0 A) (F0 m 239 ls []) := by
  obtain ⟨hx, hb, hr, hml, hown, hts, hlk, hK, hA, hL, hX⟩ := id X
  intro n
  induction n with
  | zero =>
    intros
    rename_i hf _ _ _
    cases hf
  | succ n ih =>
    intro l6 l5 l1 F B H locs ls hf hZ hS hl
    replace hf : (if r32 l6 then if r32 l5 then (if l5 ≤ l6 then f_M_downVoice_283 K F B else if r32 (F 14 0 71) then (if 3000 < (F 14 0 71) then f_M_downVoice_283 K F B else if r32 (l6 + 1) then (if (l6 + 1) = l5 then f_M_downVoice_274 (f_M_downVoice_239 K n) K l6 l5 l1 l1 l6 1 F B else f_M_downVoice_274 (f_M_downVoice_239 K n) K l6 l5 l1 l1 l6 0 F B) else none) else none) else none else none) = some (r, F9, B9) := hf
    refine lv_iload hx hb d_15_159_239 (lv_at hl 0 rfl) ?_
    refine lv_iload hx hb d_15_159_241 (lv_at hl 1 rfl) ?_
    obtain ⟨g34, hf⟩ := gif hf
    obtain ⟨g35, hf⟩ := gif hf
    refine zge (tgt := 283) hx hb g34 g35 d_15_159_243 (by decide) (fun h36 => ?_) (fun h36 => ?_)
    · replace hf := gpos hf h36
      exact b_M_downVoice_283 X hf hZ hS (lv_sub hl [2] rfl)
    · replace hf := gneg hf h36
      refine lv_aload_n hx hb d_15_159_246 rfl (lv_at hl 2 rfl) ?_
      refine zget (ci := 14) (C := RX14) (T := TX14) (v := .int (iI (F 14 0 71))) (k := 71) hx hb hts inW_14 hown hK hZ (by decide) (by decide) rfl (by decide) k_11_69 rfl d_15_159_247 ?_
      refine lv_sipush (v := iI 3000) hx hb d_15_159_250 (by decide) ?_
      obtain ⟨g37, hf⟩ := gif hf
      refine zgt (tgt := 283) hx hb g37 (by decide) d_15_159_253 (by decide) (fun h38 => ?_) (fun h38 => ?_)
      · replace hf := gpos hf h38
        exact b_M_downVoice_283 X hf hZ hS (lv_sub hl [2] rfl)
      · replace hf := gneg hf h38
        refine lv_aload_n hx hb d_15_159_256 rfl (lv_at hl 2 rfl) ?_
        refine lv_iload_n hx hb d_15_159_257 rfl (lv_at hl 3 rfl) ?_
        refine lv_iload hx hb d_15_159_258 (lv_at hl 0 rfl) ?_
        refine lv_iload hx hb d_15_159_260 (lv_at hl 0 rfl) ?_
        refine lv_iconst (v := iI 1) hx hb d_15_159_262 rfl ?_
        refine zadd hx hb d_15_159_263 ?_
        refine lv_iload hx hb d_15_159_264 (lv_at hl 1 rfl) ?_
        obtain ⟨g39, hf⟩ := gif hf
        refine zne (tgt := 273) hx hb g39 g35 d_15_159_266 (by decide) (fun h40 => ?_) (fun h40 => ?_)
        · replace hf := gneg hf h40
          refine lv_iconst (v := iI 0) hx hb d_15_159_273 rfl ?_
          exact b_M_downVoice_274 X ih hf hZ hS (lv_sub hl [0, 1, 2, 3] rfl)
        · replace hf := gpos hf h40
          refine lv_iconst (v := iI 1) hx hb d_15_159_269 rfl ?_
          refine lv_goto (tgt := 274) hx hb d_15_159_270 (by decide) ?_
          exact b_M_downVoice_274 X ih hf hZ hS (lv_sub hl [0, 1, 2, 3] rfl)

def f_M_downVoice_236 (K : Nat) (l5 : Int) (l1 : Int) (F : zF) (B : zB) : zO := f_M_downVoice_239 K K 0 l5 l1 F B
set_option maxHeartbeats 4000000 in
set_option maxRecDepth 100000 in
theorem b_M_downVoice_236 {D : va_G} {ca : Nat → ClassId} {ad : Nat → Int → Nat → Nat} {L : List Nat} {aS vS : Nat → Nat} {A : Nat → Prop} {p : Program} {l : Launch} {e : Env} {s : State} {m : MethodId} {args : Array Value} {below : List Frame} {meth : Method} {c : Code} {K : Nat} {r : Int} {F9 : zF} {B9 : zB} (X : zX D ca L aS vS A p s m args meth c prog_15_method_159_code 7 (Option.none : Option Jvm.ClassFile.FieldType) "StaveHouseModel") {l5 : Int} {l1 : Int} {F : zF} {B : zB} {H : Heap} {locs : List Loc} {ls : Array Slot} (hf : f_M_downVoice_236 K l5 l1 F B = some (r, F9, B9)) (hZ : zH D ca ad lnM nM L F B A H) (hS : va_S A s.heap H locs) (hl : lv_has ls 7 [(5, .int (iI l5)), (0, .ref (ad 14 0 0)), (1, .int (iI l1))]) : W p l e ({ frames := 9, cells := 0, slots := 0, locals := 305 } : Room) s m args below meth c H locs 0 0 (MQ below (Q_M_downVoice D ca ad L r F9 B9 A) args s 0 0 A) (F0 m 236 ls []) := by
  obtain ⟨hx, hb, hr, hml, hown, hts, hlk, hK, hA, hL, hX⟩ := id X
  replace hf : (f_M_downVoice_239 K K 0 l5 l1 F B) = some (r, F9, B9) := hf
  refine lv_iconst (v := iI 0) hx hb d_15_159_236 rfl ?_
  refine lv_istore (lv' := [(6, .int (iI 0)), (5, .int (iI l5)), (0, .ref (ad 14 0 0)), (1, .int (iI l1))]) hx hb d_15_159_237 hl (by decide) rfl (fun ls hl => ?_)
  exact b_M_downVoice_239 X hf hZ hS (lv_sub hl [0, 1, 2, 3] rfl)

def f_M_downVoice_209 (K : Nat) (l1 : Int) (F : zF) (B : zB) : zO := if 0 ≤ (F 14 0 6) ∧ (F 14 0 6) < 3 then zbind (f_M_notes K (F 14 0 6) l1 0 F B) (fun r30 F30 B30 => if r32 r30 then (if r30 ≤ 800 then f_M_downVoice_236 K r30 l1 F30 B30 else f_M_downVoice_236 K r30 l1 (zup3 F30 14 0 71 3001) B30) else none) else none
set_option maxHeartbeats 4000000 in
set_option maxRecDepth 100000 in
theorem b_M_downVoice_209 {D : va_G} {ca : Nat → ClassId} {ad : Nat → Int → Nat → Nat} {L : List Nat} {aS vS : Nat → Nat} {A : Nat → Prop} {p : Program} {l : Launch} {e : Env} {s : State} {m : MethodId} {args : Array Value} {below : List Frame} {meth : Method} {c : Code} {K : Nat} {r : Int} {F9 : zF} {B9 : zB} (X : zX D ca L aS vS A p s m args meth c prog_15_method_159_code 7 (Option.none : Option Jvm.ClassFile.FieldType) "StaveHouseModel") {l1 : Int} {F : zF} {B : zB} {H : Heap} {locs : List Loc} {ls : Array Slot} (hf : f_M_downVoice_209 K l1 F B = some (r, F9, B9)) (hZ : zH D ca ad lnM nM L F B A H) (hS : va_S A s.heap H locs) (hl : lv_has ls 7 [(0, .ref (ad 14 0 0)), (1, .int (iI l1))]) : W p l e ({ frames := 9, cells := 0, slots := 0, locals := 305 } : Room) s m args below meth c H locs 0 0 (MQ below (Q_M_downVoice D ca ad L r F9 B9 A) args s 0 0 A) (F0 m 209 ls []) := by
  obtain ⟨hx, hb, hr, hml, hown, hts, hlk, hK, hA, hL, hX⟩ := id X
  replace hf : (if 0 ≤ (F 14 0 6) ∧ (F 14 0 6) < 3 then zbind (f_M_notes K (F 14 0 6) l1 0 F B) (fun r30 F30 B30 => if r32 r30 then (if r30 ≤ 800 then f_M_downVoice_236 K r30 l1 F30 B30 else f_M_downVoice_236 K r30 l1 (zup3 F30 14 0 71 3001) B30) else none) else none) = some (r, F9, B9) := hf
  refine lv_aload_n hx hb d_15_159_209 rfl (lv_at hl 0 rfl) ?_
  refine lv_aload_n hx hb d_15_159_210 rfl (lv_at hl 0 rfl) ?_
  refine zget (ci := 14) (C := RX14) (T := TX14) (v := va_rf (zrf ad 13 (F 14 0 6))) (k := 6) hx hb hts inW_14 hown hK hZ (by decide) (by decide) rfl (by decide) k_11_4 rfl d_15_159_211 ?_
  refine lv_iload_n hx hb d_15_159_214 rfl (lv_at hl 1 rfl) ?_
  refine lv_iconst (v := iI 0) hx hb d_15_159_215 rfl ?_
  obtain ⟨g29, hf⟩ := gif hf
  refine W.eq (g2 := F0 m 216 ls [.int (iI 0), .int (iI l1), .ref (ad 13 (F 14 0 6) 0), .ref (ad 14 0 0)]) (by rw [zrf_pos (ad := ad) (t := 13) g29.1]; try rfl) ?_
  obtain ⟨r30, F30, B30, hc30, hf⟩ := gbind hf
  refine va_calli (va_runV (As := [.ref (ad 13 (F 14 0 6) 0), .int (iI l1), .int (iI 0)]) (rest := []) ⟨hx, hb, hml, hown, hts⟩ (c_M_notes (l := l) hc30) (cwV 3 hts (gdV k_13_136 k_13_138 ks_175 k_1_9 k_13_139) rfl rfl rfl (by decide +kernel) ⟨Nat.le_of_ble_eq_true rfl, Nat.le_of_ble_eq_true rfl⟩) (zPV X hZ hS (ci := 14) (by decide) (by decide) (r := (RX14, TX14, 107)) rfl [.ref (ad 13 (F 14 0 6) 0), .int (iI l1), .int (iI 0)]) rfl rfl hl.1 rfl (lv_room (Nat.le_of_ble_eq_true rfl)) d_15_159_216 ⟨Nat.le_of_ble_eq_true rfl, Nat.le_of_ble_eq_true rfl⟩) hS (fun q _ h => zAin X hS q h) (zAin X hS) (fun p30 u30 t30 H30 locs30 ht30 hv30 hw30 hB30 hz30 hk30 hS30 => ?_)
  have hZ30 := zBack X ht30 hB30
  subst hw30
  refine lv_istore (lv' := [(5, .int (iI r30)), (0, .ref (ad 14 0 0)), (1, .int (iI l1))]) hx hb d_15_159_219 hl (by decide) rfl (fun ls hl => ?_)
  refine lv_iload hx hb d_15_159_221 (lv_at hl 0 rfl) ?_
  refine lv_sipush (v := iI 800) hx hb d_15_159_223 (by decide) ?_
  obtain ⟨g31, hf⟩ := gif hf
  refine zle (tgt := 236) hx hb g31 (by decide) d_15_159_226 (by decide) (fun h32 => ?_) (fun h32 => ?_)
  · replace hf := gpos hf h32
    exact b_M_downVoice_236 X hf hZ30 hS30 (lv_sub hl [0, 1, 2] rfl)
  · replace hf := gneg hf h32
    refine lv_aload_n hx hb d_15_159_229 rfl (lv_at hl 1 rfl) ?_
    refine lv_sipush (v := iI 3001) hx hb d_15_159_230 (by decide) ?_
    refine zput (ci := 14) (C := RX14) (T := TX14) (k := 71) (v := 3001) (w := .int (iI 3001)) hx hb hts inW_14 tyX14 tyX14_ok nmX14 hown hK hZ30 hS30 (by decide) (by decide) rfl (by decide) k_11_69 rfl (fun G h => congrArg (fun q => Value.int (iI q)) h) rfl rfl d_15_159_233 (fun H33 locs33 hZ33 hS33 => ?_)
    exact b_M_downVoice_236 X hf hZ33 hS33 (lv_sub hl [0, 1, 2] rfl)

def f_M_downVoice_37 (K : Nat) (l1 : Int) (l2 : Int) (l4 : Int) (s1 : Nat) (F : zF) (B : zB) : zO := zbind (f_M_put_1 K s1 F B) (fun r7 F7 B7 => if 0 ≤ (F7 14 0 6) ∧ (F7 14 0 6) < 3 then if 0 ≤ l1 ∧ l1 < 4 then zbind (f_M_digits K (B7 13 (F7 14 0 6) 9 l1) F7 B7) (fun r10 F10 B10 => zbind (f_M_put_1 K 46 F10 B10) (fun r11 F11 B11 => zbind (f_M_put_0 K 10 F11 B11) (fun r12 F12 B12 => if 0 ≤ (F12 14 0 6) ∧ (F12 14 0 6) < 3 then zbind (f_M_places K (F12 14 0 6) l1 F12 B12) (fun r14 F14 B14 => if r32 l4 then zbind (f_M_compare K (F14 14 0 0) (F14 14 0 1) l2 l4 F14 B14) (fun r16 F16 B16 => if r32 r16 then (if 0 ≤ r16 then f_M_downVoice_209 K l1 F16 B16 else zbind (f_M_minus K l2 l4 (F16 14 0 0) (F16 14 0 1) F16 B16) (fun r19 F19 B19 => if 0 ≤ (F19 14 0 6) ∧ (F19 14 0 6) < 3 then if 0 ≤ ((1000 * l1) + (B19 13 (F19 14 0 6) 12 l1)) ∧ ((1000 * l1) + (B19 13 (F19 14 0 6) 12 l1)) < 4000 then zbind (f_M_places K (F19 14 0 6) l1 F19 (zup4 (zup4 (zup4 (zup4 (zup4 (zup4 B19 13 (F19 14 0 6) 12 l1 ((B19 13 (F19 14 0 6) 12 l1) + 1)) 13 (F19 14 0 6) 16 ((1000 * l1) + (B19 13 (F19 14 0 6) 12 l1)) (F19 14 0 0)) 13 (F19 14 0 6) 17 ((1000 * l1) + (B19 13 (F19 14 0 6) 12 l1)) (F19 14 0 1)) 13 (F19 14 0 6) 18 ((1000 * l1) + (B19 13 (F19 14 0 6) 12 l1)) 0) 13 (F19 14 0 6) 22 ((1000 * l1) + (B19 13 (F19 14 0 6) 12 l1)) 0) 13 (F19 14 0 6) 21 ((1000 * l1) + (B19 13 (F19 14 0 6) 12 l1)) 0)) (fun r28 F28 B28 => f_M_downVoice_209 K l1 F28 B28) else none else none)) else none) else none) else none))) else none else none)
set_option maxHeartbeats 4000000 in
set_option maxRecDepth 100000 in
theorem b_M_downVoice_37 {D : va_G} {ca : Nat → ClassId} {ad : Nat → Int → Nat → Nat} {L : List Nat} {aS vS : Nat → Nat} {A : Nat → Prop} {p : Program} {l : Launch} {e : Env} {s : State} {m : MethodId} {args : Array Value} {below : List Frame} {meth : Method} {c : Code} {K : Nat} {r : Int} {F9 : zF} {B9 : zB} (X : zX D ca L aS vS A p s m args meth c prog_15_method_159_code 7 (Option.none : Option Jvm.ClassFile.FieldType) "StaveHouseModel") {l1 : Int} {l2 : Int} {l4 : Int} {s1 : Nat} {F : zF} {B : zB} {H : Heap} {locs : List Loc} {ls : Array Slot} (hf : f_M_downVoice_37 K l1 l2 l4 s1 F B = some (r, F9, B9)) (hZ : zH D ca ad lnM nM L F B A H) (hS : va_S A s.heap H locs) (hl : lv_has ls 7 [(0, .ref (ad 14 0 0)), (1, .int (iI l1)), (2, .long (lI l2)), (4, .int (iI l4))]) : W p l e ({ frames := 9, cells := 0, slots := 0, locals := 305 } : Room) s m args below meth c H locs 0 0 (MQ below (Q_M_downVoice D ca ad L r F9 B9 A) args s 0 0 A) (F0 m 37 ls [.ref (aS s1), .ref (ad 14 0 0)]) := by
  obtain ⟨hx, hb, hr, hml, hown, hts, hlk, hK, hA, hL, hX⟩ := id X
  replace hf : (zbind (f_M_put_1 K s1 F B) (fun r7 F7 B7 => if 0 ≤ (F7 14 0 6) ∧ (F7 14 0 6) < 3 then if 0 ≤ l1 ∧ l1 < 4 then zbind (f_M_digits K (B7 13 (F7 14 0 6) 9 l1) F7 B7) (fun r10 F10 B10 => zbind (f_M_put_1 K 46 F10 B10) (fun r11 F11 B11 => zbind (f_M_put_0 K 10 F11 B11) (fun r12 F12 B12 => if 0 ≤ (F12 14 0 6) ∧ (F12 14 0 6) < 3 then zbind (f_M_places K (F12 14 0 6) l1 F12 B12) (fun r14 F14 B14 => if r32 l4 then zbind (f_M_compare K (F14 14 0 0) (F14 14 0 1) l2 l4 F14 B14) (fun r16 F16 B16 => if r32 r16 then (if 0 ≤ r16 then f_M_downVoice_209 K l1 F16 B16 else zbind (f_M_minus K l2 l4 (F16 14 0 0) (F16 14 0 1) F16 B16) (fun r19 F19 B19 => if 0 ≤ (F19 14 0 6) ∧ (F19 14 0 6) < 3 then if 0 ≤ ((1000 * l1) + (B19 13 (F19 14 0 6) 12 l1)) ∧ ((1000 * l1) + (B19 13 (F19 14 0 6) 12 l1)) < 4000 then zbind (f_M_places K (F19 14 0 6) l1 F19 (zup4 (zup4 (zup4 (zup4 (zup4 (zup4 B19 13 (F19 14 0 6) 12 l1 ((B19 13 (F19 14 0 6) 12 l1) + 1)) 13 (F19 14 0 6) 16 ((1000 * l1) + (B19 13 (F19 14 0 6) 12 l1)) (F19 14 0 0)) 13 (F19 14 0 6) 17 ((1000 * l1) + (B19 13 (F19 14 0 6) 12 l1)) (F19 14 0 1)) 13 (F19 14 0 6) 18 ((1000 * l1) + (B19 13 (F19 14 0 6) 12 l1)) 0) 13 (F19 14 0 6) 22 ((1000 * l1) + (B19 13 (F19 14 0 6) 12 l1)) 0) 13 (F19 14 0 6) 21 ((1000 * l1) + (B19 13 (F19 14 0 6) 12 l1)) 0)) (fun r28 F28 B28 => f_M_downVoice_209 K l1 F28 B28) else none else none)) else none) else none) else none))) else none else none)) = some (r, F9, B9) := hf
  obtain ⟨r7, F7, B7, hc7, hf⟩ := gbind hf
  refine va_callv (va_runV (As := [.ref (aS s1)]) (rest := []) ⟨hx, hb, hml, hown, hts⟩ (c_M_put_1 (l := l) hc7) (cwV 1 hts (gdV k_12_195 k_12_197 ks_141 k_1_9 k_12_198) rfl rfl rfl (by decide +kernel) ⟨Nat.le_of_ble_eq_true rfl, Nat.le_of_ble_eq_true rfl⟩) (zPV X hZ hS (ci := 14) (by decide) (by decide) (r := (RX14, TX14, 107)) rfl [.ref (aS s1)]) rfl rfl hl.1 rfl (lv_room (Nat.le_of_ble_eq_true rfl)) d_15_159_37 ⟨Nat.le_of_ble_eq_true rfl, Nat.le_of_ble_eq_true rfl⟩) hS (fun q _ h => zAin X hS q h) (zAin X hS) (fun u7 t7 H7 locs7 ht7 hv7 hw7 hB7 hz7 hk7 hS7 => ?_)
  have hZ7 := zBack X ht7 hB7
  refine lv_aload_n hx hb d_15_159_40 rfl (lv_at hl 0 rfl) ?_
  refine lv_aload_n hx hb d_15_159_41 rfl (lv_at hl 0 rfl) ?_
  refine zget (ci := 14) (C := RX14) (T := TX14) (v := va_rf (zrf ad 13 (F7 14 0 6))) (k := 6) hx hb hts inW_14 hown hK hZ7 (by decide) (by decide) rfl (by decide) k_11_4 rfl d_15_159_42 ?_
  obtain ⟨g8, hf⟩ := gif hf
  refine zunrf g8.1 ?_
  refine zget (ci := 13) (C := RX13) (T := TX13) (v := .ref (ad 13 (F7 14 0 6) (9 + 1))) (k := 9) hx hb hts inW_13 hown hK hZ7 g8.1 g8.2 rfl (by decide) k_9_136 rfl d_15_159_45 ?_
  refine lv_iload_n hx hb d_15_159_48 rfl (lv_at hl 1 rfl) ?_
  obtain ⟨g9, hf⟩ := gif hf
  refine zald (ci := 13) (k := 9) hx hb hK rfl hZ7 g8.1 g8.2 rfl (Nat.le_of_ble_eq_true rfl) g9.1 g9.2 d_15_159_49 ?_
  obtain ⟨r10, F10, B10, hc10, hf⟩ := gbind hf
  refine va_callv (va_runV (As := [.int (iI (B7 13 (F7 14 0 6) 9 l1))]) (rest := []) ⟨hx, hb, hml, hown, hts⟩ (c_M_digits (l := l) hc10) (cwV 1 hts (gdV k_13_112 k_13_114 ks_171 k_1_9 k_13_115) rfl rfl rfl (by decide +kernel) ⟨Nat.le_of_ble_eq_true rfl, Nat.le_of_ble_eq_true rfl⟩) (zPV X hZ7 hS7 (ci := 14) (by decide) (by decide) (r := (RX14, TX14, 107)) rfl [.int (iI (B7 13 (F7 14 0 6) 9 l1))]) rfl rfl hl.1 rfl (lv_room (Nat.le_of_ble_eq_true rfl)) d_15_159_50 ⟨Nat.le_of_ble_eq_true rfl, Nat.le_of_ble_eq_true rfl⟩) hS7 (fun q _ h => zAin X hS7 q h) (zAin X hS7) (fun u10 t10 H10 locs10 ht10 hv10 hw10 hB10 hz10 hk10 hS10 => ?_)
  have hZ10 := zBack X ht10 hB10
  refine lv_aload_n hx hb d_15_159_53 rfl (lv_at hl 0 rfl) ?_
  refine gldcwS hx hb hown (hX.2.2.2.2.1 46 _ rfl).1 d_15_159_54 ?_
  obtain ⟨r11, F11, B11, hc11, hf⟩ := gbind hf
  refine va_callv (va_runV (As := [.ref (aS 46)]) (rest := []) ⟨hx, hb, hml, hown, hts⟩ (c_M_put_1 (l := l) hc11) (cwV 1 hts (gdV k_12_195 k_12_197 ks_141 k_1_9 k_12_198) rfl rfl rfl (by decide +kernel) ⟨Nat.le_of_ble_eq_true rfl, Nat.le_of_ble_eq_true rfl⟩) (zPV X hZ10 hS10 (ci := 14) (by decide) (by decide) (r := (RX14, TX14, 107)) rfl [.ref (aS 46)]) rfl rfl hl.1 rfl (lv_room (Nat.le_of_ble_eq_true rfl)) d_15_159_57 ⟨Nat.le_of_ble_eq_true rfl, Nat.le_of_ble_eq_true rfl⟩) hS10 (fun q _ h => zAin X hS10 q h) (zAin X hS10) (fun u11 t11 H11 locs11 ht11 hv11 hw11 hB11 hz11 hk11 hS11 => ?_)
  have hZ11 := zBack X ht11 hB11
  refine lv_aload_n hx hb d_15_159_60 rfl (lv_at hl 0 rfl) ?_
  refine lv_bipush (v := iI 10) hx hb d_15_159_61 (by decide) ?_
  obtain ⟨r12, F12, B12, hc12, hf⟩ := gbind hf
  refine va_callv (va_runV (As := [.int (iI 10)]) (rest := []) ⟨hx, hb, hml, hown, hts⟩ (c_M_put_0 (l := l) hc12) (cwV 1 hts (gdV k_12_199 k_12_201 ks_142 k_1_9 k_12_202) rfl rfl rfl (by decide +kernel) ⟨Nat.le_of_ble_eq_true rfl, Nat.le_of_ble_eq_true rfl⟩) (zPV X hZ11 hS11 (ci := 14) (by decide) (by decide) (r := (RX14, TX14, 107)) rfl [.int (iI 10)]) rfl rfl hl.1 rfl (lv_room (Nat.le_of_ble_eq_true rfl)) d_15_159_63 ⟨Nat.le_of_ble_eq_true rfl, Nat.le_of_ble_eq_true rfl⟩) hS11 (fun q _ h => zAin X hS11 q h) (zAin X hS11) (fun u12 t12 H12 locs12 ht12 hv12 hw12 hB12 hz12 hk12 hS12 => ?_)
  have hZ12 := zBack X ht12 hB12
  refine lv_aload_n hx hb d_15_159_66 rfl (lv_at hl 0 rfl) ?_
  refine lv_aload_n hx hb d_15_159_67 rfl (lv_at hl 0 rfl) ?_
  refine zget (ci := 14) (C := RX14) (T := TX14) (v := va_rf (zrf ad 13 (F12 14 0 6))) (k := 6) hx hb hts inW_14 hown hK hZ12 (by decide) (by decide) rfl (by decide) k_11_4 rfl d_15_159_68 ?_
  refine lv_iload_n hx hb d_15_159_71 rfl (lv_at hl 1 rfl) ?_
  obtain ⟨g13, hf⟩ := gif hf
  refine W.eq (g2 := F0 m 72 ls [.int (iI l1), .ref (ad 13 (F12 14 0 6) 0), .ref (ad 14 0 0)]) (by rw [zrf_pos (ad := ad) (t := 13) g13.1]; try rfl) ?_
  obtain ⟨r14, F14, B14, hc14, hf⟩ := gbind hf
  refine va_callv (va_runV (As := [.ref (ad 13 (F12 14 0 6) 0), .int (iI l1)]) (rest := []) ⟨hx, hb, hml, hown, hts⟩ (c_M_places (l := l) hc14) (cwV 2 hts (gdV k_13_128 k_13_130 ks_173 k_1_9 k_13_131) rfl rfl rfl (by decide +kernel) ⟨Nat.le_of_ble_eq_true rfl, Nat.le_of_ble_eq_true rfl⟩) (zPV X hZ12 hS12 (ci := 14) (by decide) (by decide) (r := (RX14, TX14, 107)) rfl [.ref (ad 13 (F12 14 0 6) 0), .int (iI l1)]) rfl rfl hl.1 rfl (lv_room (Nat.le_of_ble_eq_true rfl)) d_15_159_72 ⟨Nat.le_of_ble_eq_true rfl, Nat.le_of_ble_eq_true rfl⟩) hS12 (fun q _ h => zAin X hS12 q h) (zAin X hS12) (fun u14 t14 H14 locs14 ht14 hv14 hw14 hB14 hz14 hk14 hS14 => ?_)
  have hZ14 := zBack X ht14 hB14
  refine lv_aload_n hx hb d_15_159_75 rfl (lv_at hl 0 rfl) ?_
  refine zget (ci := 14) (C := RX14) (T := TX14) (v := .long (lI (F14 14 0 0))) (k := 0) hx hb hts inW_14 hown hK hZ14 (by decide) (by decide) rfl (by decide) k_10_238 rfl d_15_159_76 ?_
  refine lv_aload_n hx hb d_15_159_79 rfl (lv_at hl 0 rfl) ?_
  refine zget (ci := 14) (C := RX14) (T := TX14) (v := .long (lI (F14 14 0 1))) (k := 1) hx hb hts inW_14 hown hK hZ14 (by decide) (by decide) rfl (by decide) k_10_239 rfl d_15_159_80 ?_
  refine lv_lload_n hx hb d_15_159_83 rfl (lv_at hl 2 rfl) ?_
  refine lv_iload hx hb d_15_159_84 (lv_at hl 3 rfl) ?_
  obtain ⟨g15, hf⟩ := gif hf
  refine zi2l hx hb g15 d_15_159_86 ?_
  obtain ⟨r16, F16, B16, hc16, hf⟩ := gbind hf
  refine va_calli (va_runS (As := [.long (lI (F14 14 0 0)), .long (lI (F14 14 0 1)), .long (lI l2), .long (lI l4)]) (rest := []) ⟨hx, hb, hml, hown, hts⟩ (c_M_compare (l := l) hc16) (va_cwS 4 hts (gdS k_13_104 k_13_105 k_1_9 k_13_106) rfl rfl rfl (by decide +kernel) ⟨Nat.le_of_ble_eq_true rfl, Nat.le_of_ble_eq_true rfl⟩) (zPS X hZ14 hS14 [.long (lI (F14 14 0 0)), .long (lI (F14 14 0 1)), .long (lI l2), .long (lI l4)]) rfl rfl hl.1 rfl (lv_room (Nat.le_of_ble_eq_true rfl)) d_15_159_87 ⟨Nat.le_of_ble_eq_true rfl, Nat.le_of_ble_eq_true rfl⟩) hS14 (fun q _ h => zAin X hS14 q h) (zAin X hS14) (fun p16 u16 t16 H16 locs16 ht16 hv16 hw16 hB16 hz16 hk16 hS16 => ?_)
  have hZ16 := zBack X ht16 hB16
  subst hw16
  obtain ⟨g17, hf⟩ := gif hf
  refine z0ge (tgt := 209) hx hb g17 d_15_159_90 (by decide) (fun h18 => ?_) (fun h18 => ?_)
  · replace hf := gpos hf h18
    exact b_M_downVoice_209 X hf hZ16 hS16 (lv_sub hl [0, 1] rfl)
  · replace hf := gneg hf h18
    refine lv_aload_n hx hb d_15_159_93 rfl (lv_at hl 0 rfl) ?_
    refine lv_lload_n hx hb d_15_159_94 rfl (lv_at hl 2 rfl) ?_
    refine lv_iload hx hb d_15_159_95 (lv_at hl 3 rfl) ?_
    refine zi2l hx hb g15 d_15_159_97 ?_
    refine lv_aload_n hx hb d_15_159_98 rfl (lv_at hl 0 rfl) ?_
    refine zget (ci := 14) (C := RX14) (T := TX14) (v := .long (lI (F16 14 0 0))) (k := 0) hx hb hts inW_14 hown hK hZ16 (by decide) (by decide) rfl (by decide) k_10_238 rfl d_15_159_99 ?_
    refine lv_aload_n hx hb d_15_159_102 rfl (lv_at hl 0 rfl) ?_
    refine zget (ci := 14) (C := RX14) (T := TX14) (v := .long (lI (F16 14 0 1))) (k := 1) hx hb hts inW_14 hown hK hZ16 (by decide) (by decide) rfl (by decide) k_10_239 rfl d_15_159_103 ?_
    obtain ⟨r19, F19, B19, hc19, hf⟩ := gbind hf
    refine va_callv (va_runV (As := [.long (lI l2), .long (lI l4), .long (lI (F16 14 0 0)), .long (lI (F16 14 0 1))]) (rest := []) ⟨hx, hb, hml, hown, hts⟩ (c_M_minus (l := l) hc19) (cwV 4 hts (gdV k_13_132 k_13_134 ks_174 k_1_9 k_13_135) rfl rfl rfl (by decide +kernel) ⟨Nat.le_of_ble_eq_true rfl, Nat.le_of_ble_eq_true rfl⟩) (zPV X hZ16 hS16 (ci := 14) (by decide) (by decide) (r := (RX14, TX14, 107)) rfl [.long (lI l2), .long (lI l4), .long (lI (F16 14 0 0)), .long (lI (F16 14 0 1))]) rfl rfl hl.1 rfl (lv_room (Nat.le_of_ble_eq_true rfl)) d_15_159_106 ⟨Nat.le_of_ble_eq_true rfl, Nat.le_of_ble_eq_true rfl⟩) hS16 (fun q _ h => zAin X hS16 q h) (zAin X hS16) (fun u19 t19 H19 locs19 ht19 hv19 hw19 hB19 hz19 hk19 hS19 => ?_)
    have hZ19 := zBack X ht19 hB19
    refine lv_sipush (v := iI 1000) hx hb d_15_159_109 (by decide) ?_
    refine lv_iload_n hx hb d_15_159_112 rfl (lv_at hl 1 rfl) ?_
    refine zmul hx hb d_15_159_113 ?_
    refine lv_aload_n hx hb d_15_159_114 rfl (lv_at hl 0 rfl) ?_
    refine zget (ci := 14) (C := RX14) (T := TX14) (v := va_rf (zrf ad 13 (F19 14 0 6))) (k := 6) hx hb hts inW_14 hown hK hZ19 (by decide) (by decide) rfl (by decide) k_11_4 rfl d_15_159_115 ?_
    obtain ⟨g20, hf⟩ := gif hf
    refine zunrf g20.1 ?_
    refine zget (ci := 13) (C := RX13) (T := TX13) (v := .ref (ad 13 (F19 14 0 6) (12 + 1))) (k := 12) hx hb hts inW_13 hown hK hZ19 g20.1 g20.2 rfl (by decide) k_9_142 rfl d_15_159_118 ?_
    refine lv_iload_n hx hb d_15_159_121 rfl (lv_at hl 1 rfl) ?_
    refine zald (ci := 13) (k := 12) hx hb hK rfl hZ19 g20.1 g20.2 rfl (Nat.le_of_ble_eq_true rfl) g9.1 g9.2 d_15_159_122 ?_
    refine zadd hx hb d_15_159_123 ?_
    refine lv_istore (lv' := [(5, .int (iI ((1000 * l1) + (B19 13 (F19 14 0 6) 12 l1)))), (0, .ref (ad 14 0 0)), (1, .int (iI l1)), (2, .long (lI l2)), (4, .int (iI l4))]) hx hb d_15_159_124 hl (by decide) rfl (fun ls hl => ?_)
    refine lv_aload_n hx hb d_15_159_126 rfl (lv_at hl 1 rfl) ?_
    refine zget (ci := 14) (C := RX14) (T := TX14) (v := va_rf (zrf ad 13 (F19 14 0 6))) (k := 6) hx hb hts inW_14 hown hK hZ19 (by decide) (by decide) rfl (by decide) k_11_4 rfl d_15_159_127 ?_
    refine zunrf g20.1 ?_
    refine zget (ci := 13) (C := RX13) (T := TX13) (v := .ref (ad 13 (F19 14 0 6) (12 + 1))) (k := 12) hx hb hts inW_13 hown hK hZ19 g20.1 g20.2 rfl (by decide) k_9_142 rfl d_15_159_130 ?_
    refine lv_iload_n hx hb d_15_159_133 rfl (lv_at hl 2 rfl) ?_
    refine lv_dup2_11 hx hb d_15_159_134 rfl rfl ?_
    refine zald (ci := 13) (k := 12) hx hb hK rfl hZ19 g20.1 g20.2 rfl (Nat.le_of_ble_eq_true rfl) g9.1 g9.2 d_15_159_135 ?_
    refine lv_iconst (v := iI 1) hx hb d_15_159_136 rfl ?_
    refine zadd hx hb d_15_159_137 ?_
    refine zast (ci := 13) (k := 12) hx hb hK rfl hZ19 hS19 g20.1 g20.2 rfl (Nat.le_of_ble_eq_true rfl) g9.1 g9.2 d_15_159_138 (fun H21 locs21 hZ21 hS21 => ?_)
    refine lv_aload_n hx hb d_15_159_139 rfl (lv_at hl 1 rfl) ?_
    refine zget (ci := 14) (C := RX14) (T := TX14) (v := va_rf (zrf ad 13 (F19 14 0 6))) (k := 6) hx hb hts inW_14 hown hK hZ21 (by decide) (by decide) rfl (by decide) k_11_4 rfl d_15_159_140 ?_
    refine zunrf g20.1 ?_
    refine zget (ci := 13) (C := RX13) (T := TX13) (v := .ref (ad 13 (F19 14 0 6) (16 + 1))) (k := 16) hx hb hts inW_13 hown hK hZ21 g20.1 g20.2 rfl (by decide) k_9_150 rfl d_15_159_143 ?_
    refine lv_iload hx hb d_15_159_146 (lv_at hl 0 rfl) ?_
    refine lv_aload_n hx hb d_15_159_148 rfl (lv_at hl 1 rfl) ?_
    refine zget (ci := 14) (C := RX14) (T := TX14) (v := .long (lI (F19 14 0 0))) (k := 0) hx hb hts inW_14 hown hK hZ21 (by decide) (by decide) rfl (by decide) k_10_238 rfl d_15_159_149 ?_
    obtain ⟨g22, hf⟩ := gif hf
    refine zlast (ci := 13) (k := 16) hx hb hK rfl hZ21 hS21 g20.1 g20.2 rfl (Nat.le_of_ble_eq_true rfl) g22.1 g22.2 d_15_159_152 (fun H23 locs23 hZ23 hS23 => ?_)
    refine lv_aload_n hx hb d_15_159_153 rfl (lv_at hl 1 rfl) ?_
    refine zget (ci := 14) (C := RX14) (T := TX14) (v := va_rf (zrf ad 13 (F19 14 0 6))) (k := 6) hx hb hts inW_14 hown hK hZ23 (by decide) (by decide) rfl (by decide) k_11_4 rfl d_15_159_154 ?_
    refine zunrf g20.1 ?_
    refine zget (ci := 13) (C := RX13) (T := TX13) (v := .ref (ad 13 (F19 14 0 6) (17 + 1))) (k := 17) hx hb hts inW_13 hown hK hZ23 g20.1 g20.2 rfl (by decide) k_9_152 rfl d_15_159_157 ?_
    refine lv_iload hx hb d_15_159_160 (lv_at hl 0 rfl) ?_
    refine lv_aload_n hx hb d_15_159_162 rfl (lv_at hl 1 rfl) ?_
    refine zget (ci := 14) (C := RX14) (T := TX14) (v := .long (lI (F19 14 0 1))) (k := 1) hx hb hts inW_14 hown hK hZ23 (by decide) (by decide) rfl (by decide) k_10_239 rfl d_15_159_163 ?_
    refine zlast (ci := 13) (k := 17) hx hb hK rfl hZ23 hS23 g20.1 g20.2 rfl (Nat.le_of_ble_eq_true rfl) g22.1 g22.2 d_15_159_166 (fun H24 locs24 hZ24 hS24 => ?_)
    refine lv_aload_n hx hb d_15_159_167 rfl (lv_at hl 1 rfl) ?_
    refine zget (ci := 14) (C := RX14) (T := TX14) (v := va_rf (zrf ad 13 (F19 14 0 6))) (k := 6) hx hb hts inW_14 hown hK hZ24 (by decide) (by decide) rfl (by decide) k_11_4 rfl d_15_159_168 ?_
    refine zunrf g20.1 ?_
    refine zget (ci := 13) (C := RX13) (T := TX13) (v := .ref (ad 13 (F19 14 0 6) (18 + 1))) (k := 18) hx hb hts inW_13 hown hK hZ24 g20.1 g20.2 rfl (by decide) k_9_154 rfl d_15_159_171 ?_
    refine lv_iload hx hb d_15_159_174 (lv_at hl 0 rfl) ?_
    refine lv_iconst (v := iI 0) hx hb d_15_159_176 rfl ?_
    refine zast (ci := 13) (k := 18) hx hb hK rfl hZ24 hS24 g20.1 g20.2 rfl (Nat.le_of_ble_eq_true rfl) g22.1 g22.2 d_15_159_177 (fun H25 locs25 hZ25 hS25 => ?_)
    refine lv_aload_n hx hb d_15_159_178 rfl (lv_at hl 1 rfl) ?_
    refine zget (ci := 14) (C := RX14) (T := TX14) (v := va_rf (zrf ad 13 (F19 14 0 6))) (k := 6) hx hb hts inW_14 hown hK hZ25 (by decide) (by decide) rfl (by decide) k_11_4 rfl d_15_159_179 ?_
    refine zunrf g20.1 ?_
    refine zget (ci := 13) (C := RX13) (T := TX13) (v := .ref (ad 13 (F19 14 0 6) (22 + 1))) (k := 22) hx hb hts inW_13 hown hK hZ25 g20.1 g20.2 rfl (by decide) k_9_162 rfl d_15_159_182 ?_
    refine lv_iload hx hb d_15_159_185 (lv_at hl 0 rfl) ?_
    refine lv_iconst (v := iI 0) hx hb d_15_159_187 rfl ?_
    refine zast (ci := 13) (k := 22) hx hb hK rfl hZ25 hS25 g20.1 g20.2 rfl (Nat.le_of_ble_eq_true rfl) g22.1 g22.2 d_15_159_188 (fun H26 locs26 hZ26 hS26 => ?_)
    refine lv_aload_n hx hb d_15_159_189 rfl (lv_at hl 1 rfl) ?_
    refine zget (ci := 14) (C := RX14) (T := TX14) (v := va_rf (zrf ad 13 (F19 14 0 6))) (k := 6) hx hb hts inW_14 hown hK hZ26 (by decide) (by decide) rfl (by decide) k_11_4 rfl d_15_159_190 ?_
    refine zunrf g20.1 ?_
    refine zget (ci := 13) (C := RX13) (T := TX13) (v := .ref (ad 13 (F19 14 0 6) (21 + 1))) (k := 21) hx hb hts inW_13 hown hK hZ26 g20.1 g20.2 rfl (by decide) k_9_160 rfl d_15_159_193 ?_
    refine lv_iload hx hb d_15_159_196 (lv_at hl 0 rfl) ?_
    refine lv_iconst (v := iI 0) hx hb d_15_159_198 rfl ?_
    refine zast (ci := 13) (k := 21) hx hb hK rfl hZ26 hS26 g20.1 g20.2 rfl (Nat.le_of_ble_eq_true rfl) g22.1 g22.2 d_15_159_199 (fun H27 locs27 hZ27 hS27 => ?_)
    refine lv_aload_n hx hb d_15_159_200 rfl (lv_at hl 1 rfl) ?_
    refine lv_aload_n hx hb d_15_159_201 rfl (lv_at hl 1 rfl) ?_
    refine zget (ci := 14) (C := RX14) (T := TX14) (v := va_rf (zrf ad 13 (F19 14 0 6))) (k := 6) hx hb hts inW_14 hown hK hZ27 (by decide) (by decide) rfl (by decide) k_11_4 rfl d_15_159_202 ?_
    refine lv_iload_n hx hb d_15_159_205 rfl (lv_at hl 2 rfl) ?_
    refine W.eq (g2 := F0 m 206 ls [.int (iI l1), .ref (ad 13 (F19 14 0 6) 0), .ref (ad 14 0 0)]) (by rw [zrf_pos (ad := ad) (t := 13) g20.1]; try rfl) ?_
    obtain ⟨r28, F28, B28, hc28, hf⟩ := gbind hf
    refine va_callv (va_runV (As := [.ref (ad 13 (F19 14 0 6) 0), .int (iI l1)]) (rest := []) ⟨hx, hb, hml, hown, hts⟩ (c_M_places (l := l) hc28) (cwV 2 hts (gdV k_13_128 k_13_130 ks_173 k_1_9 k_13_131) rfl rfl rfl (by decide +kernel) ⟨Nat.le_of_ble_eq_true rfl, Nat.le_of_ble_eq_true rfl⟩) (zPV X hZ27 hS27 (ci := 14) (by decide) (by decide) (r := (RX14, TX14, 107)) rfl [.ref (ad 13 (F19 14 0 6) 0), .int (iI l1)]) rfl rfl hl.1 rfl (lv_room (Nat.le_of_ble_eq_true rfl)) d_15_159_206 ⟨Nat.le_of_ble_eq_true rfl, Nat.le_of_ble_eq_true rfl⟩) hS27 (fun q _ h => zAin X hS27 q h) (zAin X hS27) (fun u28 t28 H28 locs28 ht28 hv28 hw28 hB28 hz28 hk28 hS28 => ?_)
    have hZ28 := zBack X ht28 hB28
    exact b_M_downVoice_209 X hf hZ28 hS28 (lv_sub hl [1, 2] rfl)

def f_M_downVoice (K : Nat) (l1 : Int) (l2 : Int) (l4 : Int) (F : zF) (B : zB) : zO := zbind (f_M_put_1 K 43 F B) (fun r1 F1 B1 => zbind (f_M_put_0 K (97 + l1) F1 B1) (fun r2 F2 B2 => if 0 ≤ (F2 14 0 6) ∧ (F2 14 0 6) < 3 then if 0 ≤ l1 ∧ l1 < 4 then if r32 (B2 13 (F2 14 0 6) 8 l1) then (if (B2 13 (F2 14 0 6) 8 l1) = 0 then f_M_downVoice_37 K l1 l2 l4 44 F2 B2 else f_M_downVoice_37 K l1 l2 l4 45 F2 B2) else none else none else none))
set_option maxHeartbeats 4000000 in
set_option maxRecDepth 100000 in
theorem c_M_downVoice {l : Launch} {D : va_G} {ca : Nat → ClassId} {ad : Nat → Int → Nat → Nat} {L : List Nat} {aS vS : Nat → Nat} {sz K : Nat}  {l1 : Int} {l2 : Int} {l4 : Int} {F F9 : zF} {B B9 : zB} {r : Int} (hf : f_M_downVoice K l1 l2 l4 F B = some (r, F9, B9)) : Met l ({ cls := "StaveHouseModel", name := "downVoice", desc := "(IJI)V" } : Jvm.MethodName) (Cond.code ({ cls := "StaveHouseModel", name := "downVoice", desc := "(IJI)V" } : Jvm.MethodName) prog_15_method_159_code 7 (Option.none : Option Jvm.ClassFile.FieldType) :: wAll) ({ frames := 9, cells := 0, slots := 0, locals := 305 } : Room) (va_Pc [.ref (ad 14 0 0), .int (iI l1), .long (lI l2), .int (iI l4)] (zPre D ca ad lnM nM L aS vS F B sz)) (Q_M_downVoice D ca ad L r F9 B9 (zA L sz)) 0 0 (zA L sz) := by
  refine zMet (Qc := Q_M_downVoice D ca ad L r F9 B9) (lv := [(0, .ref (ad 14 0 0)), (1, .int (iI l1)), (2, .long (lI l2)), (4, .int (iI l4))]) (by decide) (Nat.le_of_ble_eq_true rfl) rfl (fun A p e s m below meth c ls X hZ hS hl => ?_)
  obtain ⟨hx, hb, hr, hml, hown, hts, hlk, hK, hA, hL, hX⟩ := id X
  replace hf : (zbind (f_M_put_1 K 43 F B) (fun r1 F1 B1 => zbind (f_M_put_0 K (97 + l1) F1 B1) (fun r2 F2 B2 => if 0 ≤ (F2 14 0 6) ∧ (F2 14 0 6) < 3 then if 0 ≤ l1 ∧ l1 < 4 then if r32 (B2 13 (F2 14 0 6) 8 l1) then (if (B2 13 (F2 14 0 6) 8 l1) = 0 then f_M_downVoice_37 K l1 l2 l4 44 F2 B2 else f_M_downVoice_37 K l1 l2 l4 45 F2 B2) else none else none else none))) = some (r, F9, B9) := hf
  refine lv_aload_n hx hb d_15_159_0 rfl (lv_at hl 0 rfl) ?_
  refine gldcwS hx hb hown (hX.2.2.2.2.1 43 _ rfl).1 d_15_159_1 ?_
  obtain ⟨r1, F1, B1, hc1, hf⟩ := gbind hf
  refine va_callv (va_runV (As := [.ref (aS 43)]) (rest := []) ⟨hx, hb, hml, hown, hts⟩ (c_M_put_1 (l := l) hc1) (cwV 1 hts (gdV k_12_195 k_12_197 ks_141 k_1_9 k_12_198) rfl rfl rfl (by decide +kernel) ⟨Nat.le_of_ble_eq_true rfl, Nat.le_of_ble_eq_true rfl⟩) (zPV X hZ hS (ci := 14) (by decide) (by decide) (r := (RX14, TX14, 107)) rfl [.ref (aS 43)]) rfl rfl hl.1 rfl (lv_room (Nat.le_of_ble_eq_true rfl)) d_15_159_4 ⟨Nat.le_of_ble_eq_true rfl, Nat.le_of_ble_eq_true rfl⟩) hS (fun q _ h => zAin X hS q h) (zAin X hS) (fun u1 t1 H1 locs1 ht1 hv1 hw1 hB1 hz1 hk1 hS1 => ?_)
  have hZ1 := zBack X ht1 hB1
  refine lv_aload_n hx hb d_15_159_7 rfl (lv_at hl 0 rfl) ?_
  refine lv_bipush (v := iI 97) hx hb d_15_159_8 (by decide) ?_
  refine lv_iload_n hx hb d_15_159_10 rfl (lv_at hl 1 rfl) ?_
  refine zadd hx hb d_15_159_11 ?_
  obtain ⟨r2, F2, B2, hc2, hf⟩ := gbind hf
  refine va_callv (va_runV (As := [.int (iI (97 + l1))]) (rest := []) ⟨hx, hb, hml, hown, hts⟩ (c_M_put_0 (l := l) hc2) (cwV 1 hts (gdV k_12_199 k_12_201 ks_142 k_1_9 k_12_202) rfl rfl rfl (by decide +kernel) ⟨Nat.le_of_ble_eq_true rfl, Nat.le_of_ble_eq_true rfl⟩) (zPV X hZ1 hS1 (ci := 14) (by decide) (by decide) (r := (RX14, TX14, 107)) rfl [.int (iI (97 + l1))]) rfl rfl hl.1 rfl (lv_room (Nat.le_of_ble_eq_true rfl)) d_15_159_12 ⟨Nat.le_of_ble_eq_true rfl, Nat.le_of_ble_eq_true rfl⟩) hS1 (fun q _ h => zAin X hS1 q h) (zAin X hS1) (fun u2 t2 H2 locs2 ht2 hv2 hw2 hB2 hz2 hk2 hS2 => ?_)
  have hZ2 := zBack X ht2 hB2
  refine lv_aload_n hx hb d_15_159_15 rfl (lv_at hl 0 rfl) ?_
  refine lv_aload_n hx hb d_15_159_16 rfl (lv_at hl 0 rfl) ?_
  refine zget (ci := 14) (C := RX14) (T := TX14) (v := va_rf (zrf ad 13 (F2 14 0 6))) (k := 6) hx hb hts inW_14 hown hK hZ2 (by decide) (by decide) rfl (by decide) k_11_4 rfl d_15_159_17 ?_
  obtain ⟨g3, hf⟩ := gif hf
  refine zunrf g3.1 ?_
  refine zget (ci := 13) (C := RX13) (T := TX13) (v := .ref (ad 13 (F2 14 0 6) (8 + 1))) (k := 8) hx hb hts inW_13 hown hK hZ2 g3.1 g3.2 rfl (by decide) k_9_134 rfl d_15_159_20 ?_
  refine lv_iload_n hx hb d_15_159_23 rfl (lv_at hl 1 rfl) ?_
  obtain ⟨g4, hf⟩ := gif hf
  refine zald (ci := 13) (k := 8) hx hb hK rfl hZ2 g3.1 g3.2 rfl (Nat.le_of_ble_eq_true rfl) g4.1 g4.2 d_15_159_24 ?_
  obtain ⟨g5, hf⟩ := gif hf
  refine z0ne (tgt := 34) hx hb g5 d_15_159_25 (by decide) (fun h6 => ?_) (fun h6 => ?_)
  · replace hf := gneg hf h6
    refine gldcwS hx hb hown (hX.2.2.2.2.1 45 _ rfl).1 d_15_159_34 ?_
    exact b_M_downVoice_37 X hf hZ2 hS2 (lv_sub hl [0, 1, 2, 3] rfl)
  · replace hf := gpos hf h6
    refine gldcwS hx hb hown (hX.2.2.2.2.1 44 _ rfl).1 d_15_159_28 ?_
    refine lv_goto (tgt := 37) hx hb d_15_159_31 (by decide) ?_
    exact b_M_downVoice_37 X hf hZ2 hS2 (lv_sub hl [0, 1, 2, 3] rfl)

abbrev Q_M_down (D : va_G) (ca : Nat → ClassId) (ad : Nat → Int → Nat → Nat) (L : List Nat) (r : Int) (F : zF) (B : zB) (A : Nat → Prop) : Array Value → State → Outcome → State → Prop := va_Qi (S := Unit) (fun p _ => p = iI r) (fun _ => zPo D ca ad lnM nM L F B A) A
def f_M_down_304 (K : Nat)  (F : zF) (B : zB) : zO := some ((-2), (zup3 F 14 0 71 0), B)
set_option maxHeartbeats 4000000 in
set_option maxRecDepth 100000 in
theorem b_M_down_304 {D : va_G} {ca : Nat → ClassId} {ad : Nat → Int → Nat → Nat} {L : List Nat} {aS vS : Nat → Nat} {A : Nat → Prop} {p : Program} {l : Launch} {e : Env} {s : State} {m : MethodId} {args : Array Value} {below : List Frame} {meth : Method} {c : Code} {K : Nat} {r : Int} {F9 : zF} {B9 : zB} (X : zX D ca L aS vS A p s m args meth c prog_15_method_153_code 7 (Option.some Jvm.ClassFile.FieldType.int) "StaveHouseModel")  {F : zF} {B : zB} {H : Heap} {locs : List Loc} {ls : Array Slot} (hf : f_M_down_304 K  F B = some (r, F9, B9)) (hZ : zH D ca ad lnM nM L F B A H) (hS : va_S A s.heap H locs) (hl : lv_has ls 7 [(0, .ref (ad 14 0 0))]) : W p l e ({ frames := 10, cells := 0, slots := 0, locals := 331 } : Room) s m args below meth c H locs 0 0 (MQ below (Q_M_down D ca ad L r F9 B9 A) args s 0 0 A) (F0 m 304 ls []) := by
  obtain ⟨hx, hb, hr, hml, hown, hts, hlk, hK, hA, hL, hX⟩ := id X
  replace hf : (some ((-2), (zup3 F 14 0 71 0), B)) = some (r, F9, B9) := hf
  refine lv_aload_n hx hb d_15_153_304 rfl (lv_at hl 0 rfl) ?_
  refine lv_iconst (v := iI 0) hx hb d_15_153_305 rfl ?_
  refine zput (ci := 14) (C := RX14) (T := TX14) (k := 71) (v := 0) (w := .int (iI 0)) hx hb hts inW_14 tyX14 tyX14_ok nmX14 hown hK hZ hS (by decide) (by decide) rfl (by decide) k_11_69 rfl (fun G h => congrArg (fun q => Value.int (iI q)) h) rfl rfl d_15_153_306 (fun H59 locs59 hZ59 hS59 => ?_)
  refine lv_bipush (v := iI (-2)) hx hb d_15_153_309 (by decide) ?_
  cases hf
  exact W.iret hx hb hr (fun t ht hW => ⟨⟨_, (), rfl, rfl, by rw [ht]; exact hZ59, va_K.moved hW.alike hK⟩, hS59.F ht⟩) hS59.2.2 d_15_153_311 hlk

def f_M_down_284 (K : Nat) (l4 : Int) (F : zF) (B : zB) : zO := if r32 l4 then (if l4 = 0 then f_M_down_304 K F B else if r32 (F 14 0 71) then (if 3000 < (F 14 0 71) then f_M_down_304 K F B else some (F 14 0 71, F, B)) else none) else none
set_option maxHeartbeats 4000000 in
set_option maxRecDepth 100000 in
theorem b_M_down_284 {D : va_G} {ca : Nat → ClassId} {ad : Nat → Int → Nat → Nat} {L : List Nat} {aS vS : Nat → Nat} {A : Nat → Prop} {p : Program} {l : Launch} {e : Env} {s : State} {m : MethodId} {args : Array Value} {below : List Frame} {meth : Method} {c : Code} {K : Nat} {r : Int} {F9 : zF} {B9 : zB} (X : zX D ca L aS vS A p s m args meth c prog_15_method_153_code 7 (Option.some Jvm.ClassFile.FieldType.int) "StaveHouseModel") {l4 : Int} {F : zF} {B : zB} {H : Heap} {locs : List Loc} {ls : Array Slot} (hf : f_M_down_284 K l4 F B = some (r, F9, B9)) (hZ : zH D ca ad lnM nM L F B A H) (hS : va_S A s.heap H locs) (hl : lv_has ls 7 [(4, .int (iI l4)), (0, .ref (ad 14 0 0))]) : W p l e ({ frames := 10, cells := 0, slots := 0, locals := 331 } : Room) s m args below meth c H locs 0 0 (MQ below (Q_M_down D ca ad L r F9 B9 A) args s 0 0 A) (F0 m 284 ls []) := by
  obtain ⟨hx, hb, hr, hml, hown, hts, hlk, hK, hA, hL, hX⟩ := id X
  replace hf : (if r32 l4 then (if l4 = 0 then f_M_down_304 K F B else if r32 (F 14 0 71) then (if 3000 < (F 14 0 71) then f_M_down_304 K F B else some (F 14 0 71, F, B)) else none) else none) = some (r, F9, B9) := hf
  refine lv_iload hx hb d_15_153_284 (lv_at hl 0 rfl) ?_
  obtain ⟨g55, hf⟩ := gif hf
  refine z0eq (tgt := 304) hx hb g55 d_15_153_286 (by decide) (fun h56 => ?_) (fun h56 => ?_)
  · replace hf := gpos hf h56
    exact b_M_down_304 X hf hZ hS (lv_sub hl [1] rfl)
  · replace hf := gneg hf h56
    refine lv_aload_n hx hb d_15_153_289 rfl (lv_at hl 1 rfl) ?_
    refine zget (ci := 14) (C := RX14) (T := TX14) (v := .int (iI (F 14 0 71))) (k := 71) hx hb hts inW_14 hown hK hZ (by decide) (by decide) rfl (by decide) k_11_69 rfl d_15_153_290 ?_
    refine lv_sipush (v := iI 3000) hx hb d_15_153_293 (by decide) ?_
    obtain ⟨g57, hf⟩ := gif hf
    refine zgt (tgt := 304) hx hb g57 (by decide) d_15_153_296 (by decide) (fun h58 => ?_) (fun h58 => ?_)
    · replace hf := gpos hf h58
      exact b_M_down_304 X hf hZ hS (lv_sub hl [1] rfl)
    · replace hf := gneg hf h58
      refine lv_aload_n hx hb d_15_153_299 rfl (lv_at hl 1 rfl) ?_
      refine zget (ci := 14) (C := RX14) (T := TX14) (v := .int (iI (F 14 0 71))) (k := 71) hx hb hts inW_14 hown hK hZ (by decide) (by decide) rfl (by decide) k_11_69 rfl d_15_153_300 ?_
      cases hf
      exact W.iret hx hb hr (fun t ht hW => ⟨⟨_, (), rfl, rfl, by rw [ht]; exact hZ, va_K.moved hW.alike hK⟩, hS.F ht⟩) hS.2.2 d_15_153_303 hlk

def f_M_down_248 (K : Nat) : Nat → Int → Int → Int → Int → zF → zB → zO
  | 0, _, _, _, _, _, _ => none
  | n + 1, l5, l4, l2, l1, F, B => if 0 ≤ (F 14 0 6) ∧ (F 14 0 6) < 3 then if r32 l5 then if r32 (F 13 (F 14 0 6) 1) then (if (F 13 (F 14 0 6) 1) ≤ l5 then f_M_down_284 K l4 F B else if r32 (F 14 0 71) then (if 3000 < (F 14 0 71) then f_M_down_284 K l4 F B else zbind (f_M_downVoice K l5 l2 l1 F B) (fun r54 F54 B54 => f_M_down_248 K n (l5 + 1) l4 l2 l1 F54 B54)) else none) else none else none else none
set_option maxHeartbeats 4000000 in
set_option maxRecDepth 100000 in
theorem b_M_down_248 {D : va_G} {ca : Nat → ClassId} {ad : Nat → Int → Nat → Nat} {L : List Nat} {aS vS : Nat → Nat} {A : Nat → Prop} {p : Program} {l : Launch} {e : Env} {s : State} {m : MethodId} {args : Array Value} {below : List Frame} {meth : Method} {c : Code} {K : Nat} {r : Int} {F9 : zF} {B9 : zB} (X : zX D ca L aS vS A p s m args meth c prog_15_method_153_code 7 (Option.some Jvm.ClassFile.FieldType.int) "StaveHouseModel") : ∀ {n : Nat} {l5 : Int} {l4 : Int} {l2 : Int} {l1 : Int} {F : zF} {B : zB} {H : Heap} {locs : List Loc} {ls : Array Slot}, f_M_down_248 K n l5 l4 l2 l1 F B = some (r, F9, B9) → zH D ca ad lnM nM L F B A H → va_S A s.heap H locs → lv_has ls 7 [(5, .int (iI l5)), (4, .int (iI l4)), (2, .long (lI l2)), (0, .ref (ad 14 0 0)), (1, .int (iI l1))] → W p l e ({ frames := 10, cells := 0, slots := 0, locals := 331 } : Room) s m args below meth c H locs 0 0 (MQ below (Q_M_down D ca ad L r F9 B9 A) args s 0 0 A) (F0 m 248 ls []) := by
  obtain ⟨hx, hb, hr, hml, hown, hts, hlk, hK, hA, hL, hX⟩ := id X
  intro n
  induction n with
  | zero =>
    intros
    rename_i hf _ _ _
    cases hf
  | succ n ih =>
    intro l5 l4 l2 l1 F B H locs ls hf hZ hS hl
    replace hf : (if 0 ≤ (F 14 0 6) ∧ (F 14 0 6) < 3 then if r32 l5 then if r32 (F 13 (F 14 0 6) 1) then (if (F 13 (F 14 0 6) 1) ≤ l5 then f_M_down_284 K l4 F B else if r32 (F 14 0 71) then (if 3000 < (F 14 0 71) then f_M_down_284 K l4 F B else zbind (f_M_downVoice K l5 l2 l1 F B) (fun r54 F54 B54 => f_M_down_248 K n (l5 + 1) l4 l2 l1 F54 B54)) else none) else none else none else none) = some (r, F9, B9) := hf
    refine lv_iload hx hb d_15_153_248 (lv_at hl 0 rfl) ?_
    refine lv_aload_n hx hb d_15_153_250 rfl (lv_at hl 3 rfl) ?_
    refine zget (ci := 14) (C := RX14) (T := TX14) (v := va_rf (zrf ad 13 (F 14 0 6))) (k := 6) hx hb hts inW_14 hown hK hZ (by decide) (by decide) rfl (by decide) k_11_4 rfl d_15_153_251 ?_
    obtain ⟨g48, hf⟩ := gif hf
    refine zunrf g48.1 ?_
    refine zget (ci := 13) (C := RX13) (T := TX13) (v := .int (iI (F 13 (F 14 0 6) 1))) (k := 1) hx hb hts inW_13 hown hK hZ g48.1 g48.2 rfl (by decide) k_9_126 rfl d_15_153_254 ?_
    obtain ⟨g49, hf⟩ := gif hf
    obtain ⟨g50, hf⟩ := gif hf
    refine zge (tgt := 284) hx hb g49 g50 d_15_153_257 (by decide) (fun h51 => ?_) (fun h51 => ?_)
    · replace hf := gpos hf h51
      exact b_M_down_284 X hf hZ hS (lv_sub hl [1, 3] rfl)
    · replace hf := gneg hf h51
      refine lv_aload_n hx hb d_15_153_260 rfl (lv_at hl 3 rfl) ?_
      refine zget (ci := 14) (C := RX14) (T := TX14) (v := .int (iI (F 14 0 71))) (k := 71) hx hb hts inW_14 hown hK hZ (by decide) (by decide) rfl (by decide) k_11_69 rfl d_15_153_261 ?_
      refine lv_sipush (v := iI 3000) hx hb d_15_153_264 (by decide) ?_
      obtain ⟨g52, hf⟩ := gif hf
      refine zgt (tgt := 284) hx hb g52 (by decide) d_15_153_267 (by decide) (fun h53 => ?_) (fun h53 => ?_)
      · replace hf := gpos hf h53
        exact b_M_down_284 X hf hZ hS (lv_sub hl [1, 3] rfl)
      · replace hf := gneg hf h53
        refine lv_aload_n hx hb d_15_153_270 rfl (lv_at hl 3 rfl) ?_
        refine lv_iload hx hb d_15_153_271 (lv_at hl 0 rfl) ?_
        refine lv_lload_n hx hb d_15_153_273 rfl (lv_at hl 2 rfl) ?_
        refine lv_iload_n hx hb d_15_153_274 rfl (lv_at hl 4 rfl) ?_
        obtain ⟨r54, F54, B54, hc54, hf⟩ := gbind hf
        refine va_callv (va_runV (As := [.int (iI l5), .long (lI l2), .int (iI l1)]) (rest := []) ⟨hx, hb, hml, hown, hts⟩ (c_M_downVoice (l := l) hc54) (cwV 3 hts (gdV k_13_120 k_13_122 ks_172 k_1_9 k_13_123) rfl rfl rfl (by decide +kernel) ⟨Nat.le_of_ble_eq_true rfl, Nat.le_of_ble_eq_true rfl⟩) (zPV X hZ hS (ci := 14) (by decide) (by decide) (r := (RX14, TX14, 107)) rfl [.int (iI l5), .long (lI l2), .int (iI l1)]) rfl rfl hl.1 rfl (lv_room (Nat.le_of_ble_eq_true rfl)) d_15_153_275 ⟨Nat.le_of_ble_eq_true rfl, Nat.le_of_ble_eq_true rfl⟩) hS (fun q _ h => zAin X hS q h) (zAin X hS) (fun u54 t54 H54 locs54 ht54 hv54 hw54 hB54 hz54 hk54 hS54 => ?_)
        have hZ54 := zBack X ht54 hB54
        refine lv_iinc (v := iI (l5 + 1)) (lv' := [(5, .int (iI (l5 + 1))), (4, .int (iI l4)), (2, .long (lI l2)), (0, .ref (ad 14 0 0)), (1, .int (iI l1))]) hx hb d_15_153_278 hl (k := 0) rfl (iI_add _ 1) (by decide) rfl (fun ls hl => ?_)
        refine lv_goto (tgt := 248) hx hb d_15_153_281 (by decide) ?_
        exact ih hf hZ54 hS54 (lv_sub hl [0, 1, 2, 3, 4] rfl)

def f_M_down_234 (K : Nat) (l2 : Int) (l1 : Int) (s0 : Int) (F : zF) (B : zB) : zO := if r32 s0 then (if s0 = 0 then f_M_down_284 K s0 F B else zbind (f_M_downHeads K F B) (fun r47 F47 B47 => f_M_down_248 K K 0 s0 l2 l1 F47 B47)) else none
set_option maxHeartbeats 4000000 in
set_option maxRecDepth 100000 in
theorem b_M_down_234 {D : va_G} {ca : Nat → ClassId} {ad : Nat → Int → Nat → Nat} {L : List Nat} {aS vS : Nat → Nat} {A : Nat → Prop} {p : Program} {l : Launch} {e : Env} {s : State} {m : MethodId} {args : Array Value} {below : List Frame} {meth : Method} {c : Code} {K : Nat} {r : Int} {F9 : zF} {B9 : zB} (X : zX D ca L aS vS A p s m args meth c prog_15_method_153_code 7 (Option.some Jvm.ClassFile.FieldType.int) "StaveHouseModel") {l2 : Int} {l1 : Int} {s0 : Int} {F : zF} {B : zB} {H : Heap} {locs : List Loc} {ls : Array Slot} (hf : f_M_down_234 K l2 l1 s0 F B = some (r, F9, B9)) (hZ : zH D ca ad lnM nM L F B A H) (hS : va_S A s.heap H locs) (hl : lv_has ls 7 [(2, .long (lI l2)), (0, .ref (ad 14 0 0)), (1, .int (iI l1))]) : W p l e ({ frames := 10, cells := 0, slots := 0, locals := 331 } : Room) s m args below meth c H locs 0 0 (MQ below (Q_M_down D ca ad L r F9 B9 A) args s 0 0 A) (F0 m 234 ls [.int (iI s0)]) := by
  obtain ⟨hx, hb, hr, hml, hown, hts, hlk, hK, hA, hL, hX⟩ := id X
  replace hf : (if r32 s0 then (if s0 = 0 then f_M_down_284 K s0 F B else zbind (f_M_downHeads K F B) (fun r47 F47 B47 => f_M_down_248 K K 0 s0 l2 l1 F47 B47)) else none) = some (r, F9, B9) := hf
  refine lv_istore (lv' := [(4, .int (iI s0)), (2, .long (lI l2)), (0, .ref (ad 14 0 0)), (1, .int (iI l1))]) hx hb d_15_153_234 hl (by decide) rfl (fun ls hl => ?_)
  refine lv_iload hx hb d_15_153_236 (lv_at hl 0 rfl) ?_
  obtain ⟨g45, hf⟩ := gif hf
  refine z0eq (tgt := 284) hx hb g45 d_15_153_238 (by decide) (fun h46 => ?_) (fun h46 => ?_)
  · replace hf := gpos hf h46
    exact b_M_down_284 X hf hZ hS (lv_sub hl [0, 2] rfl)
  · replace hf := gneg hf h46
    refine lv_aload_n hx hb d_15_153_241 rfl (lv_at hl 2 rfl) ?_
    obtain ⟨r47, F47, B47, hc47, hf⟩ := gbind hf
    refine va_callv (va_runV (As := []) (rest := []) ⟨hx, hb, hml, hown, hts⟩ (c_M_downHeads (l := l) hc47) (cwV 0 hts (gdV k_13_107 k_13_109 ks_170 k_1_9 k_13_110) rfl rfl rfl (by decide +kernel) ⟨Nat.le_of_ble_eq_true rfl, Nat.le_of_ble_eq_true rfl⟩) (zPV X hZ hS (ci := 14) (by decide) (by decide) (r := (RX14, TX14, 107)) rfl []) rfl rfl hl.1 rfl (lv_room (Nat.le_of_ble_eq_true rfl)) d_15_153_242 ⟨Nat.le_of_ble_eq_true rfl, Nat.le_of_ble_eq_true rfl⟩) hS (fun q _ h => zAin X hS q h) (zAin X hS) (fun u47 t47 H47 locs47 ht47 hv47 hw47 hB47 hz47 hk47 hS47 => ?_)
    have hZ47 := zBack X ht47 hB47
    refine lv_iconst (v := iI 0) hx hb d_15_153_245 rfl ?_
    refine lv_istore (lv' := [(5, .int (iI 0)), (4, .int (iI s0)), (2, .long (lI l2)), (0, .ref (ad 14 0 0)), (1, .int (iI l1))]) hx hb d_15_153_246 hl (by decide) rfl (fun ls hl => ?_)
    exact b_M_down_248 X hf hZ47 hS47 (lv_sub hl [0, 1, 2, 3, 4] rfl)

def f_M_down_200 (K : Nat) (l2 : Int) (l1 : Int) (F : zF) (B : zB) : zO := if r32 l1 then if 0 ≤ (F 14 0 6) ∧ (F 14 0 6) < 3 then if r32 (F 13 (F 14 0 6) 4) then if r32 (F 13 (F 14 0 6) 5) then zbind (f_M_compare K l2 l1 (100 * (F 13 (F 14 0 6) 4)) (F 13 (F 14 0 6) 5) F B) (fun r42 F42 B42 => if r32 r42 then (if 0 < r42 then f_M_down_234 K l2 l1 0 F42 B42 else f_M_down_234 K l2 l1 1 F42 B42) else none) else none else none else none else none
set_option maxHeartbeats 4000000 in
set_option maxRecDepth 100000 in
theorem b_M_down_200 {D : va_G} {ca : Nat → ClassId} {ad : Nat → Int → Nat → Nat} {L : List Nat} {aS vS : Nat → Nat} {A : Nat → Prop} {p : Program} {l : Launch} {e : Env} {s : State} {m : MethodId} {args : Array Value} {below : List Frame} {meth : Method} {c : Code} {K : Nat} {r : Int} {F9 : zF} {B9 : zB} (X : zX D ca L aS vS A p s m args meth c prog_15_method_153_code 7 (Option.some Jvm.ClassFile.FieldType.int) "StaveHouseModel") {l2 : Int} {l1 : Int} {F : zF} {B : zB} {H : Heap} {locs : List Loc} {ls : Array Slot} (hf : f_M_down_200 K l2 l1 F B = some (r, F9, B9)) (hZ : zH D ca ad lnM nM L F B A H) (hS : va_S A s.heap H locs) (hl : lv_has ls 7 [(2, .long (lI l2)), (0, .ref (ad 14 0 0)), (1, .int (iI l1))]) : W p l e ({ frames := 10, cells := 0, slots := 0, locals := 331 } : Room) s m args below meth c H locs 0 0 (MQ below (Q_M_down D ca ad L r F9 B9 A) args s 0 0 A) (F0 m 200 ls []) := by
  obtain ⟨hx, hb, hr, hml, hown, hts, hlk, hK, hA, hL, hX⟩ := id X
  replace hf : (if r32 l1 then if 0 ≤ (F 14 0 6) ∧ (F 14 0 6) < 3 then if r32 (F 13 (F 14 0 6) 4) then if r32 (F 13 (F 14 0 6) 5) then zbind (f_M_compare K l2 l1 (100 * (F 13 (F 14 0 6) 4)) (F 13 (F 14 0 6) 5) F B) (fun r42 F42 B42 => if r32 r42 then (if 0 < r42 then f_M_down_234 K l2 l1 0 F42 B42 else f_M_down_234 K l2 l1 1 F42 B42) else none) else none else none else none else none) = some (r, F9, B9) := hf
  refine lv_lload_n hx hb d_15_153_200 rfl (lv_at hl 0 rfl) ?_
  refine lv_iload_n hx hb d_15_153_201 rfl (lv_at hl 2 rfl) ?_
  obtain ⟨g38, hf⟩ := gif hf
  refine zi2l hx hb g38 d_15_153_202 ?_
  refine lv_ldc2 hx hb hown (hts _ k_13_103) d_15_153_203 ?_
  refine W.eq (g2 := F0 m 206 ls [.long (lI 100), .long (lI l1), .long (lI l2)]) rfl ?_
  refine lv_aload_n hx hb d_15_153_206 rfl (lv_at hl 1 rfl) ?_
  refine zget (ci := 14) (C := RX14) (T := TX14) (v := va_rf (zrf ad 13 (F 14 0 6))) (k := 6) hx hb hts inW_14 hown hK hZ (by decide) (by decide) rfl (by decide) k_11_4 rfl d_15_153_207 ?_
  obtain ⟨g39, hf⟩ := gif hf
  refine zunrf g39.1 ?_
  refine zget (ci := 13) (C := RX13) (T := TX13) (v := .int (iI (F 13 (F 14 0 6) 4))) (k := 4) hx hb hts inW_13 hown hK hZ g39.1 g39.2 rfl (by decide) k_9_129 rfl d_15_153_210 ?_
  obtain ⟨g40, hf⟩ := gif hf
  refine zi2l hx hb g40 d_15_153_213 ?_
  refine zlmul hx hb d_15_153_214 ?_
  refine lv_aload_n hx hb d_15_153_215 rfl (lv_at hl 1 rfl) ?_
  refine zget (ci := 14) (C := RX14) (T := TX14) (v := va_rf (zrf ad 13 (F 14 0 6))) (k := 6) hx hb hts inW_14 hown hK hZ (by decide) (by decide) rfl (by decide) k_11_4 rfl d_15_153_216 ?_
  refine zunrf g39.1 ?_
  refine zget (ci := 13) (C := RX13) (T := TX13) (v := .int (iI (F 13 (F 14 0 6) 5))) (k := 5) hx hb hts inW_13 hown hK hZ g39.1 g39.2 rfl (by decide) k_9_130 rfl d_15_153_219 ?_
  obtain ⟨g41, hf⟩ := gif hf
  refine zi2l hx hb g41 d_15_153_222 ?_
  obtain ⟨r42, F42, B42, hc42, hf⟩ := gbind hf
  refine va_calli (va_runS (As := [.long (lI l2), .long (lI l1), .long (lI (100 * (F 13 (F 14 0 6) 4))), .long (lI (F 13 (F 14 0 6) 5))]) (rest := []) ⟨hx, hb, hml, hown, hts⟩ (c_M_compare (l := l) hc42) (va_cwS 4 hts (gdS k_13_104 k_13_105 k_1_9 k_13_106) rfl rfl rfl (by decide +kernel) ⟨Nat.le_of_ble_eq_true rfl, Nat.le_of_ble_eq_true rfl⟩) (zPS X hZ hS [.long (lI l2), .long (lI l1), .long (lI (100 * (F 13 (F 14 0 6) 4))), .long (lI (F 13 (F 14 0 6) 5))]) rfl rfl hl.1 rfl (lv_room (Nat.le_of_ble_eq_true rfl)) d_15_153_223 ⟨Nat.le_of_ble_eq_true rfl, Nat.le_of_ble_eq_true rfl⟩) hS (fun q _ h => zAin X hS q h) (zAin X hS) (fun p42 u42 t42 H42 locs42 ht42 hv42 hw42 hB42 hz42 hk42 hS42 => ?_)
  have hZ42 := zBack X ht42 hB42
  subst hw42
  obtain ⟨g43, hf⟩ := gif hf
  refine z0gt (tgt := 233) hx hb g43 d_15_153_226 (by decide) (fun h44 => ?_) (fun h44 => ?_)
  · replace hf := gpos hf h44
    refine lv_iconst (v := iI 0) hx hb d_15_153_233 rfl ?_
    exact b_M_down_234 X hf hZ42 hS42 (lv_sub hl [0, 1, 2] rfl)
  · replace hf := gneg hf h44
    refine lv_iconst (v := iI 1) hx hb d_15_153_229 rfl ?_
    refine lv_goto (tgt := 234) hx hb d_15_153_230 (by decide) ?_
    exact b_M_down_234 X hf hZ42 hS42 (lv_sub hl [0, 1, 2] rfl)

def f_M_down_194 (rec121 : Int → Int → Int → zF → zB → zO) (K : Nat) (l4 : Int) (l2 : Int) (l1 : Int) (F : zF) (B : zB) : zO := rec121 (l4 + 1) l2 l1 F B
set_option maxHeartbeats 4000000 in
set_option maxRecDepth 100000 in
theorem b_M_down_194 {D : va_G} {ca : Nat → ClassId} {ad : Nat → Int → Nat → Nat} {L : List Nat} {aS vS : Nat → Nat} {A : Nat → Prop} {p : Program} {l : Launch} {e : Env} {s : State} {m : MethodId} {args : Array Value} {below : List Frame} {meth : Method} {c : Code} {K : Nat} {r : Int} {F9 : zF} {B9 : zB} (X : zX D ca L aS vS A p s m args meth c prog_15_method_153_code 7 (Option.some Jvm.ClassFile.FieldType.int) "StaveHouseModel") {rec121 : Int → Int → Int → zF → zB → zO} (hrec121 : ∀ {l4 : Int} {l2 : Int} {l1 : Int} {F : zF} {B : zB} {H : Heap} {locs : List Loc} {ls : Array Slot}, rec121 l4 l2 l1 F B = some (r, F9, B9) → zH D ca ad lnM nM L F B A H → va_S A s.heap H locs → lv_has ls 7 [(4, .int (iI l4)), (2, .long (lI l2)), (0, .ref (ad 14 0 0)), (1, .int (iI l1))] → W p l e ({ frames := 10, cells := 0, slots := 0, locals := 331 } : Room) s m args below meth c H locs 0 0 (MQ below (Q_M_down D ca ad L r F9 B9 A) args s 0 0 A) (F0 m 121 ls [])) {l4 : Int} {l2 : Int} {l1 : Int} {F : zF} {B : zB} {H : Heap} {locs : List Loc} {ls : Array Slot} (hf : f_M_down_194 rec121 K l4 l2 l1 F B = some (r, F9, B9)) (hZ : zH D ca ad lnM nM L F B A H) (hS : va_S A s.heap H locs) (hl : lv_has ls 7 [(4, .int (iI l4)), (2, .long (lI l2)), (0, .ref (ad 14 0 0)), (1, .int (iI l1))]) : W p l e ({ frames := 10, cells := 0, slots := 0, locals := 331 } : Room) s m args below meth c H locs 0 0 (MQ below (Q_M_down D ca ad L r F9 B9 A) args s 0 0 A) (F0 m 194 ls []) := by
  obtain ⟨hx, hb, hr, hml, hown, hts, hlk, hK, hA, hL, hX⟩ := id X
  replace hf : (rec121 (l4 + 1) l2 l1 F B) = some (r, F9, B9) := hf
  refine lv_iinc (v := iI (l4 + 1)) (lv' := [(4, .int (iI (l4 + 1))), (2, .long (lI l2)), (0, .ref (ad 14 0 0)), (1, .int (iI l1))]) hx hb d_15_153_194 hl (k := 0) rfl (iI_add _ 1) (by decide) rfl (fun ls hl => ?_)
  refine lv_goto (tgt := 121) hx hb d_15_153_197 (by decide) ?_
  exact hrec121 hf hZ hS (lv_sub hl [0, 1, 2, 3] rfl)

def f_M_down_181 (rec121 : Int → Int → Int → zF → zB → zO) (K : Nat) (l4 : Int) (l2 : Int) (l1 : Int) (F : zF) (B : zB) : zO := if 0 ≤ (F 14 0 6) ∧ (F 14 0 6) < 3 then f_M_down_194 rec121 K l4 l2 l1 (zup3 F 13 (F 14 0 6) 1 ((F 13 (F 14 0 6) 1) + 1)) B else none
set_option maxHeartbeats 4000000 in
set_option maxRecDepth 100000 in
theorem b_M_down_181 {D : va_G} {ca : Nat → ClassId} {ad : Nat → Int → Nat → Nat} {L : List Nat} {aS vS : Nat → Nat} {A : Nat → Prop} {p : Program} {l : Launch} {e : Env} {s : State} {m : MethodId} {args : Array Value} {below : List Frame} {meth : Method} {c : Code} {K : Nat} {r : Int} {F9 : zF} {B9 : zB} (X : zX D ca L aS vS A p s m args meth c prog_15_method_153_code 7 (Option.some Jvm.ClassFile.FieldType.int) "StaveHouseModel") {rec121 : Int → Int → Int → zF → zB → zO} (hrec121 : ∀ {l4 : Int} {l2 : Int} {l1 : Int} {F : zF} {B : zB} {H : Heap} {locs : List Loc} {ls : Array Slot}, rec121 l4 l2 l1 F B = some (r, F9, B9) → zH D ca ad lnM nM L F B A H → va_S A s.heap H locs → lv_has ls 7 [(4, .int (iI l4)), (2, .long (lI l2)), (0, .ref (ad 14 0 0)), (1, .int (iI l1))] → W p l e ({ frames := 10, cells := 0, slots := 0, locals := 331 } : Room) s m args below meth c H locs 0 0 (MQ below (Q_M_down D ca ad L r F9 B9 A) args s 0 0 A) (F0 m 121 ls [])) {l4 : Int} {l2 : Int} {l1 : Int} {F : zF} {B : zB} {H : Heap} {locs : List Loc} {ls : Array Slot} (hf : f_M_down_181 rec121 K l4 l2 l1 F B = some (r, F9, B9)) (hZ : zH D ca ad lnM nM L F B A H) (hS : va_S A s.heap H locs) (hl : lv_has ls 7 [(4, .int (iI l4)), (2, .long (lI l2)), (0, .ref (ad 14 0 0)), (1, .int (iI l1))]) : W p l e ({ frames := 10, cells := 0, slots := 0, locals := 331 } : Room) s m args below meth c H locs 0 0 (MQ below (Q_M_down D ca ad L r F9 B9 A) args s 0 0 A) (F0 m 181 ls []) := by
  obtain ⟨hx, hb, hr, hml, hown, hts, hlk, hK, hA, hL, hX⟩ := id X
  replace hf : (if 0 ≤ (F 14 0 6) ∧ (F 14 0 6) < 3 then f_M_down_194 rec121 K l4 l2 l1 (zup3 F 13 (F 14 0 6) 1 ((F 13 (F 14 0 6) 1) + 1)) B else none) = some (r, F9, B9) := hf
  refine lv_aload_n hx hb d_15_153_181 rfl (lv_at hl 2 rfl) ?_
  refine zget (ci := 14) (C := RX14) (T := TX14) (v := va_rf (zrf ad 13 (F 14 0 6))) (k := 6) hx hb hts inW_14 hown hK hZ (by decide) (by decide) rfl (by decide) k_11_4 rfl d_15_153_182 ?_
  refine lv_dup hx hb d_15_153_185 (zcat _) ?_
  obtain ⟨g36, hf⟩ := gif hf
  refine zunrf g36.1 ?_
  refine zget (ci := 13) (C := RX13) (T := TX13) (v := .int (iI (F 13 (F 14 0 6) 1))) (k := 1) hx hb hts inW_13 hown hK hZ g36.1 g36.2 rfl (by decide) k_9_126 rfl d_15_153_186 ?_
  refine lv_iconst (v := iI 1) hx hb d_15_153_189 rfl ?_
  refine zadd hx hb d_15_153_190 ?_
  refine W.eq (g2 := F0 m 191 ls [.int (iI ((F 13 (F 14 0 6) 1) + 1)), .ref (ad 13 (F 14 0 6) 0)]) (by rw [zrf_pos (ad := ad) (t := 13) g36.1]; try rfl) ?_
  refine zput (ci := 13) (C := RX13) (T := TX13) (k := 1) (v := ((F 13 (F 14 0 6) 1) + 1)) (w := .int (iI ((F 13 (F 14 0 6) 1) + 1))) hx hb hts inW_13 tyX13 tyX13_ok nmX13 hown hK hZ hS g36.1 g36.2 rfl (by decide) k_9_126 rfl (fun G h => congrArg (fun q => Value.int (iI q)) h) rfl rfl d_15_153_191 (fun H37 locs37 hZ37 hS37 => ?_)
  exact b_M_down_194 X hrec121 hf hZ37 hS37 (lv_sub hl [0, 1, 2, 3] rfl)

def f_M_down_121 (K : Nat) : Nat → Int → Int → Int → zF → zB → zO
  | 0, _, _, _, _, _ => none
  | n + 1, l4, l2, l1, F, B => if r32 l4 then if r32 (B 14 0 73 0) then (if (B 14 0 73 0) ≤ l4 then f_M_down_200 K l2 l1 F B else if 0 ≤ (F 14 0 6) ∧ (F 14 0 6) < 3 then if r32 (F 13 (F 14 0 6) 1) then (if 4 ≤ (F 13 (F 14 0 6) 1) then f_M_down_200 K l2 l1 F B else zbind (f_M_hasSounds K l4 F B) (fun r28 F28 B28 => if r32 r28 then (if r28 = 0 then f_M_down_194 (f_M_down_121 K n) K l4 l2 l1 F28 B28 else if 0 ≤ (F28 14 0 6) ∧ (F28 14 0 6) < 3 then zbind (f_M_trackEvents K l4 (F28 13 (F28 14 0 6) 1) l1 F28 B28) (fun r32 F32 B32 => if r64 r32 then if r64 l2 then (if (zcmp r32 l2) ≤ 0 then f_M_down_181 (f_M_down_121 K n) K l4 l2 l1 F32 B32 else f_M_down_181 (f_M_down_121 K n) K l4 r32 l1 F32 B32) else none else none) else none) else none)) else none else none) else none else none
set_option maxHeartbeats 4000000 in
set_option maxRecDepth 100000 in
theorem b_M_down_121 {D : va_G} {ca : Nat → ClassId} {ad : Nat → Int → Nat → Nat} {L : List Nat} {aS vS : Nat → Nat} {A : Nat → Prop} {p : Program} {l : Launch} {e : Env} {s : State} {m : MethodId} {args : Array Value} {below : List Frame} {meth : Method} {c : Code} {K : Nat} {r : Int} {F9 : zF} {B9 : zB} (X : zX D ca L aS vS A p s m args meth c prog_15_method_153_code 7 (Option.some Jvm.ClassFile.FieldType.int) "StaveHouseModel") : ∀ {n : Nat} {l4 : Int} {l2 : Int} {l1 : Int} {F : zF} {B : zB} {H : Heap} {locs : List Loc} {ls : Array Slot}, f_M_down_121 K n l4 l2 l1 F B = some (r, F9, B9) → zH D ca ad lnM nM L F B A H → va_S A s.heap H locs → lv_has ls 7 [(4, .int (iI l4)), (2, .long (lI l2)), (0, .ref (ad 14 0 0)), (1, .int (iI l1))] → W p l e ({ frames := 10, cells := 0, slots := 0, locals := 331 } : Room) s m args below meth c H locs 0 0 (MQ below (Q_M_down D ca ad L r F9 B9 A) args s 0 0 A) (F0 m 121 ls []) := by
  obtain ⟨hx, hb, hr, hml, hown, hts, hlk, hK, hA, hL, hX⟩ := id X
  intro n
  induction n with
  | zero =>
    intros
    rename_i hf _ _ _
    cases hf
  | succ n ih =>
    intro l4 l2 l1 F B H locs ls hf hZ hS hl
    replace hf : (if r32 l4 then if r32 (B 14 0 73 0) then (if (B 14 0 73 0) ≤ l4 then f_M_down_200 K l2 l1 F B else if 0 ≤ (F 14 0 6) ∧ (F 14 0 6) < 3 then if r32 (F 13 (F 14 0 6) 1) then (if 4 ≤ (F 13 (F 14 0 6) 1) then f_M_down_200 K l2 l1 F B else zbind (f_M_hasSounds K l4 F B) (fun r28 F28 B28 => if r32 r28 then (if r28 = 0 then f_M_down_194 (f_M_down_121 K n) K l4 l2 l1 F28 B28 else if 0 ≤ (F28 14 0 6) ∧ (F28 14 0 6) < 3 then zbind (f_M_trackEvents K l4 (F28 13 (F28 14 0 6) 1) l1 F28 B28) (fun r32 F32 B32 => if r64 r32 then if r64 l2 then (if (zcmp r32 l2) ≤ 0 then f_M_down_181 (f_M_down_121 K n) K l4 l2 l1 F32 B32 else f_M_down_181 (f_M_down_121 K n) K l4 r32 l1 F32 B32) else none else none) else none) else none)) else none else none) else none else none) = some (r, F9, B9) := hf
    refine lv_iload hx hb d_15_153_121 (lv_at hl 0 rfl) ?_
    refine lv_aload_n hx hb d_15_153_123 rfl (lv_at hl 2 rfl) ?_
    refine zget (ci := 14) (C := RX14) (T := TX14) (v := .ref (ad 14 0 (73 + 1))) (k := 73) hx hb hts inW_14 hown hK hZ (by decide) (by decide) rfl (by decide) k_11_71 rfl d_15_153_124 ?_
    refine lv_iconst (v := iI 0) hx hb d_15_153_127 rfl ?_
    refine zald (ci := 14) (k := 73) hx hb hK rfl hZ (by decide) (by decide) rfl (Nat.le_of_ble_eq_true rfl) (by decide) (by decide) d_15_153_128 ?_
    obtain ⟨g22, hf⟩ := gif hf
    obtain ⟨g23, hf⟩ := gif hf
    refine zge (tgt := 200) hx hb g22 g23 d_15_153_129 (by decide) (fun h24 => ?_) (fun h24 => ?_)
    · replace hf := gpos hf h24
      exact b_M_down_200 X hf hZ hS (lv_sub hl [1, 2, 3] rfl)
    · replace hf := gneg hf h24
      refine lv_aload_n hx hb d_15_153_132 rfl (lv_at hl 2 rfl) ?_
      refine zget (ci := 14) (C := RX14) (T := TX14) (v := va_rf (zrf ad 13 (F 14 0 6))) (k := 6) hx hb hts inW_14 hown hK hZ (by decide) (by decide) rfl (by decide) k_11_4 rfl d_15_153_133 ?_
      obtain ⟨g25, hf⟩ := gif hf
      refine zunrf g25.1 ?_
      refine zget (ci := 13) (C := RX13) (T := TX13) (v := .int (iI (F 13 (F 14 0 6) 1))) (k := 1) hx hb hts inW_13 hown hK hZ g25.1 g25.2 rfl (by decide) k_9_126 rfl d_15_153_136 ?_
      refine lv_iconst (v := iI 4) hx hb d_15_153_139 rfl ?_
      obtain ⟨g26, hf⟩ := gif hf
      refine zge (tgt := 200) hx hb g26 (by decide) d_15_153_140 (by decide) (fun h27 => ?_) (fun h27 => ?_)
      · replace hf := gpos hf h27
        exact b_M_down_200 X hf hZ hS (lv_sub hl [1, 2, 3] rfl)
      · replace hf := gneg hf h27
        refine lv_aload_n hx hb d_15_153_143 rfl (lv_at hl 2 rfl) ?_
        refine lv_iload hx hb d_15_153_144 (lv_at hl 0 rfl) ?_
        obtain ⟨r28, F28, B28, hc28, hf⟩ := gbind hf
        refine va_calli (va_runV (As := [.int (iI l4)]) (rest := []) ⟨hx, hb, hml, hown, hts⟩ (c_M_hasSounds (l := l) hc28) (cwV 1 hts (gdV k_13_77 k_13_79 ks_164 k_1_9 k_13_80) rfl rfl rfl (by decide +kernel) ⟨Nat.le_of_ble_eq_true rfl, Nat.le_of_ble_eq_true rfl⟩) (zPV X hZ hS (ci := 14) (by decide) (by decide) (r := (RX14, TX14, 107)) rfl [.int (iI l4)]) rfl rfl hl.1 rfl (lv_room (Nat.le_of_ble_eq_true rfl)) d_15_153_146 ⟨Nat.le_of_ble_eq_true rfl, Nat.le_of_ble_eq_true rfl⟩) hS (fun q _ h => zAin X hS q h) (zAin X hS) (fun p28 u28 t28 H28 locs28 ht28 hv28 hw28 hB28 hz28 hk28 hS28 => ?_)
        have hZ28 := zBack X ht28 hB28
        subst hw28
        obtain ⟨g29, hf⟩ := gif hf
        refine z0ne (tgt := 155) hx hb g29 d_15_153_149 (by decide) (fun h30 => ?_) (fun h30 => ?_)
        · replace hf := gneg hf h30
          refine lv_aload_n hx hb d_15_153_155 rfl (lv_at hl 2 rfl) ?_
          refine lv_iload hx hb d_15_153_156 (lv_at hl 0 rfl) ?_
          refine lv_aload_n hx hb d_15_153_158 rfl (lv_at hl 2 rfl) ?_
          refine zget (ci := 14) (C := RX14) (T := TX14) (v := va_rf (zrf ad 13 (F28 14 0 6))) (k := 6) hx hb hts inW_14 hown hK hZ28 (by decide) (by decide) rfl (by decide) k_11_4 rfl d_15_153_159 ?_
          obtain ⟨g31, hf⟩ := gif hf
          refine zunrf g31.1 ?_
          refine zget (ci := 13) (C := RX13) (T := TX13) (v := .int (iI (F28 13 (F28 14 0 6) 1))) (k := 1) hx hb hts inW_13 hown hK hZ28 g31.1 g31.2 rfl (by decide) k_9_126 rfl d_15_153_162 ?_
          refine lv_iload_n hx hb d_15_153_165 rfl (lv_at hl 3 rfl) ?_
          obtain ⟨r32, F32, B32, hc32, hf⟩ := gbind hf
          refine va_calll (va_runV (As := [.int (iI l4), .int (iI (F28 13 (F28 14 0 6) 1)), .int (iI l1)]) (rest := []) ⟨hx, hb, hml, hown, hts⟩ (c_M_trackEvents (l := l) hc32) (cwV 3 hts (gdV k_13_81 k_13_83 ks_165 k_1_9 k_13_84) rfl rfl rfl (by decide +kernel) ⟨Nat.le_of_ble_eq_true rfl, Nat.le_of_ble_eq_true rfl⟩) (zPV X hZ28 hS28 (ci := 14) (by decide) (by decide) (r := (RX14, TX14, 107)) rfl [.int (iI l4), .int (iI (F28 13 (F28 14 0 6) 1)), .int (iI l1)]) rfl rfl hl.1 rfl (lv_room (Nat.le_of_ble_eq_true rfl)) d_15_153_166 ⟨Nat.le_of_ble_eq_true rfl, Nat.le_of_ble_eq_true rfl⟩) hS28 (fun q _ h => zAin X hS28 q h) (zAin X hS28) (fun p32 u32 t32 H32 locs32 ht32 hv32 hw32 hB32 hz32 hk32 hS32 => ?_)
          have hZ32 := zBack X ht32 hB32
          subst hw32
          refine lv_lstore (lv' := [(5, .long (lI r32)), (4, .int (iI l4)), (2, .long (lI l2)), (0, .ref (ad 14 0 0)), (1, .int (iI l1))]) hx hb d_15_153_169 hl (by decide) rfl (fun ls hl => ?_)
          refine lv_lload hx hb d_15_153_171 (lv_at hl 0 rfl) ?_
          refine lv_lload_n hx hb d_15_153_173 rfl (lv_at hl 2 rfl) ?_
          obtain ⟨g33, hf⟩ := gif hf
          obtain ⟨g34, hf⟩ := gif hf
          refine zcmp_r hx hb g33 g34 d_15_153_174 ?_
          refine z0le (tgt := 181) hx hb zcmp_32 d_15_153_175 (by decide) (fun h35 => ?_) (fun h35 => ?_)
          · replace hf := gpos hf h35
            exact b_M_down_181 X ih hf hZ32 hS32 (lv_sub hl [1, 2, 3, 4] rfl)
          · replace hf := gneg hf h35
            refine lv_lload hx hb d_15_153_178 (lv_at hl 0 rfl) ?_
            refine lv_lstore_n (lv' := [(2, .long (lI r32)), (5, .long (lI r32)), (4, .int (iI l4)), (0, .ref (ad 14 0 0)), (1, .int (iI l1))]) hx hb d_15_153_180 rfl hl (by decide) rfl (fun ls hl => ?_)
            exact b_M_down_181 X ih hf hZ32 hS32 (lv_sub hl [2, 0, 3, 4] rfl)
        · replace hf := gpos hf h30
          refine lv_goto (tgt := 194) hx hb d_15_153_152 (by decide) ?_
          exact b_M_down_194 X ih hf hZ28 hS28 (lv_sub hl [0, 1, 2, 3] rfl)

def f_M_down_87 (K : Nat) (l1 : Int) (s0 : Int) (s1 : Int) (F : zF) (B : zB) : zO := if 0 ≤ s0 ∧ s0 < 3 then if (s1 = 0 ∨ s1 = 1) then if 0 ≤ (F 14 0 6) ∧ (F 14 0 6) < 3 then f_M_down_121 K K 0 0 l1 (zup3 (zup3 (zup3 F 13 s0 3 s1) 13 (F 14 0 6) 4 (B 14 0 73 4)) 13 (F 14 0 6) 5 (B 14 0 73 5)) B else none else none else none
set_option maxHeartbeats 4000000 in
set_option maxRecDepth 100000 in
theorem b_M_down_87 {D : va_G} {ca : Nat → ClassId} {ad : Nat → Int → Nat → Nat} {L : List Nat} {aS vS : Nat → Nat} {A : Nat → Prop} {p : Program} {l : Launch} {e : Env} {s : State} {m : MethodId} {args : Array Value} {below : List Frame} {meth : Method} {c : Code} {K : Nat} {r : Int} {F9 : zF} {B9 : zB} (X : zX D ca L aS vS A p s m args meth c prog_15_method_153_code 7 (Option.some Jvm.ClassFile.FieldType.int) "StaveHouseModel") {l1 : Int} {s0 : Int} {s1 : Int} {F : zF} {B : zB} {H : Heap} {locs : List Loc} {ls : Array Slot} (hf : f_M_down_87 K l1 s0 s1 F B = some (r, F9, B9)) (hZ : zH D ca ad lnM nM L F B A H) (hS : va_S A s.heap H locs) (hl : lv_has ls 7 [(0, .ref (ad 14 0 0)), (1, .int (iI l1))]) : W p l e ({ frames := 10, cells := 0, slots := 0, locals := 331 } : Room) s m args below meth c H locs 0 0 (MQ below (Q_M_down D ca ad L r F9 B9 A) args s 0 0 A) (F0 m 87 ls [.int (iI s1), va_rf (zrf ad 13 s0)]) := by
  obtain ⟨hx, hb, hr, hml, hown, hts, hlk, hK, hA, hL, hX⟩ := id X
  replace hf : (if 0 ≤ s0 ∧ s0 < 3 then if (s1 = 0 ∨ s1 = 1) then if 0 ≤ (F 14 0 6) ∧ (F 14 0 6) < 3 then f_M_down_121 K K 0 0 l1 (zup3 (zup3 (zup3 F 13 s0 3 s1) 13 (F 14 0 6) 4 (B 14 0 73 4)) 13 (F 14 0 6) 5 (B 14 0 73 5)) B else none else none else none) = some (r, F9, B9) := hf
  obtain ⟨g16, hf⟩ := gif hf
  refine W.eq (g2 := F0 m 87 ls [.int (iI s1), .ref (ad 13 s0 0)]) (by rw [zrf_pos (ad := ad) (t := 13) g16.1]; try rfl) ?_
  obtain ⟨g17, hf⟩ := gif hf
  refine zput (ci := 13) (C := RX13) (T := TX13) (k := 3) (v := s1) (w := .int (iI s1)) hx hb hts inW_13 tyX13 tyX13_ok nmX13 hown hK hZ hS g16.1 g16.2 rfl (by decide) k_9_128 rfl (fun G h => congrArg (fun q => Value.int (iI q)) h) (zbool g17) (zboolF g17) d_15_153_87 (fun H18 locs18 hZ18 hS18 => ?_)
  refine lv_aload_n hx hb d_15_153_90 rfl (lv_at hl 0 rfl) ?_
  refine zget (ci := 14) (C := RX14) (T := TX14) (v := va_rf (zrf ad 13 (F 14 0 6))) (k := 6) hx hb hts inW_14 hown hK hZ18 (by decide) (by decide) rfl (by decide) k_11_4 (congrArg (fun q => va_rf (zrf ad 13 q)) (show (zup3 F 13 s0 3 s1) 14 0 6 = F 14 0 6 by simp [zup3])) d_15_153_91 ?_
  refine lv_aload_n hx hb d_15_153_94 rfl (lv_at hl 0 rfl) ?_
  refine zget (ci := 14) (C := RX14) (T := TX14) (v := .ref (ad 14 0 (73 + 1))) (k := 73) hx hb hts inW_14 hown hK hZ18 (by decide) (by decide) rfl (by decide) k_11_71 rfl d_15_153_95 ?_
  refine lv_iconst (v := iI 4) hx hb d_15_153_98 rfl ?_
  refine zald (ci := 14) (k := 73) hx hb hK rfl hZ18 (by decide) (by decide) rfl (Nat.le_of_ble_eq_true rfl) (by decide) (by decide) d_15_153_99 ?_
  obtain ⟨g19, hf⟩ := gif hf
  refine W.eq (g2 := F0 m 100 ls [.int (iI (B 14 0 73 4)), .ref (ad 13 (F 14 0 6) 0)]) (by rw [zrf_pos (ad := ad) (t := 13) g19.1]; try rfl) ?_
  refine zput (ci := 13) (C := RX13) (T := TX13) (k := 4) (v := (B 14 0 73 4)) (w := .int (iI (B 14 0 73 4))) hx hb hts inW_13 tyX13 tyX13_ok nmX13 hown hK hZ18 hS18 g19.1 g19.2 rfl (by decide) k_9_129 rfl (fun G h => congrArg (fun q => Value.int (iI q)) h) rfl rfl d_15_153_100 (fun H20 locs20 hZ20 hS20 => ?_)
  refine lv_aload_n hx hb d_15_153_103 rfl (lv_at hl 0 rfl) ?_
  refine zget (ci := 14) (C := RX14) (T := TX14) (v := va_rf (zrf ad 13 (F 14 0 6))) (k := 6) hx hb hts inW_14 hown hK hZ20 (by decide) (by decide) rfl (by decide) k_11_4 (congrArg (fun q => va_rf (zrf ad 13 q)) (show (zup3 (zup3 F 13 s0 3 s1) 13 (F 14 0 6) 4 (B 14 0 73 4)) 14 0 6 = F 14 0 6 by simp [zup3])) d_15_153_104 ?_
  refine lv_aload_n hx hb d_15_153_107 rfl (lv_at hl 0 rfl) ?_
  refine zget (ci := 14) (C := RX14) (T := TX14) (v := .ref (ad 14 0 (73 + 1))) (k := 73) hx hb hts inW_14 hown hK hZ20 (by decide) (by decide) rfl (by decide) k_11_71 rfl d_15_153_108 ?_
  refine lv_iconst (v := iI 5) hx hb d_15_153_111 rfl ?_
  refine zald (ci := 14) (k := 73) hx hb hK rfl hZ20 (by decide) (by decide) rfl (Nat.le_of_ble_eq_true rfl) (by decide) (by decide) d_15_153_112 ?_
  refine W.eq (g2 := F0 m 113 ls [.int (iI (B 14 0 73 5)), .ref (ad 13 (F 14 0 6) 0)]) (by rw [zrf_pos (ad := ad) (t := 13) g19.1]; try rfl) ?_
  refine zput (ci := 13) (C := RX13) (T := TX13) (k := 5) (v := (B 14 0 73 5)) (w := .int (iI (B 14 0 73 5))) hx hb hts inW_13 tyX13 tyX13_ok nmX13 hown hK hZ20 hS20 g19.1 g19.2 rfl (by decide) k_9_130 rfl (fun G h => congrArg (fun q => Value.int (iI q)) h) rfl rfl d_15_153_113 (fun H21 locs21 hZ21 hS21 => ?_)
  refine lv_lconst (v := lI 0) hx hb d_15_153_116 (by decide) ?_
  refine lv_lstore_n (lv' := [(2, .long (lI 0)), (0, .ref (ad 14 0 0)), (1, .int (iI l1))]) hx hb d_15_153_117 rfl hl (by decide) rfl (fun ls hl => ?_)
  refine lv_iconst (v := iI 0) hx hb d_15_153_118 rfl ?_
  refine lv_istore (lv' := [(4, .int (iI 0)), (2, .long (lI 0)), (0, .ref (ad 14 0 0)), (1, .int (iI l1))]) hx hb d_15_153_119 hl (by decide) rfl (fun ls hl => ?_)
  exact b_M_down_121 X hf hZ21 hS21 (lv_sub hl [0, 1, 2, 3] rfl)

def f_M_down_42 (K : Nat) (l1 : Int) (F : zF) (B : zB) : zO := if 0 ≤ (F 14 0 6) ∧ (F 14 0 6) < 3 then if r32 (B 14 0 73 3) then (if (B 14 0 73 3) = 1 then f_M_down_87 K l1 (F 14 0 6) 1 (zup3 (zup3 (zup3 F 14 0 71 0) 13 (F 14 0 6) 1 0) 13 (F 14 0 6) 2 (B 14 0 73 2)) B else f_M_down_87 K l1 (F 14 0 6) 0 (zup3 (zup3 (zup3 F 14 0 71 0) 13 (F 14 0 6) 1 0) 13 (F 14 0 6) 2 (B 14 0 73 2)) B) else none else none
set_option maxHeartbeats 4000000 in
set_option maxRecDepth 100000 in
theorem b_M_down_42 {D : va_G} {ca : Nat → ClassId} {ad : Nat → Int → Nat → Nat} {L : List Nat} {aS vS : Nat → Nat} {A : Nat → Prop} {p : Program} {l : Launch} {e : Env} {s : State} {m : MethodId} {args : Array Value} {below : List Frame} {meth : Method} {c : Code} {K : Nat} {r : Int} {F9 : zF} {B9 : zB} (X : zX D ca L aS vS A p s m args meth c prog_15_method_153_code 7 (Option.some Jvm.ClassFile.FieldType.int) "StaveHouseModel") {l1 : Int} {F : zF} {B : zB} {H : Heap} {locs : List Loc} {ls : Array Slot} (hf : f_M_down_42 K l1 F B = some (r, F9, B9)) (hZ : zH D ca ad lnM nM L F B A H) (hS : va_S A s.heap H locs) (hl : lv_has ls 7 [(0, .ref (ad 14 0 0)), (1, .int (iI l1))]) : W p l e ({ frames := 10, cells := 0, slots := 0, locals := 331 } : Room) s m args below meth c H locs 0 0 (MQ below (Q_M_down D ca ad L r F9 B9 A) args s 0 0 A) (F0 m 42 ls []) := by
  obtain ⟨hx, hb, hr, hml, hown, hts, hlk, hK, hA, hL, hX⟩ := id X
  replace hf : (if 0 ≤ (F 14 0 6) ∧ (F 14 0 6) < 3 then if r32 (B 14 0 73 3) then (if (B 14 0 73 3) = 1 then f_M_down_87 K l1 (F 14 0 6) 1 (zup3 (zup3 (zup3 F 14 0 71 0) 13 (F 14 0 6) 1 0) 13 (F 14 0 6) 2 (B 14 0 73 2)) B else f_M_down_87 K l1 (F 14 0 6) 0 (zup3 (zup3 (zup3 F 14 0 71 0) 13 (F 14 0 6) 1 0) 13 (F 14 0 6) 2 (B 14 0 73 2)) B) else none else none) = some (r, F9, B9) := hf
  refine lv_aload_n hx hb d_15_153_42 rfl (lv_at hl 0 rfl) ?_
  refine lv_iconst (v := iI 0) hx hb d_15_153_43 rfl ?_
  refine zput (ci := 14) (C := RX14) (T := TX14) (k := 71) (v := 0) (w := .int (iI 0)) hx hb hts inW_14 tyX14 tyX14_ok nmX14 hown hK hZ hS (by decide) (by decide) rfl (by decide) k_11_69 rfl (fun G h => congrArg (fun q => Value.int (iI q)) h) rfl rfl d_15_153_44 (fun H10 locs10 hZ10 hS10 => ?_)
  refine lv_aload_n hx hb d_15_153_47 rfl (lv_at hl 0 rfl) ?_
  refine zget (ci := 14) (C := RX14) (T := TX14) (v := va_rf (zrf ad 13 (F 14 0 6))) (k := 6) hx hb hts inW_14 hown hK hZ10 (by decide) (by decide) rfl (by decide) k_11_4 rfl d_15_153_48 ?_
  refine lv_iconst (v := iI 0) hx hb d_15_153_51 rfl ?_
  obtain ⟨g11, hf⟩ := gif hf
  refine W.eq (g2 := F0 m 52 ls [.int (iI 0), .ref (ad 13 (F 14 0 6) 0)]) (by rw [zrf_pos (ad := ad) (t := 13) g11.1]; try rfl) ?_
  refine zput (ci := 13) (C := RX13) (T := TX13) (k := 1) (v := 0) (w := .int (iI 0)) hx hb hts inW_13 tyX13 tyX13_ok nmX13 hown hK hZ10 hS10 g11.1 g11.2 rfl (by decide) k_9_126 rfl (fun G h => congrArg (fun q => Value.int (iI q)) h) rfl rfl d_15_153_52 (fun H12 locs12 hZ12 hS12 => ?_)
  refine lv_aload_n hx hb d_15_153_55 rfl (lv_at hl 0 rfl) ?_
  refine zget (ci := 14) (C := RX14) (T := TX14) (v := va_rf (zrf ad 13 (F 14 0 6))) (k := 6) hx hb hts inW_14 hown hK hZ12 (by decide) (by decide) rfl (by decide) k_11_4 (congrArg (fun q => va_rf (zrf ad 13 q)) (show (zup3 (zup3 F 14 0 71 0) 13 (F 14 0 6) 1 0) 14 0 6 = F 14 0 6 by simp [zup3])) d_15_153_56 ?_
  refine lv_aload_n hx hb d_15_153_59 rfl (lv_at hl 0 rfl) ?_
  refine zget (ci := 14) (C := RX14) (T := TX14) (v := .ref (ad 14 0 (73 + 1))) (k := 73) hx hb hts inW_14 hown hK hZ12 (by decide) (by decide) rfl (by decide) k_11_71 rfl d_15_153_60 ?_
  refine lv_iconst (v := iI 2) hx hb d_15_153_63 rfl ?_
  refine zald (ci := 14) (k := 73) hx hb hK rfl hZ12 (by decide) (by decide) rfl (Nat.le_of_ble_eq_true rfl) (by decide) (by decide) d_15_153_64 ?_
  refine W.eq (g2 := F0 m 65 ls [.int (iI (B 14 0 73 2)), .ref (ad 13 (F 14 0 6) 0)]) (by rw [zrf_pos (ad := ad) (t := 13) g11.1]; try rfl) ?_
  refine zput (ci := 13) (C := RX13) (T := TX13) (k := 2) (v := (B 14 0 73 2)) (w := .int (iI (B 14 0 73 2))) hx hb hts inW_13 tyX13 tyX13_ok nmX13 hown hK hZ12 hS12 g11.1 g11.2 rfl (by decide) k_9_127 rfl (fun G h => congrArg (fun q => Value.int (iI q)) h) rfl rfl d_15_153_65 (fun H13 locs13 hZ13 hS13 => ?_)
  refine lv_aload_n hx hb d_15_153_68 rfl (lv_at hl 0 rfl) ?_
  refine zget (ci := 14) (C := RX14) (T := TX14) (v := va_rf (zrf ad 13 (F 14 0 6))) (k := 6) hx hb hts inW_14 hown hK hZ13 (by decide) (by decide) rfl (by decide) k_11_4 (congrArg (fun q => va_rf (zrf ad 13 q)) (show (zup3 (zup3 (zup3 F 14 0 71 0) 13 (F 14 0 6) 1 0) 13 (F 14 0 6) 2 (B 14 0 73 2)) 14 0 6 = F 14 0 6 by simp [zup3])) d_15_153_69 ?_
  refine lv_aload_n hx hb d_15_153_72 rfl (lv_at hl 0 rfl) ?_
  refine zget (ci := 14) (C := RX14) (T := TX14) (v := .ref (ad 14 0 (73 + 1))) (k := 73) hx hb hts inW_14 hown hK hZ13 (by decide) (by decide) rfl (by decide) k_11_71 rfl d_15_153_73 ?_
  refine lv_iconst (v := iI 3) hx hb d_15_153_76 rfl ?_
  refine zald (ci := 14) (k := 73) hx hb hK rfl hZ13 (by decide) (by decide) rfl (Nat.le_of_ble_eq_true rfl) (by decide) (by decide) d_15_153_77 ?_
  refine lv_iconst (v := iI 1) hx hb d_15_153_78 rfl ?_
  obtain ⟨g14, hf⟩ := gif hf
  refine zne (tgt := 86) hx hb g14 (by decide) d_15_153_79 (by decide) (fun h15 => ?_) (fun h15 => ?_)
  · replace hf := gneg hf h15
    refine lv_iconst (v := iI 0) hx hb d_15_153_86 rfl ?_
    exact b_M_down_87 X hf hZ13 hS13 (lv_sub hl [0, 1] rfl)
  · replace hf := gpos hf h15
    refine lv_iconst (v := iI 1) hx hb d_15_153_82 rfl ?_
    refine lv_goto (tgt := 87) hx hb d_15_153_83 (by decide) ?_
    exact b_M_down_87 X hf hZ13 hS13 (lv_sub hl [0, 1] rfl)

def f_M_down_40 (K : Nat)  (F : zF) (B : zB) : zO := some ((-1), F, B)
set_option maxHeartbeats 4000000 in
set_option maxRecDepth 100000 in
theorem b_M_down_40 {D : va_G} {ca : Nat → ClassId} {ad : Nat → Int → Nat → Nat} {L : List Nat} {aS vS : Nat → Nat} {A : Nat → Prop} {p : Program} {l : Launch} {e : Env} {s : State} {m : MethodId} {args : Array Value} {below : List Frame} {meth : Method} {c : Code} {K : Nat} {r : Int} {F9 : zF} {B9 : zB} (X : zX D ca L aS vS A p s m args meth c prog_15_method_153_code 7 (Option.some Jvm.ClassFile.FieldType.int) "StaveHouseModel")  {F : zF} {B : zB} {H : Heap} {locs : List Loc} {ls : Array Slot} (hf : f_M_down_40 K  F B = some (r, F9, B9)) (hZ : zH D ca ad lnM nM L F B A H) (hS : va_S A s.heap H locs) (hl : lv_has ls 7 []) : W p l e ({ frames := 10, cells := 0, slots := 0, locals := 331 } : Room) s m args below meth c H locs 0 0 (MQ below (Q_M_down D ca ad L r F9 B9 A) args s 0 0 A) (F0 m 40 ls []) := by
  obtain ⟨hx, hb, hr, hml, hown, hts, hlk, hK, hA, hL, hX⟩ := id X
  replace hf : (some ((-1), F, B)) = some (r, F9, B9) := hf
  refine lv_iconst (v := iI (-1)) hx hb d_15_153_40 rfl ?_
  cases hf
  exact W.iret hx hb hr (fun t ht hW => ⟨⟨_, (), rfl, rfl, by rw [ht]; exact hZ, va_K.moved hW.alike hK⟩, hS.F ht⟩) hS.2.2 d_15_153_41 hlk

def f_M_down (K : Nat) (l1 : Int) (F : zF) (B : zB) : zO := if r32 (F 14 0 72) then (if (F 14 0 72) = 0 then f_M_down_40 K F B else if r32 (B 14 0 73 7) then (if (B 14 0 73 7) = 0 then f_M_down_40 K F B else if r32 l1 then (if l1 = 4 then f_M_down_42 K l1 F B else (if l1 = 8 then f_M_down_42 K l1 F B else (if l1 = 16 then f_M_down_42 K l1 F B else (if l1 = 32 then f_M_down_42 K l1 F B else f_M_down_40 K F B)))) else none) else none) else none
set_option maxHeartbeats 4000000 in
set_option maxRecDepth 100000 in
theorem c_M_down {l : Launch} {D : va_G} {ca : Nat → ClassId} {ad : Nat → Int → Nat → Nat} {L : List Nat} {aS vS : Nat → Nat} {sz K : Nat}  {l1 : Int} {F F9 : zF} {B B9 : zB} {r : Int} (hf : f_M_down K l1 F B = some (r, F9, B9)) : Met l ({ cls := "StaveHouseModel", name := "down", desc := "(I)I" } : Jvm.MethodName) (Cond.code ({ cls := "StaveHouseModel", name := "down", desc := "(I)I" } : Jvm.MethodName) prog_15_method_153_code 7 (Option.some Jvm.ClassFile.FieldType.int) :: wAll) ({ frames := 10, cells := 0, slots := 0, locals := 331 } : Room) (va_Pc [.ref (ad 14 0 0), .int (iI l1)] (zPre D ca ad lnM nM L aS vS F B sz)) (Q_M_down D ca ad L r F9 B9 (zA L sz)) 0 0 (zA L sz) := by
  refine zMet (Qc := Q_M_down D ca ad L r F9 B9) (lv := [(0, .ref (ad 14 0 0)), (1, .int (iI l1))]) (by decide) (Nat.le_of_ble_eq_true rfl) rfl (fun A p e s m below meth c ls X hZ hS hl => ?_)
  obtain ⟨hx, hb, hr, hml, hown, hts, hlk, hK, hA, hL, hX⟩ := id X
  replace hf : (if r32 (F 14 0 72) then (if (F 14 0 72) = 0 then f_M_down_40 K F B else if r32 (B 14 0 73 7) then (if (B 14 0 73 7) = 0 then f_M_down_40 K F B else if r32 l1 then (if l1 = 4 then f_M_down_42 K l1 F B else (if l1 = 8 then f_M_down_42 K l1 F B else (if l1 = 16 then f_M_down_42 K l1 F B else (if l1 = 32 then f_M_down_42 K l1 F B else f_M_down_40 K F B)))) else none) else none) else none) = some (r, F9, B9) := hf
  refine lv_aload_n hx hb d_15_153_0 rfl (lv_at hl 0 rfl) ?_
  refine zget (ci := 14) (C := RX14) (T := TX14) (v := .int (iI (F 14 0 72))) (k := 72) hx hb hts inW_14 hown hK hZ (by decide) (by decide) rfl (by decide) k_11_70 rfl d_15_153_1 ?_
  obtain ⟨g1, hf⟩ := gif hf
  refine z0eq (tgt := 40) hx hb g1 d_15_153_4 (by decide) (fun h2 => ?_) (fun h2 => ?_)
  · replace hf := gpos hf h2
    exact b_M_down_40 X hf hZ hS (lv_sub hl [] rfl)
  · replace hf := gneg hf h2
    refine lv_aload_n hx hb d_15_153_7 rfl (lv_at hl 0 rfl) ?_
    refine zget (ci := 14) (C := RX14) (T := TX14) (v := .ref (ad 14 0 (73 + 1))) (k := 73) hx hb hts inW_14 hown hK hZ (by decide) (by decide) rfl (by decide) k_11_71 rfl d_15_153_8 ?_
    refine lv_bipush (v := iI 7) hx hb d_15_153_11 (by decide) ?_
    refine zald (ci := 14) (k := 73) hx hb hK rfl hZ (by decide) (by decide) rfl (Nat.le_of_ble_eq_true rfl) (by decide) (by decide) d_15_153_13 ?_
    obtain ⟨g3, hf⟩ := gif hf
    refine z0eq (tgt := 40) hx hb g3 d_15_153_14 (by decide) (fun h4 => ?_) (fun h4 => ?_)
    · replace hf := gpos hf h4
      exact b_M_down_40 X hf hZ hS (lv_sub hl [] rfl)
    · replace hf := gneg hf h4
      refine lv_iload_n hx hb d_15_153_17 rfl (lv_at hl 1 rfl) ?_
      refine lv_iconst (v := iI 4) hx hb d_15_153_18 rfl ?_
      obtain ⟨g5, hf⟩ := gif hf
      refine zeq (tgt := 42) hx hb g5 (by decide) d_15_153_19 (by decide) (fun h6 => ?_) (fun h6 => ?_)
      · replace hf := gpos hf h6
        exact b_M_down_42 X hf hZ hS (lv_sub hl [0, 1] rfl)
      · replace hf := gneg hf h6
        refine lv_iload_n hx hb d_15_153_22 rfl (lv_at hl 1 rfl) ?_
        refine lv_bipush (v := iI 8) hx hb d_15_153_23 (by decide) ?_
        refine zeq (tgt := 42) hx hb g5 (by decide) d_15_153_25 (by decide) (fun h7 => ?_) (fun h7 => ?_)
        · replace hf := gpos hf h7
          exact b_M_down_42 X hf hZ hS (lv_sub hl [0, 1] rfl)
        · replace hf := gneg hf h7
          refine lv_iload_n hx hb d_15_153_28 rfl (lv_at hl 1 rfl) ?_
          refine lv_bipush (v := iI 16) hx hb d_15_153_29 (by decide) ?_
          refine zeq (tgt := 42) hx hb g5 (by decide) d_15_153_31 (by decide) (fun h8 => ?_) (fun h8 => ?_)
          · replace hf := gpos hf h8
            exact b_M_down_42 X hf hZ hS (lv_sub hl [0, 1] rfl)
          · replace hf := gneg hf h8
            refine lv_iload_n hx hb d_15_153_34 rfl (lv_at hl 1 rfl) ?_
            refine lv_bipush (v := iI 32) hx hb d_15_153_35 (by decide) ?_
            refine zeq (tgt := 42) hx hb g5 (by decide) d_15_153_37 (by decide) (fun h9 => ?_) (fun h9 => ?_)
            · replace hf := gpos hf h9
              exact b_M_down_42 X hf hZ hS (lv_sub hl [0, 1] rfl)
            · replace hf := gneg hf h9
              exact b_M_down_40 X hf hZ hS (lv_sub hl [] rfl)

