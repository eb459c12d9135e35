theorem k_9_117 : (Jvm.Cond.methodLink "StaveHouseModel" (24 : Nat) ({ cls := "java/lang/Object", name := "<init>", desc := "()V" } : Jvm.MethodName)) ∈ wAll := wA_9 (j := 117) rfl rfl
theorem k_4_180 : (Jvm.Cond.arrayClass Jvm.ClassFile.FieldType.byte) ∈ wAll := wA_4 (j := 180) rfl rfl
theorem k_9_118 : (Jvm.Cond.classLink "StaveHouseModel" (37 : Nat) "StaveHouseModel$Piece") ∈ wAll := wA_9 (j := 118) rfl rfl
theorem k_9_120 : (Jvm.Cond.instantiable "StaveHouseModel$Piece" (81 : Nat)) ∈ wAll := wA_9 (j := 120) rfl rfl
theorem k_1_10 : (Jvm.Cond.initialized "StaveHouseModel$Piece") ∈ wAll := wA_1 (j := 10) rfl rfl
theorem k_9_123 : (Jvm.Cond.code ({ cls := "StaveHouseModel$Piece", name := "<init>", desc := "()V" } : Jvm.MethodName) prog_16_method_1_code (1 : Nat) (Option.none : Option Jvm.ClassFile.FieldType)) ∈ wAll := wA_9 (j := 123) rfl rfl
theorem k_9_122 : (Jvm.Cond.instanceMethod ({ cls := "StaveHouseModel$Piece", name := "<init>", desc := "()V" } : Jvm.MethodName)) ∈ wAll := wA_9 (j := 122) rfl rfl
theorem W_prog_15_method_11_code_0 : chW prog_15_method_11_code 0 [42, 183, 0, 24, 42, 10, 181, 0, 13, 42, 17, 11, 184, 188, 8, 181, 0, 30, 42, 16, 20, 188, 8, 181, 0, 34, 42, 5, 189, 0, 37, 89, 3, 187, 0, 37] := chW_of (by decide +kernel)
theorem d_15_11_0 : decode prog_15_method_11_code 0 = .ok (.aload_n 0, 1) := D_42 W_prog_15_method_11_code_0 0 rfl rfl
theorem d_15_11_1 : decode prog_15_method_11_code 1 = .ok (.invokespecial 24, 3) := D_183 W_prog_15_method_11_code_0 1 rfl rfl rfl
theorem d_15_11_4 : decode prog_15_method_11_code 4 = .ok (.aload_n 0, 1) := D_42 W_prog_15_method_11_code_0 4 rfl rfl
theorem d_15_11_5 : decode prog_15_method_11_code 5 = .ok (.lconst 1, 1) := D_10 W_prog_15_method_11_code_0 5 rfl rfl
theorem d_15_11_6 : decode prog_15_method_11_code 6 = .ok (.putfield 13, 3) := D_181 W_prog_15_method_11_code_0 6 rfl rfl rfl
theorem d_15_11_9 : decode prog_15_method_11_code 9 = .ok (.aload_n 0, 1) := D_42 W_prog_15_method_11_code_0 9 rfl rfl
theorem d_15_11_10 : decode prog_15_method_11_code 10 = .ok (.sipush 3000, 3) := D_17 W_prog_15_method_11_code_0 10 rfl rfl rfl
theorem d_15_11_13 : decode prog_15_method_11_code 13 = .ok (.newarray .byte, 2) := D_188_8 W_prog_15_method_11_code_0 13 rfl rfl
theorem d_15_11_15 : decode prog_15_method_11_code 15 = .ok (.putfield 30, 3) := D_181 W_prog_15_method_11_code_0 15 rfl rfl rfl
theorem d_15_11_18 : decode prog_15_method_11_code 18 = .ok (.aload_n 0, 1) := D_42 W_prog_15_method_11_code_0 18 rfl rfl
theorem d_15_11_19 : decode prog_15_method_11_code 19 = .ok (.bipush 20, 2) := D_16 W_prog_15_method_11_code_0 19 rfl rfl rfl
theorem d_15_11_21 : decode prog_15_method_11_code 21 = .ok (.newarray .byte, 2) := D_188_8 W_prog_15_method_11_code_0 21 rfl rfl
theorem d_15_11_23 : decode prog_15_method_11_code 23 = .ok (.putfield 34, 3) := D_181 W_prog_15_method_11_code_0 23 rfl rfl rfl
theorem d_15_11_26 : decode prog_15_method_11_code 26 = .ok (.aload_n 0, 1) := D_42 W_prog_15_method_11_code_0 26 rfl rfl
theorem d_15_11_27 : decode prog_15_method_11_code 27 = .ok (.iconst 2, 1) := D_5 W_prog_15_method_11_code_0 27 rfl rfl
theorem d_15_11_28 : decode prog_15_method_11_code 28 = .ok (.anewarray 37, 3) := D_189 W_prog_15_method_11_code_0 28 rfl rfl rfl
theorem d_15_11_31 : decode prog_15_method_11_code 31 = .ok (.dup, 1) := D_89 W_prog_15_method_11_code_0 31 rfl rfl
theorem W_prog_15_method_11_code_32 : chW prog_15_method_11_code 32 [3, 187, 0, 37, 89, 183, 0, 39, 83, 89, 4, 187, 0, 37, 89, 183, 0, 39, 83, 181, 0, 40, 42, 187, 0, 37, 89, 183, 0, 39, 181, 0, 44, 42, 17, 11] := chW_of (by decide +kernel)
theorem d_15_11_32 : decode prog_15_method_11_code 32 = .ok (.iconst 0, 1) := D_3 W_prog_15_method_11_code_32 0 rfl rfl
theorem d_15_11_33 : decode prog_15_method_11_code 33 = .ok (.new 37, 3) := D_187 W_prog_15_method_11_code_32 1 rfl rfl rfl
theorem d_15_11_36 : decode prog_15_method_11_code 36 = .ok (.dup, 1) := D_89 W_prog_15_method_11_code_32 4 rfl rfl
theorem d_15_11_37 : decode prog_15_method_11_code 37 = .ok (.invokespecial 39, 3) := D_183 W_prog_15_method_11_code_32 5 rfl rfl rfl
theorem d_15_11_40 : decode prog_15_method_11_code 40 = .ok (.aastore, 1) := D_83 W_prog_15_method_11_code_32 8 rfl rfl
theorem d_15_11_41 : decode prog_15_method_11_code 41 = .ok (.dup, 1) := D_89 W_prog_15_method_11_code_32 9 rfl rfl
theorem d_15_11_42 : decode prog_15_method_11_code 42 = .ok (.iconst 1, 1) := D_4 W_prog_15_method_11_code_32 10 rfl rfl
theorem d_15_11_43 : decode prog_15_method_11_code 43 = .ok (.new 37, 3) := D_187 W_prog_15_method_11_code_32 11 rfl rfl rfl
theorem d_15_11_46 : decode prog_15_method_11_code 46 = .ok (.dup, 1) := D_89 W_prog_15_method_11_code_32 14 rfl rfl
theorem d_15_11_47 : decode prog_15_method_11_code 47 = .ok (.invokespecial 39, 3) := D_183 W_prog_15_method_11_code_32 15 rfl rfl rfl
theorem d_15_11_50 : decode prog_15_method_11_code 50 = .ok (.aastore, 1) := D_83 W_prog_15_method_11_code_32 18 rfl rfl
theorem d_15_11_51 : decode prog_15_method_11_code 51 = .ok (.putfield 40, 3) := D_181 W_prog_15_method_11_code_32 19 rfl rfl rfl
theorem d_15_11_54 : decode prog_15_method_11_code 54 = .ok (.aload_n 0, 1) := D_42 W_prog_15_method_11_code_32 22 rfl rfl
theorem d_15_11_55 : decode prog_15_method_11_code 55 = .ok (.new 37, 3) := D_187 W_prog_15_method_11_code_32 23 rfl rfl rfl
theorem d_15_11_58 : decode prog_15_method_11_code 58 = .ok (.dup, 1) := D_89 W_prog_15_method_11_code_32 26 rfl rfl
theorem d_15_11_59 : decode prog_15_method_11_code 59 = .ok (.invokespecial 39, 3) := D_183 W_prog_15_method_11_code_32 27 rfl rfl rfl
theorem d_15_11_62 : decode prog_15_method_11_code 62 = .ok (.putfield 44, 3) := D_181 W_prog_15_method_11_code_32 30 rfl rfl rfl
theorem W_prog_15_method_11_code_64 : chW prog_15_method_11_code 64 [44, 42, 17, 11, 185, 188, 10, 181, 0, 48, 42, 17, 11, 185, 188, 10, 181, 0, 52, 42, 17, 11, 185, 188, 10, 181, 0, 55, 42, 17, 11, 185, 188, 10, 181, 0] := chW_of (by decide +kernel)
theorem d_15_11_65 : decode prog_15_method_11_code 65 = .ok (.aload_n 0, 1) := D_42 W_prog_15_method_11_code_64 1 rfl rfl
theorem d_15_11_66 : decode prog_15_method_11_code 66 = .ok (.sipush 3001, 3) := D_17 W_prog_15_method_11_code_64 2 rfl rfl rfl
theorem d_15_11_69 : decode prog_15_method_11_code 69 = .ok (.newarray .int, 2) := D_188_10 W_prog_15_method_11_code_64 5 rfl rfl
theorem d_15_11_71 : decode prog_15_method_11_code 71 = .ok (.putfield 48, 3) := D_181 W_prog_15_method_11_code_64 7 rfl rfl rfl
theorem d_15_11_74 : decode prog_15_method_11_code 74 = .ok (.aload_n 0, 1) := D_42 W_prog_15_method_11_code_64 10 rfl rfl
theorem d_15_11_75 : decode prog_15_method_11_code 75 = .ok (.sipush 3001, 3) := D_17 W_prog_15_method_11_code_64 11 rfl rfl rfl
theorem d_15_11_78 : decode prog_15_method_11_code 78 = .ok (.newarray .int, 2) := D_188_10 W_prog_15_method_11_code_64 14 rfl rfl
theorem d_15_11_80 : decode prog_15_method_11_code 80 = .ok (.putfield 52, 3) := D_181 W_prog_15_method_11_code_64 16 rfl rfl rfl
theorem d_15_11_83 : decode prog_15_method_11_code 83 = .ok (.aload_n 0, 1) := D_42 W_prog_15_method_11_code_64 19 rfl rfl
theorem d_15_11_84 : decode prog_15_method_11_code 84 = .ok (.sipush 3001, 3) := D_17 W_prog_15_method_11_code_64 20 rfl rfl rfl
theorem d_15_11_87 : decode prog_15_method_11_code 87 = .ok (.newarray .int, 2) := D_188_10 W_prog_15_method_11_code_64 23 rfl rfl
theorem d_15_11_89 : decode prog_15_method_11_code 89 = .ok (.putfield 55, 3) := D_181 W_prog_15_method_11_code_64 25 rfl rfl rfl
theorem d_15_11_92 : decode prog_15_method_11_code 92 = .ok (.aload_n 0, 1) := D_42 W_prog_15_method_11_code_64 28 rfl rfl
theorem d_15_11_93 : decode prog_15_method_11_code 93 = .ok (.sipush 3001, 3) := D_17 W_prog_15_method_11_code_64 29 rfl rfl rfl
theorem W_prog_15_method_11_code_96 : chW prog_15_method_11_code 96 [188, 10, 181, 0, 58, 42, 17, 11, 185, 188, 11, 181, 0, 61, 42, 7, 188, 11, 89, 3, 18, 65, 184, 0, 67, 80, 89, 4, 18, 71, 184, 0, 67, 80, 89, 5] := chW_of (by decide +kernel)
theorem d_15_11_96 : decode prog_15_method_11_code 96 = .ok (.newarray .int, 2) := D_188_10 W_prog_15_method_11_code_96 0 rfl rfl
theorem d_15_11_98 : decode prog_15_method_11_code 98 = .ok (.putfield 58, 3) := D_181 W_prog_15_method_11_code_96 2 rfl rfl rfl
theorem d_15_11_101 : decode prog_15_method_11_code 101 = .ok (.aload_n 0, 1) := D_42 W_prog_15_method_11_code_96 5 rfl rfl
theorem d_15_11_102 : decode prog_15_method_11_code 102 = .ok (.sipush 3001, 3) := D_17 W_prog_15_method_11_code_96 6 rfl rfl rfl
theorem d_15_11_105 : decode prog_15_method_11_code 105 = .ok (.newarray .long, 2) := D_188_11 W_prog_15_method_11_code_96 9 rfl rfl
theorem d_15_11_107 : decode prog_15_method_11_code 107 = .ok (.putfield 61, 3) := D_181 W_prog_15_method_11_code_96 11 rfl rfl rfl
theorem d_15_11_110 : decode prog_15_method_11_code 110 = .ok (.aload_n 0, 1) := D_42 W_prog_15_method_11_code_96 14 rfl rfl
theorem d_15_11_111 : decode prog_15_method_11_code 111 = .ok (.iconst 4, 1) := D_7 W_prog_15_method_11_code_96 15 rfl rfl
theorem d_15_11_112 : decode prog_15_method_11_code 112 = .ok (.newarray .long, 2) := D_188_11 W_prog_15_method_11_code_96 16 rfl rfl
theorem d_15_11_114 : decode prog_15_method_11_code 114 = .ok (.dup, 1) := D_89 W_prog_15_method_11_code_96 18 rfl rfl
theorem d_15_11_115 : decode prog_15_method_11_code 115 = .ok (.iconst 0, 1) := D_3 W_prog_15_method_11_code_96 19 rfl rfl
theorem d_15_11_116 : decode prog_15_method_11_code 116 = .ok (.ldc 65, 2) := D_18 W_prog_15_method_11_code_96 20 rfl rfl
theorem d_15_11_118 : decode prog_15_method_11_code 118 = .ok (.invokestatic 67, 3) := D_184 W_prog_15_method_11_code_96 22 rfl rfl rfl
theorem d_15_11_121 : decode prog_15_method_11_code 121 = .ok (.lastore, 1) := D_80 W_prog_15_method_11_code_96 25 rfl rfl
theorem d_15_11_122 : decode prog_15_method_11_code 122 = .ok (.dup, 1) := D_89 W_prog_15_method_11_code_96 26 rfl rfl
theorem d_15_11_123 : decode prog_15_method_11_code 123 = .ok (.iconst 1, 1) := D_4 W_prog_15_method_11_code_96 27 rfl rfl
theorem d_15_11_124 : decode prog_15_method_11_code 124 = .ok (.ldc 71, 2) := D_18 W_prog_15_method_11_code_96 28 rfl rfl
theorem d_15_11_126 : decode prog_15_method_11_code 126 = .ok (.invokestatic 67, 3) := D_184 W_prog_15_method_11_code_96 30 rfl rfl rfl
theorem W_prog_15_method_11_code_128 : chW prog_15_method_11_code 128 [67, 80, 89, 5, 18, 73, 184, 0, 67, 80, 89, 6, 18, 75, 184, 0, 67, 80, 181, 0, 77, 42, 16, 8, 188, 11, 89, 3, 18, 80, 184, 0, 67, 80, 89, 4] := chW_of (by decide +kernel)
theorem d_15_11_129 : decode prog_15_method_11_code 129 = .ok (.lastore, 1) := D_80 W_prog_15_method_11_code_128 1 rfl rfl
theorem d_15_11_130 : decode prog_15_method_11_code 130 = .ok (.dup, 1) := D_89 W_prog_15_method_11_code_128 2 rfl rfl
theorem d_15_11_131 : decode prog_15_method_11_code 131 = .ok (.iconst 2, 1) := D_5 W_prog_15_method_11_code_128 3 rfl rfl
theorem d_15_11_132 : decode prog_15_method_11_code 132 = .ok (.ldc 73, 2) := D_18 W_prog_15_method_11_code_128 4 rfl rfl
theorem d_15_11_134 : decode prog_15_method_11_code 134 = .ok (.invokestatic 67, 3) := D_184 W_prog_15_method_11_code_128 6 rfl rfl rfl
theorem d_15_11_137 : decode prog_15_method_11_code 137 = .ok (.lastore, 1) := D_80 W_prog_15_method_11_code_128 9 rfl rfl
theorem d_15_11_138 : decode prog_15_method_11_code 138 = .ok (.dup, 1) := D_89 W_prog_15_method_11_code_128 10 rfl rfl
theorem d_15_11_139 : decode prog_15_method_11_code 139 = .ok (.iconst 3, 1) := D_6 W_prog_15_method_11_code_128 11 rfl rfl
theorem d_15_11_140 : decode prog_15_method_11_code 140 = .ok (.ldc 75, 2) := D_18 W_prog_15_method_11_code_128 12 rfl rfl
theorem d_15_11_142 : decode prog_15_method_11_code 142 = .ok (.invokestatic 67, 3) := D_184 W_prog_15_method_11_code_128 14 rfl rfl rfl
theorem d_15_11_145 : decode prog_15_method_11_code 145 = .ok (.lastore, 1) := D_80 W_prog_15_method_11_code_128 17 rfl rfl
theorem d_15_11_146 : decode prog_15_method_11_code 146 = .ok (.putfield 77, 3) := D_181 W_prog_15_method_11_code_128 18 rfl rfl rfl
theorem d_15_11_149 : decode prog_15_method_11_code 149 = .ok (.aload_n 0, 1) := D_42 W_prog_15_method_11_code_128 21 rfl rfl
theorem d_15_11_150 : decode prog_15_method_11_code 150 = .ok (.bipush 8, 2) := D_16 W_prog_15_method_11_code_128 22 rfl rfl rfl
theorem d_15_11_152 : decode prog_15_method_11_code 152 = .ok (.newarray .long, 2) := D_188_11 W_prog_15_method_11_code_128 24 rfl rfl
theorem d_15_11_154 : decode prog_15_method_11_code 154 = .ok (.dup, 1) := D_89 W_prog_15_method_11_code_128 26 rfl rfl
theorem d_15_11_155 : decode prog_15_method_11_code 155 = .ok (.iconst 0, 1) := D_3 W_prog_15_method_11_code_128 27 rfl rfl
theorem d_15_11_156 : decode prog_15_method_11_code 156 = .ok (.ldc 80, 2) := D_18 W_prog_15_method_11_code_128 28 rfl rfl
theorem d_15_11_158 : decode prog_15_method_11_code 158 = .ok (.invokestatic 67, 3) := D_184 W_prog_15_method_11_code_128 30 rfl rfl rfl
theorem W_prog_15_method_11_code_160 : chW prog_15_method_11_code 160 [67, 80, 89, 4, 18, 82, 184, 0, 67, 80, 89, 5, 18, 84, 184, 0, 67, 80, 89, 6, 18, 86, 184, 0, 67, 80, 89, 7, 18, 88, 184, 0, 67, 80, 89, 8] := chW_of (by decide +kernel)
theorem d_15_11_161 : decode prog_15_method_11_code 161 = .ok (.lastore, 1) := D_80 W_prog_15_method_11_code_160 1 rfl rfl
theorem d_15_11_162 : decode prog_15_method_11_code 162 = .ok (.dup, 1) := D_89 W_prog_15_method_11_code_160 2 rfl rfl
theorem d_15_11_163 : decode prog_15_method_11_code 163 = .ok (.iconst 1, 1) := D_4 W_prog_15_method_11_code_160 3 rfl rfl
theorem d_15_11_164 : decode prog_15_method_11_code 164 = .ok (.ldc 82, 2) := D_18 W_prog_15_method_11_code_160 4 rfl rfl
theorem d_15_11_166 : decode prog_15_method_11_code 166 = .ok (.invokestatic 67, 3) := D_184 W_prog_15_method_11_code_160 6 rfl rfl rfl
theorem d_15_11_169 : decode prog_15_method_11_code 169 = .ok (.lastore, 1) := D_80 W_prog_15_method_11_code_160 9 rfl rfl
theorem d_15_11_170 : decode prog_15_method_11_code 170 = .ok (.dup, 1) := D_89 W_prog_15_method_11_code_160 10 rfl rfl
theorem d_15_11_171 : decode prog_15_method_11_code 171 = .ok (.iconst 2, 1) := D_5 W_prog_15_method_11_code_160 11 rfl rfl
theorem d_15_11_172 : decode prog_15_method_11_code 172 = .ok (.ldc 84, 2) := D_18 W_prog_15_method_11_code_160 12 rfl rfl
theorem d_15_11_174 : decode prog_15_method_11_code 174 = .ok (.invokestatic 67, 3) := D_184 W_prog_15_method_11_code_160 14 rfl rfl rfl
theorem d_15_11_177 : decode prog_15_method_11_code 177 = .ok (.lastore, 1) := D_80 W_prog_15_method_11_code_160 17 rfl rfl
theorem d_15_11_178 : decode prog_15_method_11_code 178 = .ok (.dup, 1) := D_89 W_prog_15_method_11_code_160 18 rfl rfl
theorem d_15_11_179 : decode prog_15_method_11_code 179 = .ok (.iconst 3, 1) := D_6 W_prog_15_method_11_code_160 19 rfl rfl
theorem d_15_11_180 : decode prog_15_method_11_code 180 = .ok (.ldc 86, 2) := D_18 W_prog_15_method_11_code_160 20 rfl rfl
theorem d_15_11_182 : decode prog_15_method_11_code 182 = .ok (.invokestatic 67, 3) := D_184 W_prog_15_method_11_code_160 22 rfl rfl rfl
theorem d_15_11_185 : decode prog_15_method_11_code 185 = .ok (.lastore, 1) := D_80 W_prog_15_method_11_code_160 25 rfl rfl
theorem d_15_11_186 : decode prog_15_method_11_code 186 = .ok (.dup, 1) := D_89 W_prog_15_method_11_code_160 26 rfl rfl
theorem d_15_11_187 : decode prog_15_method_11_code 187 = .ok (.iconst 4, 1) := D_7 W_prog_15_method_11_code_160 27 rfl rfl
theorem d_15_11_188 : decode prog_15_method_11_code 188 = .ok (.ldc 88, 2) := D_18 W_prog_15_method_11_code_160 28 rfl rfl
theorem d_15_11_190 : decode prog_15_method_11_code 190 = .ok (.invokestatic 67, 3) := D_184 W_prog_15_method_11_code_160 30 rfl rfl rfl
theorem W_prog_15_method_11_code_192 : chW prog_15_method_11_code 192 [67, 80, 89, 8, 18, 90, 184, 0, 67, 80, 89, 16, 6, 18, 92, 184, 0, 67, 80, 89, 16, 7, 18, 94, 184, 0, 67, 80, 181, 0, 96, 42, 16, 15, 188, 11] := chW_of (by decide +kernel)
theorem d_15_11_193 : decode prog_15_method_11_code 193 = .ok (.lastore, 1) := D_80 W_prog_15_method_11_code_192 1 rfl rfl
theorem d_15_11_194 : decode prog_15_method_11_code 194 = .ok (.dup, 1) := D_89 W_prog_15_method_11_code_192 2 rfl rfl
theorem d_15_11_195 : decode prog_15_method_11_code 195 = .ok (.iconst 5, 1) := D_8 W_prog_15_method_11_code_192 3 rfl rfl
theorem d_15_11_196 : decode prog_15_method_11_code 196 = .ok (.ldc 90, 2) := D_18 W_prog_15_method_11_code_192 4 rfl rfl
theorem d_15_11_198 : decode prog_15_method_11_code 198 = .ok (.invokestatic 67, 3) := D_184 W_prog_15_method_11_code_192 6 rfl rfl rfl
theorem d_15_11_201 : decode prog_15_method_11_code 201 = .ok (.lastore, 1) := D_80 W_prog_15_method_11_code_192 9 rfl rfl
theorem d_15_11_202 : decode prog_15_method_11_code 202 = .ok (.dup, 1) := D_89 W_prog_15_method_11_code_192 10 rfl rfl
theorem d_15_11_203 : decode prog_15_method_11_code 203 = .ok (.bipush 6, 2) := D_16 W_prog_15_method_11_code_192 11 rfl rfl rfl
theorem d_15_11_205 : decode prog_15_method_11_code 205 = .ok (.ldc 92, 2) := D_18 W_prog_15_method_11_code_192 13 rfl rfl
theorem d_15_11_207 : decode prog_15_method_11_code 207 = .ok (.invokestatic 67, 3) := D_184 W_prog_15_method_11_code_192 15 rfl rfl rfl
theorem d_15_11_210 : decode prog_15_method_11_code 210 = .ok (.lastore, 1) := D_80 W_prog_15_method_11_code_192 18 rfl rfl
theorem d_15_11_211 : decode prog_15_method_11_code 211 = .ok (.dup, 1) := D_89 W_prog_15_method_11_code_192 19 rfl rfl
theorem d_15_11_212 : decode prog_15_method_11_code 212 = .ok (.bipush 7, 2) := D_16 W_prog_15_method_11_code_192 20 rfl rfl rfl
theorem d_15_11_214 : decode prog_15_method_11_code 214 = .ok (.ldc 94, 2) := D_18 W_prog_15_method_11_code_192 22 rfl rfl
theorem d_15_11_216 : decode prog_15_method_11_code 216 = .ok (.invokestatic 67, 3) := D_184 W_prog_15_method_11_code_192 24 rfl rfl rfl
theorem d_15_11_219 : decode prog_15_method_11_code 219 = .ok (.lastore, 1) := D_80 W_prog_15_method_11_code_192 27 rfl rfl
theorem d_15_11_220 : decode prog_15_method_11_code 220 = .ok (.putfield 96, 3) := D_181 W_prog_15_method_11_code_192 28 rfl rfl rfl
theorem d_15_11_223 : decode prog_15_method_11_code 223 = .ok (.aload_n 0, 1) := D_42 W_prog_15_method_11_code_192 31 rfl rfl
theorem W_prog_15_method_11_code_224 : chW prog_15_method_11_code 224 [16, 15, 188, 11, 89, 3, 178, 0, 99, 80, 89, 4, 178, 0, 102, 80, 89, 5, 178, 0, 105, 80, 89, 6, 178, 0, 108, 80, 89, 7, 178, 0, 111, 80, 89, 8] := chW_of (by decide +kernel)
theorem d_15_11_224 : decode prog_15_method_11_code 224 = .ok (.bipush 15, 2) := D_16 W_prog_15_method_11_code_224 0 rfl rfl rfl
theorem d_15_11_226 : decode prog_15_method_11_code 226 = .ok (.newarray .long, 2) := D_188_11 W_prog_15_method_11_code_224 2 rfl rfl
theorem d_15_11_228 : decode prog_15_method_11_code 228 = .ok (.dup, 1) := D_89 W_prog_15_method_11_code_224 4 rfl rfl
theorem d_15_11_229 : decode prog_15_method_11_code 229 = .ok (.iconst 0, 1) := D_3 W_prog_15_method_11_code_224 5 rfl rfl
theorem d_15_11_230 : decode prog_15_method_11_code 230 = .ok (.getstatic 99, 3) := D_178 W_prog_15_method_11_code_224 6 rfl rfl rfl
theorem d_15_11_233 : decode prog_15_method_11_code 233 = .ok (.lastore, 1) := D_80 W_prog_15_method_11_code_224 9 rfl rfl
theorem d_15_11_234 : decode prog_15_method_11_code 234 = .ok (.dup, 1) := D_89 W_prog_15_method_11_code_224 10 rfl rfl
theorem d_15_11_235 : decode prog_15_method_11_code 235 = .ok (.iconst 1, 1) := D_4 W_prog_15_method_11_code_224 11 rfl rfl
theorem d_15_11_236 : decode prog_15_method_11_code 236 = .ok (.getstatic 102, 3) := D_178 W_prog_15_method_11_code_224 12 rfl rfl rfl
theorem d_15_11_239 : decode prog_15_method_11_code 239 = .ok (.lastore, 1) := D_80 W_prog_15_method_11_code_224 15 rfl rfl
theorem d_15_11_240 : decode prog_15_method_11_code 240 = .ok (.dup, 1) := D_89 W_prog_15_method_11_code_224 16 rfl rfl
theorem d_15_11_241 : decode prog_15_method_11_code 241 = .ok (.iconst 2, 1) := D_5 W_prog_15_method_11_code_224 17 rfl rfl
theorem d_15_11_242 : decode prog_15_method_11_code 242 = .ok (.getstatic 105, 3) := D_178 W_prog_15_method_11_code_224 18 rfl rfl rfl
theorem d_15_11_245 : decode prog_15_method_11_code 245 = .ok (.lastore, 1) := D_80 W_prog_15_method_11_code_224 21 rfl rfl
theorem d_15_11_246 : decode prog_15_method_11_code 246 = .ok (.dup, 1) := D_89 W_prog_15_method_11_code_224 22 rfl rfl
theorem d_15_11_247 : decode prog_15_method_11_code 247 = .ok (.iconst 3, 1) := D_6 W_prog_15_method_11_code_224 23 rfl rfl
theorem d_15_11_248 : decode prog_15_method_11_code 248 = .ok (.getstatic 108, 3) := D_178 W_prog_15_method_11_code_224 24 rfl rfl rfl
theorem d_15_11_251 : decode prog_15_method_11_code 251 = .ok (.lastore, 1) := D_80 W_prog_15_method_11_code_224 27 rfl rfl
theorem d_15_11_252 : decode prog_15_method_11_code 252 = .ok (.dup, 1) := D_89 W_prog_15_method_11_code_224 28 rfl rfl
theorem d_15_11_253 : decode prog_15_method_11_code 253 = .ok (.iconst 4, 1) := D_7 W_prog_15_method_11_code_224 29 rfl rfl
theorem d_15_11_254 : decode prog_15_method_11_code 254 = .ok (.getstatic 111, 3) := D_178 W_prog_15_method_11_code_224 30 rfl rfl rfl
theorem W_prog_15_method_11_code_256 : chW prog_15_method_11_code 256 [111, 80, 89, 8, 178, 0, 114, 80, 89, 16, 6, 178, 0, 117, 80, 89, 16, 7, 178, 0, 120, 80, 89, 16, 8, 178, 0, 123, 80, 89, 16, 9, 178, 0, 126, 80] := chW_of (by decide +kernel)
theorem d_15_11_257 : decode prog_15_method_11_code 257 = .ok (.lastore, 1) := D_80 W_prog_15_method_11_code_256 1 rfl rfl
theorem d_15_11_258 : decode prog_15_method_11_code 258 = .ok (.dup, 1) := D_89 W_prog_15_method_11_code_256 2 rfl rfl
theorem d_15_11_259 : decode prog_15_method_11_code 259 = .ok (.iconst 5, 1) := D_8 W_prog_15_method_11_code_256 3 rfl rfl
theorem d_15_11_260 : decode prog_15_method_11_code 260 = .ok (.getstatic 114, 3) := D_178 W_prog_15_method_11_code_256 4 rfl rfl rfl
theorem d_15_11_263 : decode prog_15_method_11_code 263 = .ok (.lastore, 1) := D_80 W_prog_15_method_11_code_256 7 rfl rfl
theorem d_15_11_264 : decode prog_15_method_11_code 264 = .ok (.dup, 1) := D_89 W_prog_15_method_11_code_256 8 rfl rfl
theorem d_15_11_265 : decode prog_15_method_11_code 265 = .ok (.bipush 6, 2) := D_16 W_prog_15_method_11_code_256 9 rfl rfl rfl
theorem d_15_11_267 : decode prog_15_method_11_code 267 = .ok (.getstatic 117, 3) := D_178 W_prog_15_method_11_code_256 11 rfl rfl rfl
theorem d_15_11_270 : decode prog_15_method_11_code 270 = .ok (.lastore, 1) := D_80 W_prog_15_method_11_code_256 14 rfl rfl
theorem d_15_11_271 : decode prog_15_method_11_code 271 = .ok (.dup, 1) := D_89 W_prog_15_method_11_code_256 15 rfl rfl
theorem d_15_11_272 : decode prog_15_method_11_code 272 = .ok (.bipush 7, 2) := D_16 W_prog_15_method_11_code_256 16 rfl rfl rfl
theorem d_15_11_274 : decode prog_15_method_11_code 274 = .ok (.getstatic 120, 3) := D_178 W_prog_15_method_11_code_256 18 rfl rfl rfl
theorem d_15_11_277 : decode prog_15_method_11_code 277 = .ok (.lastore, 1) := D_80 W_prog_15_method_11_code_256 21 rfl rfl
theorem d_15_11_278 : decode prog_15_method_11_code 278 = .ok (.dup, 1) := D_89 W_prog_15_method_11_code_256 22 rfl rfl
theorem d_15_11_279 : decode prog_15_method_11_code 279 = .ok (.bipush 8, 2) := D_16 W_prog_15_method_11_code_256 23 rfl rfl rfl
theorem d_15_11_281 : decode prog_15_method_11_code 281 = .ok (.getstatic 123, 3) := D_178 W_prog_15_method_11_code_256 25 rfl rfl rfl
theorem d_15_11_284 : decode prog_15_method_11_code 284 = .ok (.lastore, 1) := D_80 W_prog_15_method_11_code_256 28 rfl rfl
theorem d_15_11_285 : decode prog_15_method_11_code 285 = .ok (.dup, 1) := D_89 W_prog_15_method_11_code_256 29 rfl rfl
theorem d_15_11_286 : decode prog_15_method_11_code 286 = .ok (.bipush 9, 2) := D_16 W_prog_15_method_11_code_256 30 rfl rfl rfl
theorem W_prog_15_method_11_code_288 : chW prog_15_method_11_code 288 [178, 0, 126, 80, 89, 16, 10, 178, 0, 129, 80, 89, 16, 11, 178, 0, 132, 80, 89, 16, 12, 178, 0, 135, 80, 89, 16, 13, 178, 0, 138, 80, 89, 16, 14, 178] := chW_of (by decide +kernel)
theorem d_15_11_288 : decode prog_15_method_11_code 288 = .ok (.getstatic 126, 3) := D_178 W_prog_15_method_11_code_288 0 rfl rfl rfl
theorem d_15_11_291 : decode prog_15_method_11_code 291 = .ok (.lastore, 1) := D_80 W_prog_15_method_11_code_288 3 rfl rfl
theorem d_15_11_292 : decode prog_15_method_11_code 292 = .ok (.dup, 1) := D_89 W_prog_15_method_11_code_288 4 rfl rfl
theorem d_15_11_293 : decode prog_15_method_11_code 293 = .ok (.bipush 10, 2) := D_16 W_prog_15_method_11_code_288 5 rfl rfl rfl
theorem d_15_11_295 : decode prog_15_method_11_code 295 = .ok (.getstatic 129, 3) := D_178 W_prog_15_method_11_code_288 7 rfl rfl rfl
theorem d_15_11_298 : decode prog_15_method_11_code 298 = .ok (.lastore, 1) := D_80 W_prog_15_method_11_code_288 10 rfl rfl
theorem d_15_11_299 : decode prog_15_method_11_code 299 = .ok (.dup, 1) := D_89 W_prog_15_method_11_code_288 11 rfl rfl
theorem d_15_11_300 : decode prog_15_method_11_code 300 = .ok (.bipush 11, 2) := D_16 W_prog_15_method_11_code_288 12 rfl rfl rfl
theorem d_15_11_302 : decode prog_15_method_11_code 302 = .ok (.getstatic 132, 3) := D_178 W_prog_15_method_11_code_288 14 rfl rfl rfl
theorem d_15_11_305 : decode prog_15_method_11_code 305 = .ok (.lastore, 1) := D_80 W_prog_15_method_11_code_288 17 rfl rfl
theorem d_15_11_306 : decode prog_15_method_11_code 306 = .ok (.dup, 1) := D_89 W_prog_15_method_11_code_288 18 rfl rfl
theorem d_15_11_307 : decode prog_15_method_11_code 307 = .ok (.bipush 12, 2) := D_16 W_prog_15_method_11_code_288 19 rfl rfl rfl
theorem d_15_11_309 : decode prog_15_method_11_code 309 = .ok (.getstatic 135, 3) := D_178 W_prog_15_method_11_code_288 21 rfl rfl rfl
theorem d_15_11_312 : decode prog_15_method_11_code 312 = .ok (.lastore, 1) := D_80 W_prog_15_method_11_code_288 24 rfl rfl
theorem d_15_11_313 : decode prog_15_method_11_code 313 = .ok (.dup, 1) := D_89 W_prog_15_method_11_code_288 25 rfl rfl
theorem d_15_11_314 : decode prog_15_method_11_code 314 = .ok (.bipush 13, 2) := D_16 W_prog_15_method_11_code_288 26 rfl rfl rfl
theorem d_15_11_316 : decode prog_15_method_11_code 316 = .ok (.getstatic 138, 3) := D_178 W_prog_15_method_11_code_288 28 rfl rfl rfl
theorem d_15_11_319 : decode prog_15_method_11_code 319 = .ok (.lastore, 1) := D_80 W_prog_15_method_11_code_288 31 rfl rfl
theorem W_prog_15_method_11_code_320 : chW prog_15_method_11_code 320 [89, 16, 14, 178, 0, 141, 80, 181, 0, 144, 42, 16, 6, 188, 11, 181, 0, 147, 42, 16, 6, 188, 10, 181, 0, 150, 42, 7, 188, 10, 181, 0, 153, 42, 7, 188] := chW_of (by decide +kernel)
theorem d_15_11_320 : decode prog_15_method_11_code 320 = .ok (.dup, 1) := D_89 W_prog_15_method_11_code_320 0 rfl rfl
theorem d_15_11_321 : decode prog_15_method_11_code 321 = .ok (.bipush 14, 2) := D_16 W_prog_15_method_11_code_320 1 rfl rfl rfl
theorem d_15_11_323 : decode prog_15_method_11_code 323 = .ok (.getstatic 141, 3) := D_178 W_prog_15_method_11_code_320 3 rfl rfl rfl
theorem d_15_11_326 : decode prog_15_method_11_code 326 = .ok (.lastore, 1) := D_80 W_prog_15_method_11_code_320 6 rfl rfl
theorem d_15_11_327 : decode prog_15_method_11_code 327 = .ok (.putfield 144, 3) := D_181 W_prog_15_method_11_code_320 7 rfl rfl rfl
theorem d_15_11_330 : decode prog_15_method_11_code 330 = .ok (.aload_n 0, 1) := D_42 W_prog_15_method_11_code_320 10 rfl rfl
theorem d_15_11_331 : decode prog_15_method_11_code 331 = .ok (.bipush 6, 2) := D_16 W_prog_15_method_11_code_320 11 rfl rfl rfl
theorem d_15_11_333 : decode prog_15_method_11_code 333 = .ok (.newarray .long, 2) := D_188_11 W_prog_15_method_11_code_320 13 rfl rfl
theorem d_15_11_335 : decode prog_15_method_11_code 335 = .ok (.putfield 147, 3) := D_181 W_prog_15_method_11_code_320 15 rfl rfl rfl
theorem d_15_11_338 : decode prog_15_method_11_code 338 = .ok (.aload_n 0, 1) := D_42 W_prog_15_method_11_code_320 18 rfl rfl
theorem d_15_11_339 : decode prog_15_method_11_code 339 = .ok (.bipush 6, 2) := D_16 W_prog_15_method_11_code_320 19 rfl rfl rfl
theorem d_15_11_341 : decode prog_15_method_11_code 341 = .ok (.newarray .int, 2) := D_188_10 W_prog_15_method_11_code_320 21 rfl rfl
theorem d_15_11_343 : decode prog_15_method_11_code 343 = .ok (.putfield 150, 3) := D_181 W_prog_15_method_11_code_320 23 rfl rfl rfl
theorem d_15_11_346 : decode prog_15_method_11_code 346 = .ok (.aload_n 0, 1) := D_42 W_prog_15_method_11_code_320 26 rfl rfl
theorem d_15_11_347 : decode prog_15_method_11_code 347 = .ok (.iconst 4, 1) := D_7 W_prog_15_method_11_code_320 27 rfl rfl
theorem d_15_11_348 : decode prog_15_method_11_code 348 = .ok (.newarray .int, 2) := D_188_10 W_prog_15_method_11_code_320 28 rfl rfl
theorem d_15_11_350 : decode prog_15_method_11_code 350 = .ok (.putfield 153, 3) := D_181 W_prog_15_method_11_code_320 30 rfl rfl rfl
theorem W_prog_15_method_11_code_352 : chW prog_15_method_11_code 352 [153, 42, 7, 188, 10, 181, 0, 156, 42, 17, 11, 185, 188, 10, 181, 0, 159, 42, 17, 11, 185, 188, 10, 181, 0, 162, 42, 17, 11, 185, 188, 10, 181, 0, 165, 42] := chW_of (by decide +kernel)
theorem d_15_11_353 : decode prog_15_method_11_code 353 = .ok (.aload_n 0, 1) := D_42 W_prog_15_method_11_code_352 1 rfl rfl
theorem d_15_11_354 : decode prog_15_method_11_code 354 = .ok (.iconst 4, 1) := D_7 W_prog_15_method_11_code_352 2 rfl rfl
theorem d_15_11_355 : decode prog_15_method_11_code 355 = .ok (.newarray .int, 2) := D_188_10 W_prog_15_method_11_code_352 3 rfl rfl
theorem d_15_11_357 : decode prog_15_method_11_code 357 = .ok (.putfield 156, 3) := D_181 W_prog_15_method_11_code_352 5 rfl rfl rfl
theorem d_15_11_360 : decode prog_15_method_11_code 360 = .ok (.aload_n 0, 1) := D_42 W_prog_15_method_11_code_352 8 rfl rfl
theorem d_15_11_361 : decode prog_15_method_11_code 361 = .ok (.sipush 3001, 3) := D_17 W_prog_15_method_11_code_352 9 rfl rfl rfl
theorem d_15_11_364 : decode prog_15_method_11_code 364 = .ok (.newarray .int, 2) := D_188_10 W_prog_15_method_11_code_352 12 rfl rfl
theorem d_15_11_366 : decode prog_15_method_11_code 366 = .ok (.putfield 159, 3) := D_181 W_prog_15_method_11_code_352 14 rfl rfl rfl
theorem d_15_11_369 : decode prog_15_method_11_code 369 = .ok (.aload_n 0, 1) := D_42 W_prog_15_method_11_code_352 17 rfl rfl
theorem d_15_11_370 : decode prog_15_method_11_code 370 = .ok (.sipush 3001, 3) := D_17 W_prog_15_method_11_code_352 18 rfl rfl rfl
theorem d_15_11_373 : decode prog_15_method_11_code 373 = .ok (.newarray .int, 2) := D_188_10 W_prog_15_method_11_code_352 21 rfl rfl
theorem d_15_11_375 : decode prog_15_method_11_code 375 = .ok (.putfield 162, 3) := D_181 W_prog_15_method_11_code_352 23 rfl rfl rfl
theorem d_15_11_378 : decode prog_15_method_11_code 378 = .ok (.aload_n 0, 1) := D_42 W_prog_15_method_11_code_352 26 rfl rfl
theorem d_15_11_379 : decode prog_15_method_11_code 379 = .ok (.sipush 3001, 3) := D_17 W_prog_15_method_11_code_352 27 rfl rfl rfl
theorem d_15_11_382 : decode prog_15_method_11_code 382 = .ok (.newarray .int, 2) := D_188_10 W_prog_15_method_11_code_352 30 rfl rfl
theorem W_prog_15_method_11_code_384 : chW prog_15_method_11_code 384 [181, 0, 165, 42, 17, 11, 185, 188, 10, 181, 0, 168, 42, 17, 11, 185, 188, 10, 181, 0, 171, 42, 16, 100, 188, 4, 181, 0, 174, 42, 16, 100, 188, 10, 181, 0] := chW_of (by decide +kernel)
theorem d_15_11_384 : decode prog_15_method_11_code 384 = .ok (.putfield 165, 3) := D_181 W_prog_15_method_11_code_384 0 rfl rfl rfl
theorem d_15_11_387 : decode prog_15_method_11_code 387 = .ok (.aload_n 0, 1) := D_42 W_prog_15_method_11_code_384 3 rfl rfl
theorem d_15_11_388 : decode prog_15_method_11_code 388 = .ok (.sipush 3001, 3) := D_17 W_prog_15_method_11_code_384 4 rfl rfl rfl
theorem d_15_11_391 : decode prog_15_method_11_code 391 = .ok (.newarray .int, 2) := D_188_10 W_prog_15_method_11_code_384 7 rfl rfl
theorem d_15_11_393 : decode prog_15_method_11_code 393 = .ok (.putfield 168, 3) := D_181 W_prog_15_method_11_code_384 9 rfl rfl rfl
theorem d_15_11_396 : decode prog_15_method_11_code 396 = .ok (.aload_n 0, 1) := D_42 W_prog_15_method_11_code_384 12 rfl rfl
theorem d_15_11_397 : decode prog_15_method_11_code 397 = .ok (.sipush 3001, 3) := D_17 W_prog_15_method_11_code_384 13 rfl rfl rfl
theorem d_15_11_400 : decode prog_15_method_11_code 400 = .ok (.newarray .int, 2) := D_188_10 W_prog_15_method_11_code_384 16 rfl rfl
theorem d_15_11_402 : decode prog_15_method_11_code 402 = .ok (.putfield 171, 3) := D_181 W_prog_15_method_11_code_384 18 rfl rfl rfl
theorem d_15_11_405 : decode prog_15_method_11_code 405 = .ok (.aload_n 0, 1) := D_42 W_prog_15_method_11_code_384 21 rfl rfl
theorem d_15_11_406 : decode prog_15_method_11_code 406 = .ok (.bipush 100, 2) := D_16 W_prog_15_method_11_code_384 22 rfl rfl rfl
theorem d_15_11_408 : decode prog_15_method_11_code 408 = .ok (.newarray .boolean, 2) := D_188_4 W_prog_15_method_11_code_384 24 rfl rfl
theorem d_15_11_410 : decode prog_15_method_11_code 410 = .ok (.putfield 174, 3) := D_181 W_prog_15_method_11_code_384 26 rfl rfl rfl
theorem d_15_11_413 : decode prog_15_method_11_code 413 = .ok (.aload_n 0, 1) := D_42 W_prog_15_method_11_code_384 29 rfl rfl
theorem d_15_11_414 : decode prog_15_method_11_code 414 = .ok (.bipush 100, 2) := D_16 W_prog_15_method_11_code_384 30 rfl rfl rfl
theorem W_prog_15_method_11_code_416 : chW prog_15_method_11_code 416 [188, 10, 181, 0, 178, 42, 16, 100, 188, 10, 181, 0, 181, 42, 16, 100, 188, 10, 181, 0, 184, 42, 16, 100, 188, 10, 181, 0, 187, 42, 16, 8, 188, 10, 181, 0] := chW_of (by decide +kernel)
theorem d_15_11_416 : decode prog_15_method_11_code 416 = .ok (.newarray .int, 2) := D_188_10 W_prog_15_method_11_code_416 0 rfl rfl
theorem d_15_11_418 : decode prog_15_method_11_code 418 = .ok (.putfield 178, 3) := D_181 W_prog_15_method_11_code_416 2 rfl rfl rfl
theorem d_15_11_421 : decode prog_15_method_11_code 421 = .ok (.aload_n 0, 1) := D_42 W_prog_15_method_11_code_416 5 rfl rfl
theorem d_15_11_422 : decode prog_15_method_11_code 422 = .ok (.bipush 100, 2) := D_16 W_prog_15_method_11_code_416 6 rfl rfl rfl
theorem d_15_11_424 : decode prog_15_method_11_code 424 = .ok (.newarray .int, 2) := D_188_10 W_prog_15_method_11_code_416 8 rfl rfl
theorem d_15_11_426 : decode prog_15_method_11_code 426 = .ok (.putfield 181, 3) := D_181 W_prog_15_method_11_code_416 10 rfl rfl rfl
theorem d_15_11_429 : decode prog_15_method_11_code 429 = .ok (.aload_n 0, 1) := D_42 W_prog_15_method_11_code_416 13 rfl rfl
theorem d_15_11_430 : decode prog_15_method_11_code 430 = .ok (.bipush 100, 2) := D_16 W_prog_15_method_11_code_416 14 rfl rfl rfl
theorem d_15_11_432 : decode prog_15_method_11_code 432 = .ok (.newarray .int, 2) := D_188_10 W_prog_15_method_11_code_416 16 rfl rfl
theorem d_15_11_434 : decode prog_15_method_11_code 434 = .ok (.putfield 184, 3) := D_181 W_prog_15_method_11_code_416 18 rfl rfl rfl
theorem d_15_11_437 : decode prog_15_method_11_code 437 = .ok (.aload_n 0, 1) := D_42 W_prog_15_method_11_code_416 21 rfl rfl
theorem d_15_11_438 : decode prog_15_method_11_code 438 = .ok (.bipush 100, 2) := D_16 W_prog_15_method_11_code_416 22 rfl rfl rfl
theorem d_15_11_440 : decode prog_15_method_11_code 440 = .ok (.newarray .int, 2) := D_188_10 W_prog_15_method_11_code_416 24 rfl rfl
theorem d_15_11_442 : decode prog_15_method_11_code 442 = .ok (.putfield 187, 3) := D_181 W_prog_15_method_11_code_416 26 rfl rfl rfl
theorem d_15_11_445 : decode prog_15_method_11_code 445 = .ok (.aload_n 0, 1) := D_42 W_prog_15_method_11_code_416 29 rfl rfl
theorem d_15_11_446 : decode prog_15_method_11_code 446 = .ok (.bipush 8, 2) := D_16 W_prog_15_method_11_code_416 30 rfl rfl rfl
theorem W_prog_15_method_11_code_448 : chW prog_15_method_11_code 448 [188, 10, 181, 0, 190, 42, 16, 63, 188, 10, 181, 0, 193, 42, 16, 101, 188, 11, 181, 0, 196, 42, 16, 101, 188, 10, 181, 0, 199, 42, 16, 8, 188, 10, 89, 3] := chW_of (by decide +kernel)
theorem d_15_11_448 : decode prog_15_method_11_code 448 = .ok (.newarray .int, 2) := D_188_10 W_prog_15_method_11_code_448 0 rfl rfl
theorem d_15_11_450 : decode prog_15_method_11_code 450 = .ok (.putfield 190, 3) := D_181 W_prog_15_method_11_code_448 2 rfl rfl rfl
theorem d_15_11_453 : decode prog_15_method_11_code 453 = .ok (.aload_n 0, 1) := D_42 W_prog_15_method_11_code_448 5 rfl rfl
theorem d_15_11_454 : decode prog_15_method_11_code 454 = .ok (.bipush 63, 2) := D_16 W_prog_15_method_11_code_448 6 rfl rfl rfl
theorem d_15_11_456 : decode prog_15_method_11_code 456 = .ok (.newarray .int, 2) := D_188_10 W_prog_15_method_11_code_448 8 rfl rfl
theorem d_15_11_458 : decode prog_15_method_11_code 458 = .ok (.putfield 193, 3) := D_181 W_prog_15_method_11_code_448 10 rfl rfl rfl
theorem d_15_11_461 : decode prog_15_method_11_code 461 = .ok (.aload_n 0, 1) := D_42 W_prog_15_method_11_code_448 13 rfl rfl
theorem d_15_11_462 : decode prog_15_method_11_code 462 = .ok (.bipush 101, 2) := D_16 W_prog_15_method_11_code_448 14 rfl rfl rfl
theorem d_15_11_464 : decode prog_15_method_11_code 464 = .ok (.newarray .long, 2) := D_188_11 W_prog_15_method_11_code_448 16 rfl rfl
theorem d_15_11_466 : decode prog_15_method_11_code 466 = .ok (.putfield 196, 3) := D_181 W_prog_15_method_11_code_448 18 rfl rfl rfl
theorem d_15_11_469 : decode prog_15_method_11_code 469 = .ok (.aload_n 0, 1) := D_42 W_prog_15_method_11_code_448 21 rfl rfl
theorem d_15_11_470 : decode prog_15_method_11_code 470 = .ok (.bipush 101, 2) := D_16 W_prog_15_method_11_code_448 22 rfl rfl rfl
theorem d_15_11_472 : decode prog_15_method_11_code 472 = .ok (.newarray .int, 2) := D_188_10 W_prog_15_method_11_code_448 24 rfl rfl
theorem d_15_11_474 : decode prog_15_method_11_code 474 = .ok (.putfield 199, 3) := D_181 W_prog_15_method_11_code_448 26 rfl rfl rfl
theorem d_15_11_477 : decode prog_15_method_11_code 477 = .ok (.aload_n 0, 1) := D_42 W_prog_15_method_11_code_448 29 rfl rfl
theorem d_15_11_478 : decode prog_15_method_11_code 478 = .ok (.bipush 8, 2) := D_16 W_prog_15_method_11_code_448 30 rfl rfl rfl
theorem W_prog_15_method_11_code_480 : chW prog_15_method_11_code 480 [188, 10, 89, 3, 16, 20, 79, 89, 4, 16, 33, 79, 89, 5, 16, 46, 79, 89, 6, 16, 59, 79, 89, 7, 16, 72, 79, 89, 8, 16, 85, 79, 89, 16, 6, 16] := chW_of (by decide +kernel)
theorem d_15_11_480 : decode prog_15_method_11_code 480 = .ok (.newarray .int, 2) := D_188_10 W_prog_15_method_11_code_480 0 rfl rfl
theorem d_15_11_482 : decode prog_15_method_11_code 482 = .ok (.dup, 1) := D_89 W_prog_15_method_11_code_480 2 rfl rfl
theorem d_15_11_483 : decode prog_15_method_11_code 483 = .ok (.iconst 0, 1) := D_3 W_prog_15_method_11_code_480 3 rfl rfl
theorem d_15_11_484 : decode prog_15_method_11_code 484 = .ok (.bipush 20, 2) := D_16 W_prog_15_method_11_code_480 4 rfl rfl rfl
theorem d_15_11_486 : decode prog_15_method_11_code 486 = .ok (.iastore, 1) := D_79 W_prog_15_method_11_code_480 6 rfl rfl
theorem d_15_11_487 : decode prog_15_method_11_code 487 = .ok (.dup, 1) := D_89 W_prog_15_method_11_code_480 7 rfl rfl
theorem d_15_11_488 : decode prog_15_method_11_code 488 = .ok (.iconst 1, 1) := D_4 W_prog_15_method_11_code_480 8 rfl rfl
theorem d_15_11_489 : decode prog_15_method_11_code 489 = .ok (.bipush 33, 2) := D_16 W_prog_15_method_11_code_480 9 rfl rfl rfl
theorem d_15_11_491 : decode prog_15_method_11_code 491 = .ok (.iastore, 1) := D_79 W_prog_15_method_11_code_480 11 rfl rfl
theorem d_15_11_492 : decode prog_15_method_11_code 492 = .ok (.dup, 1) := D_89 W_prog_15_method_11_code_480 12 rfl rfl
theorem d_15_11_493 : decode prog_15_method_11_code 493 = .ok (.iconst 2, 1) := D_5 W_prog_15_method_11_code_480 13 rfl rfl
theorem d_15_11_494 : decode prog_15_method_11_code 494 = .ok (.bipush 46, 2) := D_16 W_prog_15_method_11_code_480 14 rfl rfl rfl
theorem d_15_11_496 : decode prog_15_method_11_code 496 = .ok (.iastore, 1) := D_79 W_prog_15_method_11_code_480 16 rfl rfl
theorem d_15_11_497 : decode prog_15_method_11_code 497 = .ok (.dup, 1) := D_89 W_prog_15_method_11_code_480 17 rfl rfl
theorem d_15_11_498 : decode prog_15_method_11_code 498 = .ok (.iconst 3, 1) := D_6 W_prog_15_method_11_code_480 18 rfl rfl
theorem d_15_11_499 : decode prog_15_method_11_code 499 = .ok (.bipush 59, 2) := D_16 W_prog_15_method_11_code_480 19 rfl rfl rfl
theorem d_15_11_501 : decode prog_15_method_11_code 501 = .ok (.iastore, 1) := D_79 W_prog_15_method_11_code_480 21 rfl rfl
theorem d_15_11_502 : decode prog_15_method_11_code 502 = .ok (.dup, 1) := D_89 W_prog_15_method_11_code_480 22 rfl rfl
theorem d_15_11_503 : decode prog_15_method_11_code 503 = .ok (.iconst 4, 1) := D_7 W_prog_15_method_11_code_480 23 rfl rfl
theorem d_15_11_504 : decode prog_15_method_11_code 504 = .ok (.bipush 72, 2) := D_16 W_prog_15_method_11_code_480 24 rfl rfl rfl
theorem d_15_11_506 : decode prog_15_method_11_code 506 = .ok (.iastore, 1) := D_79 W_prog_15_method_11_code_480 26 rfl rfl
theorem d_15_11_507 : decode prog_15_method_11_code 507 = .ok (.dup, 1) := D_89 W_prog_15_method_11_code_480 27 rfl rfl
theorem d_15_11_508 : decode prog_15_method_11_code 508 = .ok (.iconst 5, 1) := D_8 W_prog_15_method_11_code_480 28 rfl rfl
theorem d_15_11_509 : decode prog_15_method_11_code 509 = .ok (.bipush 85, 2) := D_16 W_prog_15_method_11_code_480 29 rfl rfl rfl
theorem d_15_11_511 : decode prog_15_method_11_code 511 = .ok (.iastore, 1) := D_79 W_prog_15_method_11_code_480 31 rfl rfl
theorem W_prog_15_method_11_code_512 : chW prog_15_method_11_code 512 [89, 16, 6, 16, 98, 79, 89, 16, 7, 16, 111, 79, 181, 0, 202, 42, 17, 7, 208, 188, 10, 181, 0, 205, 42, 17, 7, 208, 188, 10, 181, 0, 208, 42, 17, 7] := chW_of (by decide +kernel)
theorem d_15_11_512 : decode prog_15_method_11_code 512 = .ok (.dup, 1) := D_89 W_prog_15_method_11_code_512 0 rfl rfl
theorem d_15_11_513 : decode prog_15_method_11_code 513 = .ok (.bipush 6, 2) := D_16 W_prog_15_method_11_code_512 1 rfl rfl rfl
theorem d_15_11_515 : decode prog_15_method_11_code 515 = .ok (.bipush 98, 2) := D_16 W_prog_15_method_11_code_512 3 rfl rfl rfl
theorem d_15_11_517 : decode prog_15_method_11_code 517 = .ok (.iastore, 1) := D_79 W_prog_15_method_11_code_512 5 rfl rfl
theorem d_15_11_518 : decode prog_15_method_11_code 518 = .ok (.dup, 1) := D_89 W_prog_15_method_11_code_512 6 rfl rfl
theorem d_15_11_519 : decode prog_15_method_11_code 519 = .ok (.bipush 7, 2) := D_16 W_prog_15_method_11_code_512 7 rfl rfl rfl
theorem d_15_11_521 : decode prog_15_method_11_code 521 = .ok (.bipush 111, 2) := D_16 W_prog_15_method_11_code_512 9 rfl rfl rfl
theorem d_15_11_523 : decode prog_15_method_11_code 523 = .ok (.iastore, 1) := D_79 W_prog_15_method_11_code_512 11 rfl rfl
theorem d_15_11_524 : decode prog_15_method_11_code 524 = .ok (.putfield 202, 3) := D_181 W_prog_15_method_11_code_512 12 rfl rfl rfl
theorem d_15_11_527 : decode prog_15_method_11_code 527 = .ok (.aload_n 0, 1) := D_42 W_prog_15_method_11_code_512 15 rfl rfl
theorem d_15_11_528 : decode prog_15_method_11_code 528 = .ok (.sipush 2000, 3) := D_17 W_prog_15_method_11_code_512 16 rfl rfl rfl
theorem d_15_11_531 : decode prog_15_method_11_code 531 = .ok (.newarray .int, 2) := D_188_10 W_prog_15_method_11_code_512 19 rfl rfl
theorem d_15_11_533 : decode prog_15_method_11_code 533 = .ok (.putfield 205, 3) := D_181 W_prog_15_method_11_code_512 21 rfl rfl rfl
theorem d_15_11_536 : decode prog_15_method_11_code 536 = .ok (.aload_n 0, 1) := D_42 W_prog_15_method_11_code_512 24 rfl rfl
theorem d_15_11_537 : decode prog_15_method_11_code 537 = .ok (.sipush 2000, 3) := D_17 W_prog_15_method_11_code_512 25 rfl rfl rfl
theorem d_15_11_540 : decode prog_15_method_11_code 540 = .ok (.newarray .int, 2) := D_188_10 W_prog_15_method_11_code_512 28 rfl rfl
theorem d_15_11_542 : decode prog_15_method_11_code 542 = .ok (.putfield 208, 3) := D_181 W_prog_15_method_11_code_512 30 rfl rfl rfl
theorem W_prog_15_method_11_code_544 : chW prog_15_method_11_code 544 [208, 42, 17, 7, 208, 188, 10, 181, 0, 211, 42, 17, 7, 208, 188, 10, 181, 0, 214, 42, 17, 7, 208, 188, 10, 181, 0, 217, 42, 17, 7, 208, 188, 10, 181, 0] := chW_of (by decide +kernel)
theorem d_15_11_545 : decode prog_15_method_11_code 545 = .ok (.aload_n 0, 1) := D_42 W_prog_15_method_11_code_544 1 rfl rfl
theorem d_15_11_546 : decode prog_15_method_11_code 546 = .ok (.sipush 2000, 3) := D_17 W_prog_15_method_11_code_544 2 rfl rfl rfl
theorem d_15_11_549 : decode prog_15_method_11_code 549 = .ok (.newarray .int, 2) := D_188_10 W_prog_15_method_11_code_544 5 rfl rfl
theorem d_15_11_551 : decode prog_15_method_11_code 551 = .ok (.putfield 211, 3) := D_181 W_prog_15_method_11_code_544 7 rfl rfl rfl
theorem d_15_11_554 : decode prog_15_method_11_code 554 = .ok (.aload_n 0, 1) := D_42 W_prog_15_method_11_code_544 10 rfl rfl
theorem d_15_11_555 : decode prog_15_method_11_code 555 = .ok (.sipush 2000, 3) := D_17 W_prog_15_method_11_code_544 11 rfl rfl rfl
theorem d_15_11_558 : decode prog_15_method_11_code 558 = .ok (.newarray .int, 2) := D_188_10 W_prog_15_method_11_code_544 14 rfl rfl
theorem d_15_11_560 : decode prog_15_method_11_code 560 = .ok (.putfield 214, 3) := D_181 W_prog_15_method_11_code_544 16 rfl rfl rfl
theorem d_15_11_563 : decode prog_15_method_11_code 563 = .ok (.aload_n 0, 1) := D_42 W_prog_15_method_11_code_544 19 rfl rfl
theorem d_15_11_564 : decode prog_15_method_11_code 564 = .ok (.sipush 2000, 3) := D_17 W_prog_15_method_11_code_544 20 rfl rfl rfl
theorem d_15_11_567 : decode prog_15_method_11_code 567 = .ok (.newarray .int, 2) := D_188_10 W_prog_15_method_11_code_544 23 rfl rfl
theorem d_15_11_569 : decode prog_15_method_11_code 569 = .ok (.putfield 217, 3) := D_181 W_prog_15_method_11_code_544 25 rfl rfl rfl
theorem d_15_11_572 : decode prog_15_method_11_code 572 = .ok (.aload_n 0, 1) := D_42 W_prog_15_method_11_code_544 28 rfl rfl
theorem d_15_11_573 : decode prog_15_method_11_code 573 = .ok (.sipush 2000, 3) := D_17 W_prog_15_method_11_code_544 29 rfl rfl rfl
theorem W_prog_15_method_11_code_576 : chW prog_15_method_11_code 576 [188, 10, 181, 0, 220, 42, 17, 15, 160, 188, 10, 181, 0, 223, 42, 18, 226, 188, 8, 181, 0, 227, 42, 16, 8, 188, 10, 181, 0, 230, 42, 16, 8, 188, 10, 181] := chW_of (by decide +kernel)
theorem d_15_11_576 : decode prog_15_method_11_code 576 = .ok (.newarray .int, 2) := D_188_10 W_prog_15_method_11_code_576 0 rfl rfl
theorem d_15_11_578 : decode prog_15_method_11_code 578 = .ok (.putfield 220, 3) := D_181 W_prog_15_method_11_code_576 2 rfl rfl rfl
theorem d_15_11_581 : decode prog_15_method_11_code 581 = .ok (.aload_n 0, 1) := D_42 W_prog_15_method_11_code_576 5 rfl rfl
theorem d_15_11_582 : decode prog_15_method_11_code 582 = .ok (.sipush 4000, 3) := D_17 W_prog_15_method_11_code_576 6 rfl rfl rfl
theorem d_15_11_585 : decode prog_15_method_11_code 585 = .ok (.newarray .int, 2) := D_188_10 W_prog_15_method_11_code_576 9 rfl rfl
theorem d_15_11_587 : decode prog_15_method_11_code 587 = .ok (.putfield 223, 3) := D_181 W_prog_15_method_11_code_576 11 rfl rfl rfl
theorem d_15_11_590 : decode prog_15_method_11_code 590 = .ok (.aload_n 0, 1) := D_42 W_prog_15_method_11_code_576 14 rfl rfl
theorem d_15_11_591 : decode prog_15_method_11_code 591 = .ok (.ldc 226, 2) := D_18 W_prog_15_method_11_code_576 15 rfl rfl
theorem d_15_11_593 : decode prog_15_method_11_code 593 = .ok (.newarray .byte, 2) := D_188_8 W_prog_15_method_11_code_576 17 rfl rfl
theorem d_15_11_595 : decode prog_15_method_11_code 595 = .ok (.putfield 227, 3) := D_181 W_prog_15_method_11_code_576 19 rfl rfl rfl
theorem d_15_11_598 : decode prog_15_method_11_code 598 = .ok (.aload_n 0, 1) := D_42 W_prog_15_method_11_code_576 22 rfl rfl
theorem d_15_11_599 : decode prog_15_method_11_code 599 = .ok (.bipush 8, 2) := D_16 W_prog_15_method_11_code_576 23 rfl rfl rfl
theorem d_15_11_601 : decode prog_15_method_11_code 601 = .ok (.newarray .int, 2) := D_188_10 W_prog_15_method_11_code_576 25 rfl rfl
theorem d_15_11_603 : decode prog_15_method_11_code 603 = .ok (.putfield 230, 3) := D_181 W_prog_15_method_11_code_576 27 rfl rfl rfl
theorem d_15_11_606 : decode prog_15_method_11_code 606 = .ok (.aload_n 0, 1) := D_42 W_prog_15_method_11_code_576 30 rfl rfl
theorem d_15_11_607 : decode prog_15_method_11_code 607 = .ok (.bipush 8, 2) := D_16 W_prog_15_method_11_code_576 31 rfl rfl rfl
theorem W_prog_15_method_11_code_608 : chW prog_15_method_11_code 608 [8, 188, 10, 181, 0, 233, 42, 17, 1, 144, 188, 10, 181, 0, 236, 42, 17, 1, 144, 188, 10, 181, 0, 239, 42, 17, 1, 144, 188, 10, 181, 0, 242, 42, 17, 1] := chW_of (by decide +kernel)
theorem d_15_11_609 : decode prog_15_method_11_code 609 = .ok (.newarray .int, 2) := D_188_10 W_prog_15_method_11_code_608 1 rfl rfl
theorem d_15_11_611 : decode prog_15_method_11_code 611 = .ok (.putfield 233, 3) := D_181 W_prog_15_method_11_code_608 3 rfl rfl rfl
theorem d_15_11_614 : decode prog_15_method_11_code 614 = .ok (.aload_n 0, 1) := D_42 W_prog_15_method_11_code_608 6 rfl rfl
theorem d_15_11_615 : decode prog_15_method_11_code 615 = .ok (.sipush 400, 3) := D_17 W_prog_15_method_11_code_608 7 rfl rfl rfl
theorem d_15_11_618 : decode prog_15_method_11_code 618 = .ok (.newarray .int, 2) := D_188_10 W_prog_15_method_11_code_608 10 rfl rfl
theorem d_15_11_620 : decode prog_15_method_11_code 620 = .ok (.putfield 236, 3) := D_181 W_prog_15_method_11_code_608 12 rfl rfl rfl
theorem d_15_11_623 : decode prog_15_method_11_code 623 = .ok (.aload_n 0, 1) := D_42 W_prog_15_method_11_code_608 15 rfl rfl
theorem d_15_11_624 : decode prog_15_method_11_code 624 = .ok (.sipush 400, 3) := D_17 W_prog_15_method_11_code_608 16 rfl rfl rfl
theorem d_15_11_627 : decode prog_15_method_11_code 627 = .ok (.newarray .int, 2) := D_188_10 W_prog_15_method_11_code_608 19 rfl rfl
theorem d_15_11_629 : decode prog_15_method_11_code 629 = .ok (.putfield 239, 3) := D_181 W_prog_15_method_11_code_608 21 rfl rfl rfl
theorem d_15_11_632 : decode prog_15_method_11_code 632 = .ok (.aload_n 0, 1) := D_42 W_prog_15_method_11_code_608 24 rfl rfl
theorem d_15_11_633 : decode prog_15_method_11_code 633 = .ok (.sipush 400, 3) := D_17 W_prog_15_method_11_code_608 25 rfl rfl rfl
theorem d_15_11_636 : decode prog_15_method_11_code 636 = .ok (.newarray .int, 2) := D_188_10 W_prog_15_method_11_code_608 28 rfl rfl
theorem d_15_11_638 : decode prog_15_method_11_code 638 = .ok (.putfield 242, 3) := D_181 W_prog_15_method_11_code_608 30 rfl rfl rfl
theorem W_prog_15_method_11_code_640 : chW prog_15_method_11_code 640 [242, 42, 17, 1, 144, 188, 10, 181, 0, 245, 42, 17, 1, 144, 188, 11, 181, 0, 248, 42, 17, 1, 144, 188, 11, 181, 0, 251, 42, 16, 8, 188, 10, 181, 0, 254] := chW_of (by decide +kernel)
theorem d_15_11_641 : decode prog_15_method_11_code 641 = .ok (.aload_n 0, 1) := D_42 W_prog_15_method_11_code_640 1 rfl rfl
theorem d_15_11_642 : decode prog_15_method_11_code 642 = .ok (.sipush 400, 3) := D_17 W_prog_15_method_11_code_640 2 rfl rfl rfl
theorem d_15_11_645 : decode prog_15_method_11_code 645 = .ok (.newarray .int, 2) := D_188_10 W_prog_15_method_11_code_640 5 rfl rfl
theorem d_15_11_647 : decode prog_15_method_11_code 647 = .ok (.putfield 245, 3) := D_181 W_prog_15_method_11_code_640 7 rfl rfl rfl
theorem d_15_11_650 : decode prog_15_method_11_code 650 = .ok (.aload_n 0, 1) := D_42 W_prog_15_method_11_code_640 10 rfl rfl
theorem d_15_11_651 : decode prog_15_method_11_code 651 = .ok (.sipush 400, 3) := D_17 W_prog_15_method_11_code_640 11 rfl rfl rfl
theorem d_15_11_654 : decode prog_15_method_11_code 654 = .ok (.newarray .long, 2) := D_188_11 W_prog_15_method_11_code_640 14 rfl rfl
theorem d_15_11_656 : decode prog_15_method_11_code 656 = .ok (.putfield 248, 3) := D_181 W_prog_15_method_11_code_640 16 rfl rfl rfl
theorem d_15_11_659 : decode prog_15_method_11_code 659 = .ok (.aload_n 0, 1) := D_42 W_prog_15_method_11_code_640 19 rfl rfl
theorem d_15_11_660 : decode prog_15_method_11_code 660 = .ok (.sipush 400, 3) := D_17 W_prog_15_method_11_code_640 20 rfl rfl rfl
theorem d_15_11_663 : decode prog_15_method_11_code 663 = .ok (.newarray .long, 2) := D_188_11 W_prog_15_method_11_code_640 23 rfl rfl
theorem d_15_11_665 : decode prog_15_method_11_code 665 = .ok (.putfield 251, 3) := D_181 W_prog_15_method_11_code_640 25 rfl rfl rfl
theorem d_15_11_668 : decode prog_15_method_11_code 668 = .ok (.aload_n 0, 1) := D_42 W_prog_15_method_11_code_640 28 rfl rfl
theorem d_15_11_669 : decode prog_15_method_11_code 669 = .ok (.bipush 8, 2) := D_16 W_prog_15_method_11_code_640 29 rfl rfl rfl
theorem d_15_11_671 : decode prog_15_method_11_code 671 = .ok (.newarray .int, 2) := D_188_10 W_prog_15_method_11_code_640 31 rfl rfl
theorem W_prog_15_method_11_code_672 : chW prog_15_method_11_code 672 [10, 181, 0, 254, 42, 17, 1, 144, 188, 10, 181, 1, 1, 42, 17, 1, 144, 188, 10, 181, 1, 4, 42, 17, 1, 144, 188, 10, 181, 1, 7, 42, 17, 1, 144, 188] := chW_of (by decide +kernel)
theorem d_15_11_673 : decode prog_15_method_11_code 673 = .ok (.putfield 254, 3) := D_181 W_prog_15_method_11_code_672 1 rfl rfl rfl
theorem d_15_11_676 : decode prog_15_method_11_code 676 = .ok (.aload_n 0, 1) := D_42 W_prog_15_method_11_code_672 4 rfl rfl
theorem d_15_11_677 : decode prog_15_method_11_code 677 = .ok (.sipush 400, 3) := D_17 W_prog_15_method_11_code_672 5 rfl rfl rfl
theorem d_15_11_680 : decode prog_15_method_11_code 680 = .ok (.newarray .int, 2) := D_188_10 W_prog_15_method_11_code_672 8 rfl rfl
theorem d_15_11_682 : decode prog_15_method_11_code 682 = .ok (.putfield 257, 3) := D_181 W_prog_15_method_11_code_672 10 rfl rfl rfl
theorem d_15_11_685 : decode prog_15_method_11_code 685 = .ok (.aload_n 0, 1) := D_42 W_prog_15_method_11_code_672 13 rfl rfl
theorem d_15_11_686 : decode prog_15_method_11_code 686 = .ok (.sipush 400, 3) := D_17 W_prog_15_method_11_code_672 14 rfl rfl rfl
theorem d_15_11_689 : decode prog_15_method_11_code 689 = .ok (.newarray .int, 2) := D_188_10 W_prog_15_method_11_code_672 17 rfl rfl
theorem d_15_11_691 : decode prog_15_method_11_code 691 = .ok (.putfield 260, 3) := D_181 W_prog_15_method_11_code_672 19 rfl rfl rfl
theorem d_15_11_694 : decode prog_15_method_11_code 694 = .ok (.aload_n 0, 1) := D_42 W_prog_15_method_11_code_672 22 rfl rfl
theorem d_15_11_695 : decode prog_15_method_11_code 695 = .ok (.sipush 400, 3) := D_17 W_prog_15_method_11_code_672 23 rfl rfl rfl
theorem d_15_11_698 : decode prog_15_method_11_code 698 = .ok (.newarray .int, 2) := D_188_10 W_prog_15_method_11_code_672 26 rfl rfl
theorem d_15_11_700 : decode prog_15_method_11_code 700 = .ok (.putfield 263, 3) := D_181 W_prog_15_method_11_code_672 28 rfl rfl rfl
theorem d_15_11_703 : decode prog_15_method_11_code 703 = .ok (.aload_n 0, 1) := D_42 W_prog_15_method_11_code_672 31 rfl rfl
theorem W_prog_15_method_11_code_704 : chW prog_15_method_11_code 704 [17, 1, 144, 188, 10, 181, 1, 10, 42, 17, 1, 144, 188, 11, 181, 1, 13, 42, 17, 1, 144, 188, 11, 181, 1, 16, 42, 16, 8, 188, 10, 181, 1, 19, 42, 16] := chW_of (by decide +kernel)
theorem d_15_11_704 : decode prog_15_method_11_code 704 = .ok (.sipush 400, 3) := D_17 W_prog_15_method_11_code_704 0 rfl rfl rfl
theorem d_15_11_707 : decode prog_15_method_11_code 707 = .ok (.newarray .int, 2) := D_188_10 W_prog_15_method_11_code_704 3 rfl rfl
theorem d_15_11_709 : decode prog_15_method_11_code 709 = .ok (.putfield 266, 3) := D_181 W_prog_15_method_11_code_704 5 rfl rfl rfl
theorem d_15_11_712 : decode prog_15_method_11_code 712 = .ok (.aload_n 0, 1) := D_42 W_prog_15_method_11_code_704 8 rfl rfl
theorem d_15_11_713 : decode prog_15_method_11_code 713 = .ok (.sipush 400, 3) := D_17 W_prog_15_method_11_code_704 9 rfl rfl rfl
theorem d_15_11_716 : decode prog_15_method_11_code 716 = .ok (.newarray .long, 2) := D_188_11 W_prog_15_method_11_code_704 12 rfl rfl
theorem d_15_11_718 : decode prog_15_method_11_code 718 = .ok (.putfield 269, 3) := D_181 W_prog_15_method_11_code_704 14 rfl rfl rfl
theorem d_15_11_721 : decode prog_15_method_11_code 721 = .ok (.aload_n 0, 1) := D_42 W_prog_15_method_11_code_704 17 rfl rfl
theorem d_15_11_722 : decode prog_15_method_11_code 722 = .ok (.sipush 400, 3) := D_17 W_prog_15_method_11_code_704 18 rfl rfl rfl
theorem d_15_11_725 : decode prog_15_method_11_code 725 = .ok (.newarray .long, 2) := D_188_11 W_prog_15_method_11_code_704 21 rfl rfl
theorem d_15_11_727 : decode prog_15_method_11_code 727 = .ok (.putfield 272, 3) := D_181 W_prog_15_method_11_code_704 23 rfl rfl rfl
theorem d_15_11_730 : decode prog_15_method_11_code 730 = .ok (.aload_n 0, 1) := D_42 W_prog_15_method_11_code_704 26 rfl rfl
theorem d_15_11_731 : decode prog_15_method_11_code 731 = .ok (.bipush 8, 2) := D_16 W_prog_15_method_11_code_704 27 rfl rfl rfl
theorem d_15_11_733 : decode prog_15_method_11_code 733 = .ok (.newarray .int, 2) := D_188_10 W_prog_15_method_11_code_704 29 rfl rfl
theorem d_15_11_735 : decode prog_15_method_11_code 735 = .ok (.putfield 275, 3) := D_181 W_prog_15_method_11_code_704 31 rfl rfl rfl
theorem W_prog_15_method_11_code_736 : chW prog_15_method_11_code 736 [1, 19, 42, 16, 6, 188, 10, 181, 1, 22, 42, 16, 89, 188, 10, 89, 3, 16, 7, 79, 89, 4, 16, 8, 79, 89, 5, 16, 9, 79, 89, 6, 16, 10, 79, 89] := chW_of (by decide +kernel)
theorem d_15_11_738 : decode prog_15_method_11_code 738 = .ok (.aload_n 0, 1) := D_42 W_prog_15_method_11_code_736 2 rfl rfl
theorem d_15_11_739 : decode prog_15_method_11_code 739 = .ok (.bipush 6, 2) := D_16 W_prog_15_method_11_code_736 3 rfl rfl rfl
theorem d_15_11_741 : decode prog_15_method_11_code 741 = .ok (.newarray .int, 2) := D_188_10 W_prog_15_method_11_code_736 5 rfl rfl
theorem d_15_11_743 : decode prog_15_method_11_code 743 = .ok (.putfield 278, 3) := D_181 W_prog_15_method_11_code_736 7 rfl rfl rfl
theorem d_15_11_746 : decode prog_15_method_11_code 746 = .ok (.aload_n 0, 1) := D_42 W_prog_15_method_11_code_736 10 rfl rfl
theorem d_15_11_747 : decode prog_15_method_11_code 747 = .ok (.bipush 89, 2) := D_16 W_prog_15_method_11_code_736 11 rfl rfl rfl
theorem d_15_11_749 : decode prog_15_method_11_code 749 = .ok (.newarray .int, 2) := D_188_10 W_prog_15_method_11_code_736 13 rfl rfl
theorem d_15_11_751 : decode prog_15_method_11_code 751 = .ok (.dup, 1) := D_89 W_prog_15_method_11_code_736 15 rfl rfl
theorem d_15_11_752 : decode prog_15_method_11_code 752 = .ok (.iconst 0, 1) := D_3 W_prog_15_method_11_code_736 16 rfl rfl
theorem d_15_11_753 : decode prog_15_method_11_code 753 = .ok (.bipush 7, 2) := D_16 W_prog_15_method_11_code_736 17 rfl rfl rfl
theorem d_15_11_755 : decode prog_15_method_11_code 755 = .ok (.iastore, 1) := D_79 W_prog_15_method_11_code_736 19 rfl rfl
theorem d_15_11_756 : decode prog_15_method_11_code 756 = .ok (.dup, 1) := D_89 W_prog_15_method_11_code_736 20 rfl rfl
theorem d_15_11_757 : decode prog_15_method_11_code 757 = .ok (.iconst 1, 1) := D_4 W_prog_15_method_11_code_736 21 rfl rfl
theorem d_15_11_758 : decode prog_15_method_11_code 758 = .ok (.bipush 8, 2) := D_16 W_prog_15_method_11_code_736 22 rfl rfl rfl
theorem d_15_11_760 : decode prog_15_method_11_code 760 = .ok (.iastore, 1) := D_79 W_prog_15_method_11_code_736 24 rfl rfl
theorem d_15_11_761 : decode prog_15_method_11_code 761 = .ok (.dup, 1) := D_89 W_prog_15_method_11_code_736 25 rfl rfl
theorem d_15_11_762 : decode prog_15_method_11_code 762 = .ok (.iconst 2, 1) := D_5 W_prog_15_method_11_code_736 26 rfl rfl
theorem d_15_11_763 : decode prog_15_method_11_code 763 = .ok (.bipush 9, 2) := D_16 W_prog_15_method_11_code_736 27 rfl rfl rfl
theorem d_15_11_765 : decode prog_15_method_11_code 765 = .ok (.iastore, 1) := D_79 W_prog_15_method_11_code_736 29 rfl rfl
theorem d_15_11_766 : decode prog_15_method_11_code 766 = .ok (.dup, 1) := D_89 W_prog_15_method_11_code_736 30 rfl rfl
theorem d_15_11_767 : decode prog_15_method_11_code 767 = .ok (.iconst 3, 1) := D_6 W_prog_15_method_11_code_736 31 rfl rfl
theorem W_prog_15_method_11_code_768 : chW prog_15_method_11_code 768 [16, 10, 79, 89, 7, 16, 11, 79, 89, 8, 16, 12, 79, 89, 16, 6, 16, 13, 79, 89, 16, 7, 16, 14, 79, 89, 16, 8, 16, 16, 79, 89, 16, 9, 16, 17] := chW_of (by decide +kernel)
theorem d_15_11_768 : decode prog_15_method_11_code 768 = .ok (.bipush 10, 2) := D_16 W_prog_15_method_11_code_768 0 rfl rfl rfl
theorem d_15_11_770 : decode prog_15_method_11_code 770 = .ok (.iastore, 1) := D_79 W_prog_15_method_11_code_768 2 rfl rfl
theorem d_15_11_771 : decode prog_15_method_11_code 771 = .ok (.dup, 1) := D_89 W_prog_15_method_11_code_768 3 rfl rfl
theorem d_15_11_772 : decode prog_15_method_11_code 772 = .ok (.iconst 4, 1) := D_7 W_prog_15_method_11_code_768 4 rfl rfl
theorem d_15_11_773 : decode prog_15_method_11_code 773 = .ok (.bipush 11, 2) := D_16 W_prog_15_method_11_code_768 5 rfl rfl rfl
theorem d_15_11_775 : decode prog_15_method_11_code 775 = .ok (.iastore, 1) := D_79 W_prog_15_method_11_code_768 7 rfl rfl
theorem d_15_11_776 : decode prog_15_method_11_code 776 = .ok (.dup, 1) := D_89 W_prog_15_method_11_code_768 8 rfl rfl
theorem d_15_11_777 : decode prog_15_method_11_code 777 = .ok (.iconst 5, 1) := D_8 W_prog_15_method_11_code_768 9 rfl rfl
theorem d_15_11_778 : decode prog_15_method_11_code 778 = .ok (.bipush 12, 2) := D_16 W_prog_15_method_11_code_768 10 rfl rfl rfl
theorem d_15_11_780 : decode prog_15_method_11_code 780 = .ok (.iastore, 1) := D_79 W_prog_15_method_11_code_768 12 rfl rfl
theorem d_15_11_781 : decode prog_15_method_11_code 781 = .ok (.dup, 1) := D_89 W_prog_15_method_11_code_768 13 rfl rfl
theorem d_15_11_782 : decode prog_15_method_11_code 782 = .ok (.bipush 6, 2) := D_16 W_prog_15_method_11_code_768 14 rfl rfl rfl
theorem d_15_11_784 : decode prog_15_method_11_code 784 = .ok (.bipush 13, 2) := D_16 W_prog_15_method_11_code_768 16 rfl rfl rfl
theorem d_15_11_786 : decode prog_15_method_11_code 786 = .ok (.iastore, 1) := D_79 W_prog_15_method_11_code_768 18 rfl rfl
theorem d_15_11_787 : decode prog_15_method_11_code 787 = .ok (.dup, 1) := D_89 W_prog_15_method_11_code_768 19 rfl rfl
theorem d_15_11_788 : decode prog_15_method_11_code 788 = .ok (.bipush 7, 2) := D_16 W_prog_15_method_11_code_768 20 rfl rfl rfl
theorem d_15_11_790 : decode prog_15_method_11_code 790 = .ok (.bipush 14, 2) := D_16 W_prog_15_method_11_code_768 22 rfl rfl rfl
theorem d_15_11_792 : decode prog_15_method_11_code 792 = .ok (.iastore, 1) := D_79 W_prog_15_method_11_code_768 24 rfl rfl
theorem d_15_11_793 : decode prog_15_method_11_code 793 = .ok (.dup, 1) := D_89 W_prog_15_method_11_code_768 25 rfl rfl
theorem d_15_11_794 : decode prog_15_method_11_code 794 = .ok (.bipush 8, 2) := D_16 W_prog_15_method_11_code_768 26 rfl rfl rfl
theorem d_15_11_796 : decode prog_15_method_11_code 796 = .ok (.bipush 16, 2) := D_16 W_prog_15_method_11_code_768 28 rfl rfl rfl
theorem d_15_11_798 : decode prog_15_method_11_code 798 = .ok (.iastore, 1) := D_79 W_prog_15_method_11_code_768 30 rfl rfl
theorem d_15_11_799 : decode prog_15_method_11_code 799 = .ok (.dup, 1) := D_89 W_prog_15_method_11_code_768 31 rfl rfl
theorem W_prog_15_method_11_code_800 : chW prog_15_method_11_code 800 [16, 9, 16, 17, 79, 89, 16, 10, 16, 19, 79, 89, 16, 11, 16, 21, 79, 89, 16, 12, 16, 23, 79, 89, 16, 13, 16, 25, 79, 89, 16, 14, 16, 28, 79, 89] := chW_of (by decide +kernel)
theorem d_15_11_800 : decode prog_15_method_11_code 800 = .ok (.bipush 9, 2) := D_16 W_prog_15_method_11_code_800 0 rfl rfl rfl
theorem d_15_11_802 : decode prog_15_method_11_code 802 = .ok (.bipush 17, 2) := D_16 W_prog_15_method_11_code_800 2 rfl rfl rfl
theorem d_15_11_804 : decode prog_15_method_11_code 804 = .ok (.iastore, 1) := D_79 W_prog_15_method_11_code_800 4 rfl rfl
theorem d_15_11_805 : decode prog_15_method_11_code 805 = .ok (.dup, 1) := D_89 W_prog_15_method_11_code_800 5 rfl rfl
theorem d_15_11_806 : decode prog_15_method_11_code 806 = .ok (.bipush 10, 2) := D_16 W_prog_15_method_11_code_800 6 rfl rfl rfl
theorem d_15_11_808 : decode prog_15_method_11_code 808 = .ok (.bipush 19, 2) := D_16 W_prog_15_method_11_code_800 8 rfl rfl rfl
theorem d_15_11_810 : decode prog_15_method_11_code 810 = .ok (.iastore, 1) := D_79 W_prog_15_method_11_code_800 10 rfl rfl
theorem d_15_11_811 : decode prog_15_method_11_code 811 = .ok (.dup, 1) := D_89 W_prog_15_method_11_code_800 11 rfl rfl
theorem d_15_11_812 : decode prog_15_method_11_code 812 = .ok (.bipush 11, 2) := D_16 W_prog_15_method_11_code_800 12 rfl rfl rfl
theorem d_15_11_814 : decode prog_15_method_11_code 814 = .ok (.bipush 21, 2) := D_16 W_prog_15_method_11_code_800 14 rfl rfl rfl
theorem d_15_11_816 : decode prog_15_method_11_code 816 = .ok (.iastore, 1) := D_79 W_prog_15_method_11_code_800 16 rfl rfl
theorem d_15_11_817 : decode prog_15_method_11_code 817 = .ok (.dup, 1) := D_89 W_prog_15_method_11_code_800 17 rfl rfl
theorem d_15_11_818 : decode prog_15_method_11_code 818 = .ok (.bipush 12, 2) := D_16 W_prog_15_method_11_code_800 18 rfl rfl rfl
theorem d_15_11_820 : decode prog_15_method_11_code 820 = .ok (.bipush 23, 2) := D_16 W_prog_15_method_11_code_800 20 rfl rfl rfl
theorem d_15_11_822 : decode prog_15_method_11_code 822 = .ok (.iastore, 1) := D_79 W_prog_15_method_11_code_800 22 rfl rfl
theorem d_15_11_823 : decode prog_15_method_11_code 823 = .ok (.dup, 1) := D_89 W_prog_15_method_11_code_800 23 rfl rfl
theorem d_15_11_824 : decode prog_15_method_11_code 824 = .ok (.bipush 13, 2) := D_16 W_prog_15_method_11_code_800 24 rfl rfl rfl
theorem d_15_11_826 : decode prog_15_method_11_code 826 = .ok (.bipush 25, 2) := D_16 W_prog_15_method_11_code_800 26 rfl rfl rfl
theorem d_15_11_828 : decode prog_15_method_11_code 828 = .ok (.iastore, 1) := D_79 W_prog_15_method_11_code_800 28 rfl rfl
theorem d_15_11_829 : decode prog_15_method_11_code 829 = .ok (.dup, 1) := D_89 W_prog_15_method_11_code_800 29 rfl rfl
theorem d_15_11_830 : decode prog_15_method_11_code 830 = .ok (.bipush 14, 2) := D_16 W_prog_15_method_11_code_800 30 rfl rfl rfl
theorem W_prog_15_method_11_code_832 : chW prog_15_method_11_code 832 [16, 28, 79, 89, 16, 15, 16, 31, 79, 89, 16, 16, 16, 34, 79, 89, 16, 17, 16, 37, 79, 89, 16, 18, 16, 41, 79, 89, 16, 19, 16, 45, 79, 89, 16, 20] := chW_of (by decide +kernel)
theorem d_15_11_832 : decode prog_15_method_11_code 832 = .ok (.bipush 28, 2) := D_16 W_prog_15_method_11_code_832 0 rfl rfl rfl
theorem d_15_11_834 : decode prog_15_method_11_code 834 = .ok (.iastore, 1) := D_79 W_prog_15_method_11_code_832 2 rfl rfl
theorem d_15_11_835 : decode prog_15_method_11_code 835 = .ok (.dup, 1) := D_89 W_prog_15_method_11_code_832 3 rfl rfl
theorem d_15_11_836 : decode prog_15_method_11_code 836 = .ok (.bipush 15, 2) := D_16 W_prog_15_method_11_code_832 4 rfl rfl rfl
theorem d_15_11_838 : decode prog_15_method_11_code 838 = .ok (.bipush 31, 2) := D_16 W_prog_15_method_11_code_832 6 rfl rfl rfl
theorem d_15_11_840 : decode prog_15_method_11_code 840 = .ok (.iastore, 1) := D_79 W_prog_15_method_11_code_832 8 rfl rfl
theorem d_15_11_841 : decode prog_15_method_11_code 841 = .ok (.dup, 1) := D_89 W_prog_15_method_11_code_832 9 rfl rfl
theorem d_15_11_842 : decode prog_15_method_11_code 842 = .ok (.bipush 16, 2) := D_16 W_prog_15_method_11_code_832 10 rfl rfl rfl
theorem d_15_11_844 : decode prog_15_method_11_code 844 = .ok (.bipush 34, 2) := D_16 W_prog_15_method_11_code_832 12 rfl rfl rfl
theorem d_15_11_846 : decode prog_15_method_11_code 846 = .ok (.iastore, 1) := D_79 W_prog_15_method_11_code_832 14 rfl rfl
theorem d_15_11_847 : decode prog_15_method_11_code 847 = .ok (.dup, 1) := D_89 W_prog_15_method_11_code_832 15 rfl rfl
theorem d_15_11_848 : decode prog_15_method_11_code 848 = .ok (.bipush 17, 2) := D_16 W_prog_15_method_11_code_832 16 rfl rfl rfl
theorem d_15_11_850 : decode prog_15_method_11_code 850 = .ok (.bipush 37, 2) := D_16 W_prog_15_method_11_code_832 18 rfl rfl rfl
theorem d_15_11_852 : decode prog_15_method_11_code 852 = .ok (.iastore, 1) := D_79 W_prog_15_method_11_code_832 20 rfl rfl
theorem d_15_11_853 : decode prog_15_method_11_code 853 = .ok (.dup, 1) := D_89 W_prog_15_method_11_code_832 21 rfl rfl
theorem d_15_11_854 : decode prog_15_method_11_code 854 = .ok (.bipush 18, 2) := D_16 W_prog_15_method_11_code_832 22 rfl rfl rfl
theorem d_15_11_856 : decode prog_15_method_11_code 856 = .ok (.bipush 41, 2) := D_16 W_prog_15_method_11_code_832 24 rfl rfl rfl
theorem d_15_11_858 : decode prog_15_method_11_code 858 = .ok (.iastore, 1) := D_79 W_prog_15_method_11_code_832 26 rfl rfl
theorem d_15_11_859 : decode prog_15_method_11_code 859 = .ok (.dup, 1) := D_89 W_prog_15_method_11_code_832 27 rfl rfl
theorem d_15_11_860 : decode prog_15_method_11_code 860 = .ok (.bipush 19, 2) := D_16 W_prog_15_method_11_code_832 28 rfl rfl rfl
theorem d_15_11_862 : decode prog_15_method_11_code 862 = .ok (.bipush 45, 2) := D_16 W_prog_15_method_11_code_832 30 rfl rfl rfl
theorem W_prog_15_method_11_code_864 : chW prog_15_method_11_code 864 [79, 89, 16, 20, 16, 50, 79, 89, 16, 21, 16, 55, 79, 89, 16, 22, 16, 60, 79, 89, 16, 23, 16, 66, 79, 89, 16, 24, 16, 73, 79, 89, 16, 25, 16, 80] := chW_of (by decide +kernel)
theorem d_15_11_864 : decode prog_15_method_11_code 864 = .ok (.iastore, 1) := D_79 W_prog_15_method_11_code_864 0 rfl rfl
theorem d_15_11_865 : decode prog_15_method_11_code 865 = .ok (.dup, 1) := D_89 W_prog_15_method_11_code_864 1 rfl rfl
theorem d_15_11_866 : decode prog_15_method_11_code 866 = .ok (.bipush 20, 2) := D_16 W_prog_15_method_11_code_864 2 rfl rfl rfl
theorem d_15_11_868 : decode prog_15_method_11_code 868 = .ok (.bipush 50, 2) := D_16 W_prog_15_method_11_code_864 4 rfl rfl rfl
theorem d_15_11_870 : decode prog_15_method_11_code 870 = .ok (.iastore, 1) := D_79 W_prog_15_method_11_code_864 6 rfl rfl
theorem d_15_11_871 : decode prog_15_method_11_code 871 = .ok (.dup, 1) := D_89 W_prog_15_method_11_code_864 7 rfl rfl
theorem d_15_11_872 : decode prog_15_method_11_code 872 = .ok (.bipush 21, 2) := D_16 W_prog_15_method_11_code_864 8 rfl rfl rfl
theorem d_15_11_874 : decode prog_15_method_11_code 874 = .ok (.bipush 55, 2) := D_16 W_prog_15_method_11_code_864 10 rfl rfl rfl
theorem d_15_11_876 : decode prog_15_method_11_code 876 = .ok (.iastore, 1) := D_79 W_prog_15_method_11_code_864 12 rfl rfl
theorem d_15_11_877 : decode prog_15_method_11_code 877 = .ok (.dup, 1) := D_89 W_prog_15_method_11_code_864 13 rfl rfl
theorem d_15_11_878 : decode prog_15_method_11_code 878 = .ok (.bipush 22, 2) := D_16 W_prog_15_method_11_code_864 14 rfl rfl rfl
theorem d_15_11_880 : decode prog_15_method_11_code 880 = .ok (.bipush 60, 2) := D_16 W_prog_15_method_11_code_864 16 rfl rfl rfl
theorem d_15_11_882 : decode prog_15_method_11_code 882 = .ok (.iastore, 1) := D_79 W_prog_15_method_11_code_864 18 rfl rfl
theorem d_15_11_883 : decode prog_15_method_11_code 883 = .ok (.dup, 1) := D_89 W_prog_15_method_11_code_864 19 rfl rfl
theorem d_15_11_884 : decode prog_15_method_11_code 884 = .ok (.bipush 23, 2) := D_16 W_prog_15_method_11_code_864 20 rfl rfl rfl
theorem d_15_11_886 : decode prog_15_method_11_code 886 = .ok (.bipush 66, 2) := D_16 W_prog_15_method_11_code_864 22 rfl rfl rfl
theorem d_15_11_888 : decode prog_15_method_11_code 888 = .ok (.iastore, 1) := D_79 W_prog_15_method_11_code_864 24 rfl rfl
theorem d_15_11_889 : decode prog_15_method_11_code 889 = .ok (.dup, 1) := D_89 W_prog_15_method_11_code_864 25 rfl rfl
theorem d_15_11_890 : decode prog_15_method_11_code 890 = .ok (.bipush 24, 2) := D_16 W_prog_15_method_11_code_864 26 rfl rfl rfl
theorem d_15_11_892 : decode prog_15_method_11_code 892 = .ok (.bipush 73, 2) := D_16 W_prog_15_method_11_code_864 28 rfl rfl rfl
theorem d_15_11_894 : decode prog_15_method_11_code 894 = .ok (.iastore, 1) := D_79 W_prog_15_method_11_code_864 30 rfl rfl
theorem d_15_11_895 : decode prog_15_method_11_code 895 = .ok (.dup, 1) := D_89 W_prog_15_method_11_code_864 31 rfl rfl
theorem W_prog_15_method_11_code_896 : chW prog_15_method_11_code 896 [16, 25, 16, 80, 79, 89, 16, 26, 16, 88, 79, 89, 16, 27, 16, 97, 79, 89, 16, 28, 16, 107, 79, 89, 16, 29, 16, 118, 79, 89, 16, 30, 17, 0, 130, 79] := chW_of (by decide +kernel)
theorem d_15_11_896 : decode prog_15_method_11_code 896 = .ok (.bipush 25, 2) := D_16 W_prog_15_method_11_code_896 0 rfl rfl rfl
theorem d_15_11_898 : decode prog_15_method_11_code 898 = .ok (.bipush 80, 2) := D_16 W_prog_15_method_11_code_896 2 rfl rfl rfl
theorem d_15_11_900 : decode prog_15_method_11_code 900 = .ok (.iastore, 1) := D_79 W_prog_15_method_11_code_896 4 rfl rfl
theorem d_15_11_901 : decode prog_15_method_11_code 901 = .ok (.dup, 1) := D_89 W_prog_15_method_11_code_896 5 rfl rfl
theorem d_15_11_902 : decode prog_15_method_11_code 902 = .ok (.bipush 26, 2) := D_16 W_prog_15_method_11_code_896 6 rfl rfl rfl
theorem d_15_11_904 : decode prog_15_method_11_code 904 = .ok (.bipush 88, 2) := D_16 W_prog_15_method_11_code_896 8 rfl rfl rfl
theorem d_15_11_906 : decode prog_15_method_11_code 906 = .ok (.iastore, 1) := D_79 W_prog_15_method_11_code_896 10 rfl rfl
theorem d_15_11_907 : decode prog_15_method_11_code 907 = .ok (.dup, 1) := D_89 W_prog_15_method_11_code_896 11 rfl rfl
theorem d_15_11_908 : decode prog_15_method_11_code 908 = .ok (.bipush 27, 2) := D_16 W_prog_15_method_11_code_896 12 rfl rfl rfl
theorem d_15_11_910 : decode prog_15_method_11_code 910 = .ok (.bipush 97, 2) := D_16 W_prog_15_method_11_code_896 14 rfl rfl rfl
theorem d_15_11_912 : decode prog_15_method_11_code 912 = .ok (.iastore, 1) := D_79 W_prog_15_method_11_code_896 16 rfl rfl
theorem d_15_11_913 : decode prog_15_method_11_code 913 = .ok (.dup, 1) := D_89 W_prog_15_method_11_code_896 17 rfl rfl
theorem d_15_11_914 : decode prog_15_method_11_code 914 = .ok (.bipush 28, 2) := D_16 W_prog_15_method_11_code_896 18 rfl rfl rfl
theorem d_15_11_916 : decode prog_15_method_11_code 916 = .ok (.bipush 107, 2) := D_16 W_prog_15_method_11_code_896 20 rfl rfl rfl
theorem d_15_11_918 : decode prog_15_method_11_code 918 = .ok (.iastore, 1) := D_79 W_prog_15_method_11_code_896 22 rfl rfl
theorem d_15_11_919 : decode prog_15_method_11_code 919 = .ok (.dup, 1) := D_89 W_prog_15_method_11_code_896 23 rfl rfl
theorem d_15_11_920 : decode prog_15_method_11_code 920 = .ok (.bipush 29, 2) := D_16 W_prog_15_method_11_code_896 24 rfl rfl rfl
theorem d_15_11_922 : decode prog_15_method_11_code 922 = .ok (.bipush 118, 2) := D_16 W_prog_15_method_11_code_896 26 rfl rfl rfl
theorem d_15_11_924 : decode prog_15_method_11_code 924 = .ok (.iastore, 1) := D_79 W_prog_15_method_11_code_896 28 rfl rfl
theorem d_15_11_925 : decode prog_15_method_11_code 925 = .ok (.dup, 1) := D_89 W_prog_15_method_11_code_896 29 rfl rfl
theorem d_15_11_926 : decode prog_15_method_11_code 926 = .ok (.bipush 30, 2) := D_16 W_prog_15_method_11_code_896 30 rfl rfl rfl
theorem W_prog_15_method_11_code_928 : chW prog_15_method_11_code 928 [17, 0, 130, 79, 89, 16, 31, 17, 0, 143, 79, 89, 16, 32, 17, 0, 157, 79, 89, 16, 33, 17, 0, 173, 79, 89, 16, 34, 17, 0, 190, 79, 89, 16, 35, 17] := chW_of (by decide +kernel)
theorem d_15_11_928 : decode prog_15_method_11_code 928 = .ok (.sipush 130, 3) := D_17 W_prog_15_method_11_code_928 0 rfl rfl rfl
theorem d_15_11_931 : decode prog_15_method_11_code 931 = .ok (.iastore, 1) := D_79 W_prog_15_method_11_code_928 3 rfl rfl
theorem d_15_11_932 : decode prog_15_method_11_code 932 = .ok (.dup, 1) := D_89 W_prog_15_method_11_code_928 4 rfl rfl
theorem d_15_11_933 : decode prog_15_method_11_code 933 = .ok (.bipush 31, 2) := D_16 W_prog_15_method_11_code_928 5 rfl rfl rfl
theorem d_15_11_935 : decode prog_15_method_11_code 935 = .ok (.sipush 143, 3) := D_17 W_prog_15_method_11_code_928 7 rfl rfl rfl
theorem d_15_11_938 : decode prog_15_method_11_code 938 = .ok (.iastore, 1) := D_79 W_prog_15_method_11_code_928 10 rfl rfl
theorem d_15_11_939 : decode prog_15_method_11_code 939 = .ok (.dup, 1) := D_89 W_prog_15_method_11_code_928 11 rfl rfl
theorem d_15_11_940 : decode prog_15_method_11_code 940 = .ok (.bipush 32, 2) := D_16 W_prog_15_method_11_code_928 12 rfl rfl rfl
theorem d_15_11_942 : decode prog_15_method_11_code 942 = .ok (.sipush 157, 3) := D_17 W_prog_15_method_11_code_928 14 rfl rfl rfl
theorem d_15_11_945 : decode prog_15_method_11_code 945 = .ok (.iastore, 1) := D_79 W_prog_15_method_11_code_928 17 rfl rfl
theorem d_15_11_946 : decode prog_15_method_11_code 946 = .ok (.dup, 1) := D_89 W_prog_15_method_11_code_928 18 rfl rfl
theorem d_15_11_947 : decode prog_15_method_11_code 947 = .ok (.bipush 33, 2) := D_16 W_prog_15_method_11_code_928 19 rfl rfl rfl
theorem d_15_11_949 : decode prog_15_method_11_code 949 = .ok (.sipush 173, 3) := D_17 W_prog_15_method_11_code_928 21 rfl rfl rfl
theorem d_15_11_952 : decode prog_15_method_11_code 952 = .ok (.iastore, 1) := D_79 W_prog_15_method_11_code_928 24 rfl rfl
theorem d_15_11_953 : decode prog_15_method_11_code 953 = .ok (.dup, 1) := D_89 W_prog_15_method_11_code_928 25 rfl rfl
theorem d_15_11_954 : decode prog_15_method_11_code 954 = .ok (.bipush 34, 2) := D_16 W_prog_15_method_11_code_928 26 rfl rfl rfl
theorem d_15_11_956 : decode prog_15_method_11_code 956 = .ok (.sipush 190, 3) := D_17 W_prog_15_method_11_code_928 28 rfl rfl rfl
theorem d_15_11_959 : decode prog_15_method_11_code 959 = .ok (.iastore, 1) := D_79 W_prog_15_method_11_code_928 31 rfl rfl
theorem W_prog_15_method_11_code_960 : chW prog_15_method_11_code 960 [89, 16, 35, 17, 0, 209, 79, 89, 16, 36, 17, 0, 230, 79, 89, 16, 37, 17, 0, 253, 79, 89, 16, 38, 17, 1, 23, 79, 89, 16, 39, 17, 1, 51, 79, 89] := chW_of (by decide +kernel)
theorem d_15_11_960 : decode prog_15_method_11_code 960 = .ok (.dup, 1) := D_89 W_prog_15_method_11_code_960 0 rfl rfl
theorem d_15_11_961 : decode prog_15_method_11_code 961 = .ok (.bipush 35, 2) := D_16 W_prog_15_method_11_code_960 1 rfl rfl rfl
theorem d_15_11_963 : decode prog_15_method_11_code 963 = .ok (.sipush 209, 3) := D_17 W_prog_15_method_11_code_960 3 rfl rfl rfl
theorem d_15_11_966 : decode prog_15_method_11_code 966 = .ok (.iastore, 1) := D_79 W_prog_15_method_11_code_960 6 rfl rfl
theorem d_15_11_967 : decode prog_15_method_11_code 967 = .ok (.dup, 1) := D_89 W_prog_15_method_11_code_960 7 rfl rfl
theorem d_15_11_968 : decode prog_15_method_11_code 968 = .ok (.bipush 36, 2) := D_16 W_prog_15_method_11_code_960 8 rfl rfl rfl
theorem d_15_11_970 : decode prog_15_method_11_code 970 = .ok (.sipush 230, 3) := D_17 W_prog_15_method_11_code_960 10 rfl rfl rfl
theorem d_15_11_973 : decode prog_15_method_11_code 973 = .ok (.iastore, 1) := D_79 W_prog_15_method_11_code_960 13 rfl rfl
theorem d_15_11_974 : decode prog_15_method_11_code 974 = .ok (.dup, 1) := D_89 W_prog_15_method_11_code_960 14 rfl rfl
theorem d_15_11_975 : decode prog_15_method_11_code 975 = .ok (.bipush 37, 2) := D_16 W_prog_15_method_11_code_960 15 rfl rfl rfl
theorem d_15_11_977 : decode prog_15_method_11_code 977 = .ok (.sipush 253, 3) := D_17 W_prog_15_method_11_code_960 17 rfl rfl rfl
theorem d_15_11_980 : decode prog_15_method_11_code 980 = .ok (.iastore, 1) := D_79 W_prog_15_method_11_code_960 20 rfl rfl
theorem d_15_11_981 : decode prog_15_method_11_code 981 = .ok (.dup, 1) := D_89 W_prog_15_method_11_code_960 21 rfl rfl
theorem d_15_11_982 : decode prog_15_method_11_code 982 = .ok (.bipush 38, 2) := D_16 W_prog_15_method_11_code_960 22 rfl rfl rfl
theorem d_15_11_984 : decode prog_15_method_11_code 984 = .ok (.sipush 279, 3) := D_17 W_prog_15_method_11_code_960 24 rfl rfl rfl
theorem d_15_11_987 : decode prog_15_method_11_code 987 = .ok (.iastore, 1) := D_79 W_prog_15_method_11_code_960 27 rfl rfl
theorem d_15_11_988 : decode prog_15_method_11_code 988 = .ok (.dup, 1) := D_89 W_prog_15_method_11_code_960 28 rfl rfl
theorem d_15_11_989 : decode prog_15_method_11_code 989 = .ok (.bipush 39, 2) := D_16 W_prog_15_method_11_code_960 29 rfl rfl rfl
theorem d_15_11_991 : decode prog_15_method_11_code 991 = .ok (.sipush 307, 3) := D_17 W_prog_15_method_11_code_960 31 rfl rfl rfl
theorem W_prog_15_method_11_code_992 : chW prog_15_method_11_code 992 [1, 51, 79, 89, 16, 40, 17, 1, 81, 79, 89, 16, 41, 17, 1, 115, 79, 89, 16, 42, 17, 1, 152, 79, 89, 16, 43, 17, 1, 193, 79, 89, 16, 44, 17, 1] := chW_of (by decide +kernel)
theorem d_15_11_994 : decode prog_15_method_11_code 994 = .ok (.iastore, 1) := D_79 W_prog_15_method_11_code_992 2 rfl rfl
theorem d_15_11_995 : decode prog_15_method_11_code 995 = .ok (.dup, 1) := D_89 W_prog_15_method_11_code_992 3 rfl rfl
theorem d_15_11_996 : decode prog_15_method_11_code 996 = .ok (.bipush 40, 2) := D_16 W_prog_15_method_11_code_992 4 rfl rfl rfl
theorem d_15_11_998 : decode prog_15_method_11_code 998 = .ok (.sipush 337, 3) := D_17 W_prog_15_method_11_code_992 6 rfl rfl rfl
theorem d_15_11_1001 : decode prog_15_method_11_code 1001 = .ok (.iastore, 1) := D_79 W_prog_15_method_11_code_992 9 rfl rfl
theorem d_15_11_1002 : decode prog_15_method_11_code 1002 = .ok (.dup, 1) := D_89 W_prog_15_method_11_code_992 10 rfl rfl
theorem d_15_11_1003 : decode prog_15_method_11_code 1003 = .ok (.bipush 41, 2) := D_16 W_prog_15_method_11_code_992 11 rfl rfl rfl
theorem d_15_11_1005 : decode prog_15_method_11_code 1005 = .ok (.sipush 371, 3) := D_17 W_prog_15_method_11_code_992 13 rfl rfl rfl
theorem d_15_11_1008 : decode prog_15_method_11_code 1008 = .ok (.iastore, 1) := D_79 W_prog_15_method_11_code_992 16 rfl rfl
theorem d_15_11_1009 : decode prog_15_method_11_code 1009 = .ok (.dup, 1) := D_89 W_prog_15_method_11_code_992 17 rfl rfl
theorem d_15_11_1010 : decode prog_15_method_11_code 1010 = .ok (.bipush 42, 2) := D_16 W_prog_15_method_11_code_992 18 rfl rfl rfl
theorem d_15_11_1012 : decode prog_15_method_11_code 1012 = .ok (.sipush 408, 3) := D_17 W_prog_15_method_11_code_992 20 rfl rfl rfl
theorem d_15_11_1015 : decode prog_15_method_11_code 1015 = .ok (.iastore, 1) := D_79 W_prog_15_method_11_code_992 23 rfl rfl
theorem d_15_11_1016 : decode prog_15_method_11_code 1016 = .ok (.dup, 1) := D_89 W_prog_15_method_11_code_992 24 rfl rfl
theorem d_15_11_1017 : decode prog_15_method_11_code 1017 = .ok (.bipush 43, 2) := D_16 W_prog_15_method_11_code_992 25 rfl rfl rfl
theorem d_15_11_1019 : decode prog_15_method_11_code 1019 = .ok (.sipush 449, 3) := D_17 W_prog_15_method_11_code_992 27 rfl rfl rfl
theorem d_15_11_1022 : decode prog_15_method_11_code 1022 = .ok (.iastore, 1) := D_79 W_prog_15_method_11_code_992 30 rfl rfl
theorem d_15_11_1023 : decode prog_15_method_11_code 1023 = .ok (.dup, 1) := D_89 W_prog_15_method_11_code_992 31 rfl rfl
theorem W_prog_15_method_11_code_1024 : chW prog_15_method_11_code 1024 [16, 44, 17, 1, 238, 79, 89, 16, 45, 17, 2, 32, 79, 89, 16, 46, 17, 2, 86, 79, 89, 16, 47, 17, 2, 146, 79, 89, 16, 48, 17, 2, 212, 79, 89, 16] := chW_of (by decide +kernel)
theorem d_15_11_1024 : decode prog_15_method_11_code 1024 = .ok (.bipush 44, 2) := D_16 W_prog_15_method_11_code_1024 0 rfl rfl rfl
theorem d_15_11_1026 : decode prog_15_method_11_code 1026 = .ok (.sipush 494, 3) := D_17 W_prog_15_method_11_code_1024 2 rfl rfl rfl
theorem d_15_11_1029 : decode prog_15_method_11_code 1029 = .ok (.iastore, 1) := D_79 W_prog_15_method_11_code_1024 5 rfl rfl
theorem d_15_11_1030 : decode prog_15_method_11_code 1030 = .ok (.dup, 1) := D_89 W_prog_15_method_11_code_1024 6 rfl rfl
theorem d_15_11_1031 : decode prog_15_method_11_code 1031 = .ok (.bipush 45, 2) := D_16 W_prog_15_method_11_code_1024 7 rfl rfl rfl
theorem d_15_11_1033 : decode prog_15_method_11_code 1033 = .ok (.sipush 544, 3) := D_17 W_prog_15_method_11_code_1024 9 rfl rfl rfl
theorem d_15_11_1036 : decode prog_15_method_11_code 1036 = .ok (.iastore, 1) := D_79 W_prog_15_method_11_code_1024 12 rfl rfl
theorem d_15_11_1037 : decode prog_15_method_11_code 1037 = .ok (.dup, 1) := D_89 W_prog_15_method_11_code_1024 13 rfl rfl
theorem d_15_11_1038 : decode prog_15_method_11_code 1038 = .ok (.bipush 46, 2) := D_16 W_prog_15_method_11_code_1024 14 rfl rfl rfl
theorem d_15_11_1040 : decode prog_15_method_11_code 1040 = .ok (.sipush 598, 3) := D_17 W_prog_15_method_11_code_1024 16 rfl rfl rfl
theorem d_15_11_1043 : decode prog_15_method_11_code 1043 = .ok (.iastore, 1) := D_79 W_prog_15_method_11_code_1024 19 rfl rfl
theorem d_15_11_1044 : decode prog_15_method_11_code 1044 = .ok (.dup, 1) := D_89 W_prog_15_method_11_code_1024 20 rfl rfl
theorem d_15_11_1045 : decode prog_15_method_11_code 1045 = .ok (.bipush 47, 2) := D_16 W_prog_15_method_11_code_1024 21 rfl rfl rfl
theorem d_15_11_1047 : decode prog_15_method_11_code 1047 = .ok (.sipush 658, 3) := D_17 W_prog_15_method_11_code_1024 23 rfl rfl rfl
theorem d_15_11_1050 : decode prog_15_method_11_code 1050 = .ok (.iastore, 1) := D_79 W_prog_15_method_11_code_1024 26 rfl rfl
theorem d_15_11_1051 : decode prog_15_method_11_code 1051 = .ok (.dup, 1) := D_89 W_prog_15_method_11_code_1024 27 rfl rfl
theorem d_15_11_1052 : decode prog_15_method_11_code 1052 = .ok (.bipush 48, 2) := D_16 W_prog_15_method_11_code_1024 28 rfl rfl rfl
theorem d_15_11_1054 : decode prog_15_method_11_code 1054 = .ok (.sipush 724, 3) := D_17 W_prog_15_method_11_code_1024 30 rfl rfl rfl
theorem W_prog_15_method_11_code_1056 : chW prog_15_method_11_code 1056 [212, 79, 89, 16, 49, 17, 3, 28, 79, 89, 16, 50, 17, 3, 108, 79, 89, 16, 51, 17, 3, 195, 79, 89, 16, 52, 17, 4, 36, 79, 89, 16, 53, 17, 4, 142] := chW_of (by decide +kernel)
theorem d_15_11_1057 : decode prog_15_method_11_code 1057 = .ok (.iastore, 1) := D_79 W_prog_15_method_11_code_1056 1 rfl rfl
theorem d_15_11_1058 : decode prog_15_method_11_code 1058 = .ok (.dup, 1) := D_89 W_prog_15_method_11_code_1056 2 rfl rfl
theorem d_15_11_1059 : decode prog_15_method_11_code 1059 = .ok (.bipush 49, 2) := D_16 W_prog_15_method_11_code_1056 3 rfl rfl rfl
theorem d_15_11_1061 : decode prog_15_method_11_code 1061 = .ok (.sipush 796, 3) := D_17 W_prog_15_method_11_code_1056 5 rfl rfl rfl
theorem d_15_11_1064 : decode prog_15_method_11_code 1064 = .ok (.iastore, 1) := D_79 W_prog_15_method_11_code_1056 8 rfl rfl
theorem d_15_11_1065 : decode prog_15_method_11_code 1065 = .ok (.dup, 1) := D_89 W_prog_15_method_11_code_1056 9 rfl rfl
theorem d_15_11_1066 : decode prog_15_method_11_code 1066 = .ok (.bipush 50, 2) := D_16 W_prog_15_method_11_code_1056 10 rfl rfl rfl
theorem d_15_11_1068 : decode prog_15_method_11_code 1068 = .ok (.sipush 876, 3) := D_17 W_prog_15_method_11_code_1056 12 rfl rfl rfl
theorem d_15_11_1071 : decode prog_15_method_11_code 1071 = .ok (.iastore, 1) := D_79 W_prog_15_method_11_code_1056 15 rfl rfl
theorem d_15_11_1072 : decode prog_15_method_11_code 1072 = .ok (.dup, 1) := D_89 W_prog_15_method_11_code_1056 16 rfl rfl
theorem d_15_11_1073 : decode prog_15_method_11_code 1073 = .ok (.bipush 51, 2) := D_16 W_prog_15_method_11_code_1056 17 rfl rfl rfl
theorem d_15_11_1075 : decode prog_15_method_11_code 1075 = .ok (.sipush 963, 3) := D_17 W_prog_15_method_11_code_1056 19 rfl rfl rfl
theorem d_15_11_1078 : decode prog_15_method_11_code 1078 = .ok (.iastore, 1) := D_79 W_prog_15_method_11_code_1056 22 rfl rfl
theorem d_15_11_1079 : decode prog_15_method_11_code 1079 = .ok (.dup, 1) := D_89 W_prog_15_method_11_code_1056 23 rfl rfl
theorem d_15_11_1080 : decode prog_15_method_11_code 1080 = .ok (.bipush 52, 2) := D_16 W_prog_15_method_11_code_1056 24 rfl rfl rfl
theorem d_15_11_1082 : decode prog_15_method_11_code 1082 = .ok (.sipush 1060, 3) := D_17 W_prog_15_method_11_code_1056 26 rfl rfl rfl
theorem d_15_11_1085 : decode prog_15_method_11_code 1085 = .ok (.iastore, 1) := D_79 W_prog_15_method_11_code_1056 29 rfl rfl
theorem d_15_11_1086 : decode prog_15_method_11_code 1086 = .ok (.dup, 1) := D_89 W_prog_15_method_11_code_1056 30 rfl rfl
theorem d_15_11_1087 : decode prog_15_method_11_code 1087 = .ok (.bipush 53, 2) := D_16 W_prog_15_method_11_code_1056 31 rfl rfl rfl
theorem W_prog_15_method_11_code_1088 : chW prog_15_method_11_code 1088 [53, 17, 4, 142, 79, 89, 16, 54, 17, 5, 2, 79, 89, 16, 55, 17, 5, 131, 79, 89, 16, 56, 17, 6, 16, 79, 89, 16, 57, 17, 6, 171, 79, 89, 16, 58] := chW_of (by decide +kernel)
theorem d_15_11_1089 : decode prog_15_method_11_code 1089 = .ok (.sipush 1166, 3) := D_17 W_prog_15_method_11_code_1088 1 rfl rfl rfl
theorem d_15_11_1092 : decode prog_15_method_11_code 1092 = .ok (.iastore, 1) := D_79 W_prog_15_method_11_code_1088 4 rfl rfl
theorem d_15_11_1093 : decode prog_15_method_11_code 1093 = .ok (.dup, 1) := D_89 W_prog_15_method_11_code_1088 5 rfl rfl
theorem d_15_11_1094 : decode prog_15_method_11_code 1094 = .ok (.bipush 54, 2) := D_16 W_prog_15_method_11_code_1088 6 rfl rfl rfl
theorem d_15_11_1096 : decode prog_15_method_11_code 1096 = .ok (.sipush 1282, 3) := D_17 W_prog_15_method_11_code_1088 8 rfl rfl rfl
theorem d_15_11_1099 : decode prog_15_method_11_code 1099 = .ok (.iastore, 1) := D_79 W_prog_15_method_11_code_1088 11 rfl rfl
theorem d_15_11_1100 : decode prog_15_method_11_code 1100 = .ok (.dup, 1) := D_89 W_prog_15_method_11_code_1088 12 rfl rfl
theorem d_15_11_1101 : decode prog_15_method_11_code 1101 = .ok (.bipush 55, 2) := D_16 W_prog_15_method_11_code_1088 13 rfl rfl rfl
theorem d_15_11_1103 : decode prog_15_method_11_code 1103 = .ok (.sipush 1411, 3) := D_17 W_prog_15_method_11_code_1088 15 rfl rfl rfl
theorem d_15_11_1106 : decode prog_15_method_11_code 1106 = .ok (.iastore, 1) := D_79 W_prog_15_method_11_code_1088 18 rfl rfl
theorem d_15_11_1107 : decode prog_15_method_11_code 1107 = .ok (.dup, 1) := D_89 W_prog_15_method_11_code_1088 19 rfl rfl
theorem d_15_11_1108 : decode prog_15_method_11_code 1108 = .ok (.bipush 56, 2) := D_16 W_prog_15_method_11_code_1088 20 rfl rfl rfl
theorem d_15_11_1110 : decode prog_15_method_11_code 1110 = .ok (.sipush 1552, 3) := D_17 W_prog_15_method_11_code_1088 22 rfl rfl rfl
theorem d_15_11_1113 : decode prog_15_method_11_code 1113 = .ok (.iastore, 1) := D_79 W_prog_15_method_11_code_1088 25 rfl rfl
theorem d_15_11_1114 : decode prog_15_method_11_code 1114 = .ok (.dup, 1) := D_89 W_prog_15_method_11_code_1088 26 rfl rfl
theorem d_15_11_1115 : decode prog_15_method_11_code 1115 = .ok (.bipush 57, 2) := D_16 W_prog_15_method_11_code_1088 27 rfl rfl rfl
theorem d_15_11_1117 : decode prog_15_method_11_code 1117 = .ok (.sipush 1707, 3) := D_17 W_prog_15_method_11_code_1088 29 rfl rfl rfl
theorem W_prog_15_method_11_code_1120 : chW prog_15_method_11_code 1120 [79, 89, 16, 58, 17, 7, 86, 79, 89, 16, 59, 17, 8, 18, 79, 89, 16, 60, 17, 8, 224, 79, 89, 16, 61, 17, 9, 195, 79, 89, 16, 62, 17, 10, 189, 79] := chW_of (by decide +kernel)
theorem d_15_11_1120 : decode prog_15_method_11_code 1120 = .ok (.iastore, 1) := D_79 W_prog_15_method_11_code_1120 0 rfl rfl
theorem d_15_11_1121 : decode prog_15_method_11_code 1121 = .ok (.dup, 1) := D_89 W_prog_15_method_11_code_1120 1 rfl rfl
theorem d_15_11_1122 : decode prog_15_method_11_code 1122 = .ok (.bipush 58, 2) := D_16 W_prog_15_method_11_code_1120 2 rfl rfl rfl
theorem d_15_11_1124 : decode prog_15_method_11_code 1124 = .ok (.sipush 1878, 3) := D_17 W_prog_15_method_11_code_1120 4 rfl rfl rfl
theorem d_15_11_1127 : decode prog_15_method_11_code 1127 = .ok (.iastore, 1) := D_79 W_prog_15_method_11_code_1120 7 rfl rfl
theorem d_15_11_1128 : decode prog_15_method_11_code 1128 = .ok (.dup, 1) := D_89 W_prog_15_method_11_code_1120 8 rfl rfl
theorem d_15_11_1129 : decode prog_15_method_11_code 1129 = .ok (.bipush 59, 2) := D_16 W_prog_15_method_11_code_1120 9 rfl rfl rfl
theorem d_15_11_1131 : decode prog_15_method_11_code 1131 = .ok (.sipush 2066, 3) := D_17 W_prog_15_method_11_code_1120 11 rfl rfl rfl
theorem d_15_11_1134 : decode prog_15_method_11_code 1134 = .ok (.iastore, 1) := D_79 W_prog_15_method_11_code_1120 14 rfl rfl
theorem d_15_11_1135 : decode prog_15_method_11_code 1135 = .ok (.dup, 1) := D_89 W_prog_15_method_11_code_1120 15 rfl rfl
theorem d_15_11_1136 : decode prog_15_method_11_code 1136 = .ok (.bipush 60, 2) := D_16 W_prog_15_method_11_code_1120 16 rfl rfl rfl
theorem d_15_11_1138 : decode prog_15_method_11_code 1138 = .ok (.sipush 2272, 3) := D_17 W_prog_15_method_11_code_1120 18 rfl rfl rfl
theorem d_15_11_1141 : decode prog_15_method_11_code 1141 = .ok (.iastore, 1) := D_79 W_prog_15_method_11_code_1120 21 rfl rfl
theorem d_15_11_1142 : decode prog_15_method_11_code 1142 = .ok (.dup, 1) := D_89 W_prog_15_method_11_code_1120 22 rfl rfl
theorem d_15_11_1143 : decode prog_15_method_11_code 1143 = .ok (.bipush 61, 2) := D_16 W_prog_15_method_11_code_1120 23 rfl rfl rfl
theorem d_15_11_1145 : decode prog_15_method_11_code 1145 = .ok (.sipush 2499, 3) := D_17 W_prog_15_method_11_code_1120 25 rfl rfl rfl
theorem d_15_11_1148 : decode prog_15_method_11_code 1148 = .ok (.iastore, 1) := D_79 W_prog_15_method_11_code_1120 28 rfl rfl
theorem d_15_11_1149 : decode prog_15_method_11_code 1149 = .ok (.dup, 1) := D_89 W_prog_15_method_11_code_1120 29 rfl rfl
theorem d_15_11_1150 : decode prog_15_method_11_code 1150 = .ok (.bipush 62, 2) := D_16 W_prog_15_method_11_code_1120 30 rfl rfl rfl
theorem W_prog_15_method_11_code_1152 : chW prog_15_method_11_code 1152 [17, 10, 189, 79, 89, 16, 63, 17, 11, 208, 79, 89, 16, 64, 17, 12, 255, 79, 89, 16, 65, 17, 14, 76, 79, 89, 16, 66, 17, 15, 186, 79, 89, 16, 67, 17] := chW_of (by decide +kernel)
theorem d_15_11_1152 : decode prog_15_method_11_code 1152 = .ok (.sipush 2749, 3) := D_17 W_prog_15_method_11_code_1152 0 rfl rfl rfl
theorem d_15_11_1155 : decode prog_15_method_11_code 1155 = .ok (.iastore, 1) := D_79 W_prog_15_method_11_code_1152 3 rfl rfl
theorem d_15_11_1156 : decode prog_15_method_11_code 1156 = .ok (.dup, 1) := D_89 W_prog_15_method_11_code_1152 4 rfl rfl
theorem d_15_11_1157 : decode prog_15_method_11_code 1157 = .ok (.bipush 63, 2) := D_16 W_prog_15_method_11_code_1152 5 rfl rfl rfl
theorem d_15_11_1159 : decode prog_15_method_11_code 1159 = .ok (.sipush 3024, 3) := D_17 W_prog_15_method_11_code_1152 7 rfl rfl rfl
theorem d_15_11_1162 : decode prog_15_method_11_code 1162 = .ok (.iastore, 1) := D_79 W_prog_15_method_11_code_1152 10 rfl rfl
theorem d_15_11_1163 : decode prog_15_method_11_code 1163 = .ok (.dup, 1) := D_89 W_prog_15_method_11_code_1152 11 rfl rfl
theorem d_15_11_1164 : decode prog_15_method_11_code 1164 = .ok (.bipush 64, 2) := D_16 W_prog_15_method_11_code_1152 12 rfl rfl rfl
theorem d_15_11_1166 : decode prog_15_method_11_code 1166 = .ok (.sipush 3327, 3) := D_17 W_prog_15_method_11_code_1152 14 rfl rfl rfl
theorem d_15_11_1169 : decode prog_15_method_11_code 1169 = .ok (.iastore, 1) := D_79 W_prog_15_method_11_code_1152 17 rfl rfl
theorem d_15_11_1170 : decode prog_15_method_11_code 1170 = .ok (.dup, 1) := D_89 W_prog_15_method_11_code_1152 18 rfl rfl
theorem d_15_11_1171 : decode prog_15_method_11_code 1171 = .ok (.bipush 65, 2) := D_16 W_prog_15_method_11_code_1152 19 rfl rfl rfl
theorem d_15_11_1173 : decode prog_15_method_11_code 1173 = .ok (.sipush 3660, 3) := D_17 W_prog_15_method_11_code_1152 21 rfl rfl rfl
theorem d_15_11_1176 : decode prog_15_method_11_code 1176 = .ok (.iastore, 1) := D_79 W_prog_15_method_11_code_1152 24 rfl rfl
theorem d_15_11_1177 : decode prog_15_method_11_code 1177 = .ok (.dup, 1) := D_89 W_prog_15_method_11_code_1152 25 rfl rfl
theorem d_15_11_1178 : decode prog_15_method_11_code 1178 = .ok (.bipush 66, 2) := D_16 W_prog_15_method_11_code_1152 26 rfl rfl rfl
theorem d_15_11_1180 : decode prog_15_method_11_code 1180 = .ok (.sipush 4026, 3) := D_17 W_prog_15_method_11_code_1152 28 rfl rfl rfl
theorem d_15_11_1183 : decode prog_15_method_11_code 1183 = .ok (.iastore, 1) := D_79 W_prog_15_method_11_code_1152 31 rfl rfl
theorem W_prog_15_method_11_code_1184 : chW prog_15_method_11_code 1184 [89, 16, 67, 17, 17, 76, 79, 89, 16, 68, 17, 19, 7, 79, 89, 16, 69, 17, 20, 238, 79, 89, 16, 70, 17, 23, 6, 79, 89, 16, 71, 17, 25, 84, 79, 89] := chW_of (by decide +kernel)
theorem d_15_11_1184 : decode prog_15_method_11_code 1184 = .ok (.dup, 1) := D_89 W_prog_15_method_11_code_1184 0 rfl rfl
theorem d_15_11_1185 : decode prog_15_method_11_code 1185 = .ok (.bipush 67, 2) := D_16 W_prog_15_method_11_code_1184 1 rfl rfl rfl
theorem d_15_11_1187 : decode prog_15_method_11_code 1187 = .ok (.sipush 4428, 3) := D_17 W_prog_15_method_11_code_1184 3 rfl rfl rfl
theorem d_15_11_1190 : decode prog_15_method_11_code 1190 = .ok (.iastore, 1) := D_79 W_prog_15_method_11_code_1184 6 rfl rfl
theorem d_15_11_1191 : decode prog_15_method_11_code 1191 = .ok (.dup, 1) := D_89 W_prog_15_method_11_code_1184 7 rfl rfl
theorem d_15_11_1192 : decode prog_15_method_11_code 1192 = .ok (.bipush 68, 2) := D_16 W_prog_15_method_11_code_1184 8 rfl rfl rfl
theorem d_15_11_1194 : decode prog_15_method_11_code 1194 = .ok (.sipush 4871, 3) := D_17 W_prog_15_method_11_code_1184 10 rfl rfl rfl
theorem d_15_11_1197 : decode prog_15_method_11_code 1197 = .ok (.iastore, 1) := D_79 W_prog_15_method_11_code_1184 13 rfl rfl
theorem d_15_11_1198 : decode prog_15_method_11_code 1198 = .ok (.dup, 1) := D_89 W_prog_15_method_11_code_1184 14 rfl rfl
theorem d_15_11_1199 : decode prog_15_method_11_code 1199 = .ok (.bipush 69, 2) := D_16 W_prog_15_method_11_code_1184 15 rfl rfl rfl
theorem d_15_11_1201 : decode prog_15_method_11_code 1201 = .ok (.sipush 5358, 3) := D_17 W_prog_15_method_11_code_1184 17 rfl rfl rfl
theorem d_15_11_1204 : decode prog_15_method_11_code 1204 = .ok (.iastore, 1) := D_79 W_prog_15_method_11_code_1184 20 rfl rfl
theorem d_15_11_1205 : decode prog_15_method_11_code 1205 = .ok (.dup, 1) := D_89 W_prog_15_method_11_code_1184 21 rfl rfl
theorem d_15_11_1206 : decode prog_15_method_11_code 1206 = .ok (.bipush 70, 2) := D_16 W_prog_15_method_11_code_1184 22 rfl rfl rfl
theorem d_15_11_1208 : decode prog_15_method_11_code 1208 = .ok (.sipush 5894, 3) := D_17 W_prog_15_method_11_code_1184 24 rfl rfl rfl
theorem d_15_11_1211 : decode prog_15_method_11_code 1211 = .ok (.iastore, 1) := D_79 W_prog_15_method_11_code_1184 27 rfl rfl
theorem d_15_11_1212 : decode prog_15_method_11_code 1212 = .ok (.dup, 1) := D_89 W_prog_15_method_11_code_1184 28 rfl rfl
theorem d_15_11_1213 : decode prog_15_method_11_code 1213 = .ok (.bipush 71, 2) := D_16 W_prog_15_method_11_code_1184 29 rfl rfl rfl
theorem d_15_11_1215 : decode prog_15_method_11_code 1215 = .ok (.sipush 6484, 3) := D_17 W_prog_15_method_11_code_1184 31 rfl rfl rfl
theorem W_prog_15_method_11_code_1216 : chW prog_15_method_11_code 1216 [25, 84, 79, 89, 16, 72, 17, 27, 220, 79, 89, 16, 73, 17, 30, 165, 79, 89, 16, 74, 17, 33, 182, 79, 89, 16, 75, 17, 37, 21, 79, 89, 16, 76, 17, 40] := chW_of (by decide +kernel)
theorem d_15_11_1218 : decode prog_15_method_11_code 1218 = .ok (.iastore, 1) := D_79 W_prog_15_method_11_code_1216 2 rfl rfl
theorem d_15_11_1219 : decode prog_15_method_11_code 1219 = .ok (.dup, 1) := D_89 W_prog_15_method_11_code_1216 3 rfl rfl
theorem d_15_11_1220 : decode prog_15_method_11_code 1220 = .ok (.bipush 72, 2) := D_16 W_prog_15_method_11_code_1216 4 rfl rfl rfl
theorem d_15_11_1222 : decode prog_15_method_11_code 1222 = .ok (.sipush 7132, 3) := D_17 W_prog_15_method_11_code_1216 6 rfl rfl rfl
theorem d_15_11_1225 : decode prog_15_method_11_code 1225 = .ok (.iastore, 1) := D_79 W_prog_15_method_11_code_1216 9 rfl rfl
theorem d_15_11_1226 : decode prog_15_method_11_code 1226 = .ok (.dup, 1) := D_89 W_prog_15_method_11_code_1216 10 rfl rfl
theorem d_15_11_1227 : decode prog_15_method_11_code 1227 = .ok (.bipush 73, 2) := D_16 W_prog_15_method_11_code_1216 11 rfl rfl rfl
theorem d_15_11_1229 : decode prog_15_method_11_code 1229 = .ok (.sipush 7845, 3) := D_17 W_prog_15_method_11_code_1216 13 rfl rfl rfl
theorem d_15_11_1232 : decode prog_15_method_11_code 1232 = .ok (.iastore, 1) := D_79 W_prog_15_method_11_code_1216 16 rfl rfl
theorem d_15_11_1233 : decode prog_15_method_11_code 1233 = .ok (.dup, 1) := D_89 W_prog_15_method_11_code_1216 17 rfl rfl
theorem d_15_11_1234 : decode prog_15_method_11_code 1234 = .ok (.bipush 74, 2) := D_16 W_prog_15_method_11_code_1216 18 rfl rfl rfl
theorem d_15_11_1236 : decode prog_15_method_11_code 1236 = .ok (.sipush 8630, 3) := D_17 W_prog_15_method_11_code_1216 20 rfl rfl rfl
theorem d_15_11_1239 : decode prog_15_method_11_code 1239 = .ok (.iastore, 1) := D_79 W_prog_15_method_11_code_1216 23 rfl rfl
theorem d_15_11_1240 : decode prog_15_method_11_code 1240 = .ok (.dup, 1) := D_89 W_prog_15_method_11_code_1216 24 rfl rfl
theorem d_15_11_1241 : decode prog_15_method_11_code 1241 = .ok (.bipush 75, 2) := D_16 W_prog_15_method_11_code_1216 25 rfl rfl rfl
theorem d_15_11_1243 : decode prog_15_method_11_code 1243 = .ok (.sipush 9493, 3) := D_17 W_prog_15_method_11_code_1216 27 rfl rfl rfl
theorem d_15_11_1246 : decode prog_15_method_11_code 1246 = .ok (.iastore, 1) := D_79 W_prog_15_method_11_code_1216 30 rfl rfl
theorem d_15_11_1247 : decode prog_15_method_11_code 1247 = .ok (.dup, 1) := D_89 W_prog_15_method_11_code_1216 31 rfl rfl
theorem W_prog_15_method_11_code_1248 : chW prog_15_method_11_code 1248 [16, 76, 17, 40, 202, 79, 89, 16, 77, 17, 44, 223, 79, 89, 16, 78, 17, 49, 91, 79, 89, 16, 79, 17, 54, 75, 79, 89, 16, 80, 17, 59, 185, 79, 89, 16] := chW_of (by decide +kernel)
theorem d_15_11_1248 : decode prog_15_method_11_code 1248 = .ok (.bipush 76, 2) := D_16 W_prog_15_method_11_code_1248 0 rfl rfl rfl
theorem d_15_11_1250 : decode prog_15_method_11_code 1250 = .ok (.sipush 10442, 3) := D_17 W_prog_15_method_11_code_1248 2 rfl rfl rfl
theorem d_15_11_1253 : decode prog_15_method_11_code 1253 = .ok (.iastore, 1) := D_79 W_prog_15_method_11_code_1248 5 rfl rfl
theorem d_15_11_1254 : decode prog_15_method_11_code 1254 = .ok (.dup, 1) := D_89 W_prog_15_method_11_code_1248 6 rfl rfl
theorem d_15_11_1255 : decode prog_15_method_11_code 1255 = .ok (.bipush 77, 2) := D_16 W_prog_15_method_11_code_1248 7 rfl rfl rfl
theorem d_15_11_1257 : decode prog_15_method_11_code 1257 = .ok (.sipush 11487, 3) := D_17 W_prog_15_method_11_code_1248 9 rfl rfl rfl
theorem d_15_11_1260 : decode prog_15_method_11_code 1260 = .ok (.iastore, 1) := D_79 W_prog_15_method_11_code_1248 12 rfl rfl
theorem d_15_11_1261 : decode prog_15_method_11_code 1261 = .ok (.dup, 1) := D_89 W_prog_15_method_11_code_1248 13 rfl rfl
theorem d_15_11_1262 : decode prog_15_method_11_code 1262 = .ok (.bipush 78, 2) := D_16 W_prog_15_method_11_code_1248 14 rfl rfl rfl
theorem d_15_11_1264 : decode prog_15_method_11_code 1264 = .ok (.sipush 12635, 3) := D_17 W_prog_15_method_11_code_1248 16 rfl rfl rfl
theorem d_15_11_1267 : decode prog_15_method_11_code 1267 = .ok (.iastore, 1) := D_79 W_prog_15_method_11_code_1248 19 rfl rfl
theorem d_15_11_1268 : decode prog_15_method_11_code 1268 = .ok (.dup, 1) := D_89 W_prog_15_method_11_code_1248 20 rfl rfl
theorem d_15_11_1269 : decode prog_15_method_11_code 1269 = .ok (.bipush 79, 2) := D_16 W_prog_15_method_11_code_1248 21 rfl rfl rfl
theorem d_15_11_1271 : decode prog_15_method_11_code 1271 = .ok (.sipush 13899, 3) := D_17 W_prog_15_method_11_code_1248 23 rfl rfl rfl
theorem d_15_11_1274 : decode prog_15_method_11_code 1274 = .ok (.iastore, 1) := D_79 W_prog_15_method_11_code_1248 26 rfl rfl
theorem d_15_11_1275 : decode prog_15_method_11_code 1275 = .ok (.dup, 1) := D_89 W_prog_15_method_11_code_1248 27 rfl rfl
theorem d_15_11_1276 : decode prog_15_method_11_code 1276 = .ok (.bipush 80, 2) := D_16 W_prog_15_method_11_code_1248 28 rfl rfl rfl
theorem d_15_11_1278 : decode prog_15_method_11_code 1278 = .ok (.sipush 15289, 3) := D_17 W_prog_15_method_11_code_1248 30 rfl rfl rfl
theorem W_prog_15_method_11_code_1280 : chW prog_15_method_11_code 1280 [185, 79, 89, 16, 81, 17, 65, 178, 79, 89, 16, 82, 17, 72, 68, 79, 89, 16, 83, 17, 79, 126, 79, 89, 16, 84, 17, 87, 113, 79, 89, 16, 85, 17, 96, 47] := chW_of (by decide +kernel)
theorem d_15_11_1281 : decode prog_15_method_11_code 1281 = .ok (.iastore, 1) := D_79 W_prog_15_method_11_code_1280 1 rfl rfl
theorem d_15_11_1282 : decode prog_15_method_11_code 1282 = .ok (.dup, 1) := D_89 W_prog_15_method_11_code_1280 2 rfl rfl
theorem d_15_11_1283 : decode prog_15_method_11_code 1283 = .ok (.bipush 81, 2) := D_16 W_prog_15_method_11_code_1280 3 rfl rfl rfl
theorem d_15_11_1285 : decode prog_15_method_11_code 1285 = .ok (.sipush 16818, 3) := D_17 W_prog_15_method_11_code_1280 5 rfl rfl rfl
theorem d_15_11_1288 : decode prog_15_method_11_code 1288 = .ok (.iastore, 1) := D_79 W_prog_15_method_11_code_1280 8 rfl rfl
theorem d_15_11_1289 : decode prog_15_method_11_code 1289 = .ok (.dup, 1) := D_89 W_prog_15_method_11_code_1280 9 rfl rfl
theorem d_15_11_1290 : decode prog_15_method_11_code 1290 = .ok (.bipush 82, 2) := D_16 W_prog_15_method_11_code_1280 10 rfl rfl rfl
theorem d_15_11_1292 : decode prog_15_method_11_code 1292 = .ok (.sipush 18500, 3) := D_17 W_prog_15_method_11_code_1280 12 rfl rfl rfl
theorem d_15_11_1295 : decode prog_15_method_11_code 1295 = .ok (.iastore, 1) := D_79 W_prog_15_method_11_code_1280 15 rfl rfl
theorem d_15_11_1296 : decode prog_15_method_11_code 1296 = .ok (.dup, 1) := D_89 W_prog_15_method_11_code_1280 16 rfl rfl
theorem d_15_11_1297 : decode prog_15_method_11_code 1297 = .ok (.bipush 83, 2) := D_16 W_prog_15_method_11_code_1280 17 rfl rfl rfl
theorem d_15_11_1299 : decode prog_15_method_11_code 1299 = .ok (.sipush 20350, 3) := D_17 W_prog_15_method_11_code_1280 19 rfl rfl rfl
theorem d_15_11_1302 : decode prog_15_method_11_code 1302 = .ok (.iastore, 1) := D_79 W_prog_15_method_11_code_1280 22 rfl rfl
theorem d_15_11_1303 : decode prog_15_method_11_code 1303 = .ok (.dup, 1) := D_89 W_prog_15_method_11_code_1280 23 rfl rfl
theorem d_15_11_1304 : decode prog_15_method_11_code 1304 = .ok (.bipush 84, 2) := D_16 W_prog_15_method_11_code_1280 24 rfl rfl rfl
theorem d_15_11_1306 : decode prog_15_method_11_code 1306 = .ok (.sipush 22385, 3) := D_17 W_prog_15_method_11_code_1280 26 rfl rfl rfl
theorem d_15_11_1309 : decode prog_15_method_11_code 1309 = .ok (.iastore, 1) := D_79 W_prog_15_method_11_code_1280 29 rfl rfl
theorem d_15_11_1310 : decode prog_15_method_11_code 1310 = .ok (.dup, 1) := D_89 W_prog_15_method_11_code_1280 30 rfl rfl
theorem d_15_11_1311 : decode prog_15_method_11_code 1311 = .ok (.bipush 85, 2) := D_16 W_prog_15_method_11_code_1280 31 rfl rfl rfl
theorem W_prog_15_method_11_code_1312 : chW prog_15_method_11_code 1312 [85, 17, 96, 47, 79, 89, 16, 86, 17, 105, 206, 79, 89, 16, 87, 17, 116, 98, 79, 89, 16, 88, 17, 127, 255, 79, 181, 1, 25, 42, 16, 8, 188, 10, 89, 3] := chW_of (by decide +kernel)
theorem d_15_11_1313 : decode prog_15_method_11_code 1313 = .ok (.sipush 24623, 3) := D_17 W_prog_15_method_11_code_1312 1 rfl rfl rfl
theorem d_15_11_1316 : decode prog_15_method_11_code 1316 = .ok (.iastore, 1) := D_79 W_prog_15_method_11_code_1312 4 rfl rfl
theorem d_15_11_1317 : decode prog_15_method_11_code 1317 = .ok (.dup, 1) := D_89 W_prog_15_method_11_code_1312 5 rfl rfl
theorem d_15_11_1318 : decode prog_15_method_11_code 1318 = .ok (.bipush 86, 2) := D_16 W_prog_15_method_11_code_1312 6 rfl rfl rfl
theorem d_15_11_1320 : decode prog_15_method_11_code 1320 = .ok (.sipush 27086, 3) := D_17 W_prog_15_method_11_code_1312 8 rfl rfl rfl
theorem d_15_11_1323 : decode prog_15_method_11_code 1323 = .ok (.iastore, 1) := D_79 W_prog_15_method_11_code_1312 11 rfl rfl
theorem d_15_11_1324 : decode prog_15_method_11_code 1324 = .ok (.dup, 1) := D_89 W_prog_15_method_11_code_1312 12 rfl rfl
theorem d_15_11_1325 : decode prog_15_method_11_code 1325 = .ok (.bipush 87, 2) := D_16 W_prog_15_method_11_code_1312 13 rfl rfl rfl
theorem d_15_11_1327 : decode prog_15_method_11_code 1327 = .ok (.sipush 29794, 3) := D_17 W_prog_15_method_11_code_1312 15 rfl rfl rfl
theorem d_15_11_1330 : decode prog_15_method_11_code 1330 = .ok (.iastore, 1) := D_79 W_prog_15_method_11_code_1312 18 rfl rfl
theorem d_15_11_1331 : decode prog_15_method_11_code 1331 = .ok (.dup, 1) := D_89 W_prog_15_method_11_code_1312 19 rfl rfl
theorem d_15_11_1332 : decode prog_15_method_11_code 1332 = .ok (.bipush 88, 2) := D_16 W_prog_15_method_11_code_1312 20 rfl rfl rfl
theorem d_15_11_1334 : decode prog_15_method_11_code 1334 = .ok (.sipush 32767, 3) := D_17 W_prog_15_method_11_code_1312 22 rfl rfl rfl
theorem d_15_11_1337 : decode prog_15_method_11_code 1337 = .ok (.iastore, 1) := D_79 W_prog_15_method_11_code_1312 25 rfl rfl
theorem d_15_11_1338 : decode prog_15_method_11_code 1338 = .ok (.putfield 281, 3) := D_181 W_prog_15_method_11_code_1312 26 rfl rfl rfl
theorem d_15_11_1341 : decode prog_15_method_11_code 1341 = .ok (.aload_n 0, 1) := D_42 W_prog_15_method_11_code_1312 29 rfl rfl
theorem d_15_11_1342 : decode prog_15_method_11_code 1342 = .ok (.bipush 8, 2) := D_16 W_prog_15_method_11_code_1312 30 rfl rfl rfl
theorem W_prog_15_method_11_code_1344 : chW prog_15_method_11_code 1344 [188, 10, 89, 3, 2, 79, 89, 4, 2, 79, 89, 5, 2, 79, 89, 6, 2, 79, 89, 7, 5, 79, 89, 8, 7, 79, 89, 16, 6, 16, 6, 79, 89, 16, 7, 16] := chW_of (by decide +kernel)
theorem d_15_11_1344 : decode prog_15_method_11_code 1344 = .ok (.newarray .int, 2) := D_188_10 W_prog_15_method_11_code_1344 0 rfl rfl
theorem d_15_11_1346 : decode prog_15_method_11_code 1346 = .ok (.dup, 1) := D_89 W_prog_15_method_11_code_1344 2 rfl rfl
theorem d_15_11_1347 : decode prog_15_method_11_code 1347 = .ok (.iconst 0, 1) := D_3 W_prog_15_method_11_code_1344 3 rfl rfl
theorem d_15_11_1348 : decode prog_15_method_11_code 1348 = .ok (.iconst (-1), 1) := D_2 W_prog_15_method_11_code_1344 4 rfl rfl
theorem d_15_11_1349 : decode prog_15_method_11_code 1349 = .ok (.iastore, 1) := D_79 W_prog_15_method_11_code_1344 5 rfl rfl
theorem d_15_11_1350 : decode prog_15_method_11_code 1350 = .ok (.dup, 1) := D_89 W_prog_15_method_11_code_1344 6 rfl rfl
theorem d_15_11_1351 : decode prog_15_method_11_code 1351 = .ok (.iconst 1, 1) := D_4 W_prog_15_method_11_code_1344 7 rfl rfl
theorem d_15_11_1352 : decode prog_15_method_11_code 1352 = .ok (.iconst (-1), 1) := D_2 W_prog_15_method_11_code_1344 8 rfl rfl
theorem d_15_11_1353 : decode prog_15_method_11_code 1353 = .ok (.iastore, 1) := D_79 W_prog_15_method_11_code_1344 9 rfl rfl
theorem d_15_11_1354 : decode prog_15_method_11_code 1354 = .ok (.dup, 1) := D_89 W_prog_15_method_11_code_1344 10 rfl rfl
theorem d_15_11_1355 : decode prog_15_method_11_code 1355 = .ok (.iconst 2, 1) := D_5 W_prog_15_method_11_code_1344 11 rfl rfl
theorem d_15_11_1356 : decode prog_15_method_11_code 1356 = .ok (.iconst (-1), 1) := D_2 W_prog_15_method_11_code_1344 12 rfl rfl
theorem d_15_11_1357 : decode prog_15_method_11_code 1357 = .ok (.iastore, 1) := D_79 W_prog_15_method_11_code_1344 13 rfl rfl
theorem d_15_11_1358 : decode prog_15_method_11_code 1358 = .ok (.dup, 1) := D_89 W_prog_15_method_11_code_1344 14 rfl rfl
theorem d_15_11_1359 : decode prog_15_method_11_code 1359 = .ok (.iconst 3, 1) := D_6 W_prog_15_method_11_code_1344 15 rfl rfl
theorem d_15_11_1360 : decode prog_15_method_11_code 1360 = .ok (.iconst (-1), 1) := D_2 W_prog_15_method_11_code_1344 16 rfl rfl
theorem d_15_11_1361 : decode prog_15_method_11_code 1361 = .ok (.iastore, 1) := D_79 W_prog_15_method_11_code_1344 17 rfl rfl
theorem d_15_11_1362 : decode prog_15_method_11_code 1362 = .ok (.dup, 1) := D_89 W_prog_15_method_11_code_1344 18 rfl rfl
theorem d_15_11_1363 : decode prog_15_method_11_code 1363 = .ok (.iconst 4, 1) := D_7 W_prog_15_method_11_code_1344 19 rfl rfl
theorem d_15_11_1364 : decode prog_15_method_11_code 1364 = .ok (.iconst 2, 1) := D_5 W_prog_15_method_11_code_1344 20 rfl rfl
theorem d_15_11_1365 : decode prog_15_method_11_code 1365 = .ok (.iastore, 1) := D_79 W_prog_15_method_11_code_1344 21 rfl rfl
theorem d_15_11_1366 : decode prog_15_method_11_code 1366 = .ok (.dup, 1) := D_89 W_prog_15_method_11_code_1344 22 rfl rfl
theorem d_15_11_1367 : decode prog_15_method_11_code 1367 = .ok (.iconst 5, 1) := D_8 W_prog_15_method_11_code_1344 23 rfl rfl
theorem d_15_11_1368 : decode prog_15_method_11_code 1368 = .ok (.iconst 4, 1) := D_7 W_prog_15_method_11_code_1344 24 rfl rfl
theorem d_15_11_1369 : decode prog_15_method_11_code 1369 = .ok (.iastore, 1) := D_79 W_prog_15_method_11_code_1344 25 rfl rfl
theorem d_15_11_1370 : decode prog_15_method_11_code 1370 = .ok (.dup, 1) := D_89 W_prog_15_method_11_code_1344 26 rfl rfl
theorem d_15_11_1371 : decode prog_15_method_11_code 1371 = .ok (.bipush 6, 2) := D_16 W_prog_15_method_11_code_1344 27 rfl rfl rfl
theorem d_15_11_1373 : decode prog_15_method_11_code 1373 = .ok (.bipush 6, 2) := D_16 W_prog_15_method_11_code_1344 29 rfl rfl rfl
theorem d_15_11_1375 : decode prog_15_method_11_code 1375 = .ok (.iastore, 1) := D_79 W_prog_15_method_11_code_1344 31 rfl rfl
theorem W_prog_15_method_11_code_1376 : chW prog_15_method_11_code 1376 [89, 16, 7, 16, 8, 79, 181, 1, 28, 42, 16, 24, 188, 10, 181, 1, 31, 42, 16, 24, 188, 10, 181, 1, 34, 42, 16, 24, 188, 10, 89, 3, 17, 2, 123, 79] := chW_of (by decide +kernel)
theorem d_15_11_1376 : decode prog_15_method_11_code 1376 = .ok (.dup, 1) := D_89 W_prog_15_method_11_code_1376 0 rfl rfl
theorem d_15_11_1377 : decode prog_15_method_11_code 1377 = .ok (.bipush 7, 2) := D_16 W_prog_15_method_11_code_1376 1 rfl rfl rfl
theorem d_15_11_1379 : decode prog_15_method_11_code 1379 = .ok (.bipush 8, 2) := D_16 W_prog_15_method_11_code_1376 3 rfl rfl rfl
theorem d_15_11_1381 : decode prog_15_method_11_code 1381 = .ok (.iastore, 1) := D_79 W_prog_15_method_11_code_1376 5 rfl rfl
theorem d_15_11_1382 : decode prog_15_method_11_code 1382 = .ok (.putfield 284, 3) := D_181 W_prog_15_method_11_code_1376 6 rfl rfl rfl
theorem d_15_11_1385 : decode prog_15_method_11_code 1385 = .ok (.aload_n 0, 1) := D_42 W_prog_15_method_11_code_1376 9 rfl rfl
theorem d_15_11_1386 : decode prog_15_method_11_code 1386 = .ok (.bipush 24, 2) := D_16 W_prog_15_method_11_code_1376 10 rfl rfl rfl
theorem d_15_11_1388 : decode prog_15_method_11_code 1388 = .ok (.newarray .int, 2) := D_188_10 W_prog_15_method_11_code_1376 12 rfl rfl
theorem d_15_11_1390 : decode prog_15_method_11_code 1390 = .ok (.putfield 287, 3) := D_181 W_prog_15_method_11_code_1376 14 rfl rfl rfl
theorem d_15_11_1393 : decode prog_15_method_11_code 1393 = .ok (.aload_n 0, 1) := D_42 W_prog_15_method_11_code_1376 17 rfl rfl
theorem d_15_11_1394 : decode prog_15_method_11_code 1394 = .ok (.bipush 24, 2) := D_16 W_prog_15_method_11_code_1376 18 rfl rfl rfl
theorem d_15_11_1396 : decode prog_15_method_11_code 1396 = .ok (.newarray .int, 2) := D_188_10 W_prog_15_method_11_code_1376 20 rfl rfl
theorem d_15_11_1398 : decode prog_15_method_11_code 1398 = .ok (.putfield 290, 3) := D_181 W_prog_15_method_11_code_1376 22 rfl rfl rfl
theorem d_15_11_1401 : decode prog_15_method_11_code 1401 = .ok (.aload_n 0, 1) := D_42 W_prog_15_method_11_code_1376 25 rfl rfl
theorem d_15_11_1402 : decode prog_15_method_11_code 1402 = .ok (.bipush 24, 2) := D_16 W_prog_15_method_11_code_1376 26 rfl rfl rfl
theorem d_15_11_1404 : decode prog_15_method_11_code 1404 = .ok (.newarray .int, 2) := D_188_10 W_prog_15_method_11_code_1376 28 rfl rfl
theorem d_15_11_1406 : decode prog_15_method_11_code 1406 = .ok (.dup, 1) := D_89 W_prog_15_method_11_code_1376 30 rfl rfl
theorem d_15_11_1407 : decode prog_15_method_11_code 1407 = .ok (.iconst 0, 1) := D_3 W_prog_15_method_11_code_1376 31 rfl rfl
theorem W_prog_15_method_11_code_1408 : chW prog_15_method_11_code 1408 [17, 2, 123, 79, 89, 4, 17, 0, 223, 79, 89, 5, 17, 1, 92, 79, 89, 6, 17, 0, 233, 79, 89, 7, 17, 1, 182, 79, 89, 8, 17, 1, 153, 79, 89, 16] := chW_of (by decide +kernel)
theorem d_15_11_1408 : decode prog_15_method_11_code 1408 = .ok (.sipush 635, 3) := D_17 W_prog_15_method_11_code_1408 0 rfl rfl rfl
theorem d_15_11_1411 : decode prog_15_method_11_code 1411 = .ok (.iastore, 1) := D_79 W_prog_15_method_11_code_1408 3 rfl rfl
theorem d_15_11_1412 : decode prog_15_method_11_code 1412 = .ok (.dup, 1) := D_89 W_prog_15_method_11_code_1408 4 rfl rfl
theorem d_15_11_1413 : decode prog_15_method_11_code 1413 = .ok (.iconst 1, 1) := D_4 W_prog_15_method_11_code_1408 5 rfl rfl
theorem d_15_11_1414 : decode prog_15_method_11_code 1414 = .ok (.sipush 223, 3) := D_17 W_prog_15_method_11_code_1408 6 rfl rfl rfl
theorem d_15_11_1417 : decode prog_15_method_11_code 1417 = .ok (.iastore, 1) := D_79 W_prog_15_method_11_code_1408 9 rfl rfl
theorem d_15_11_1418 : decode prog_15_method_11_code 1418 = .ok (.dup, 1) := D_89 W_prog_15_method_11_code_1408 10 rfl rfl
theorem d_15_11_1419 : decode prog_15_method_11_code 1419 = .ok (.iconst 2, 1) := D_5 W_prog_15_method_11_code_1408 11 rfl rfl
theorem d_15_11_1420 : decode prog_15_method_11_code 1420 = .ok (.sipush 348, 3) := D_17 W_prog_15_method_11_code_1408 12 rfl rfl rfl
theorem d_15_11_1423 : decode prog_15_method_11_code 1423 = .ok (.iastore, 1) := D_79 W_prog_15_method_11_code_1408 15 rfl rfl
theorem d_15_11_1424 : decode prog_15_method_11_code 1424 = .ok (.dup, 1) := D_89 W_prog_15_method_11_code_1408 16 rfl rfl
theorem d_15_11_1425 : decode prog_15_method_11_code 1425 = .ok (.iconst 3, 1) := D_6 W_prog_15_method_11_code_1408 17 rfl rfl
theorem d_15_11_1426 : decode prog_15_method_11_code 1426 = .ok (.sipush 233, 3) := D_17 W_prog_15_method_11_code_1408 18 rfl rfl rfl
theorem d_15_11_1429 : decode prog_15_method_11_code 1429 = .ok (.iastore, 1) := D_79 W_prog_15_method_11_code_1408 21 rfl rfl
theorem d_15_11_1430 : decode prog_15_method_11_code 1430 = .ok (.dup, 1) := D_89 W_prog_15_method_11_code_1408 22 rfl rfl
theorem d_15_11_1431 : decode prog_15_method_11_code 1431 = .ok (.iconst 4, 1) := D_7 W_prog_15_method_11_code_1408 23 rfl rfl
theorem d_15_11_1432 : decode prog_15_method_11_code 1432 = .ok (.sipush 438, 3) := D_17 W_prog_15_method_11_code_1408 24 rfl rfl rfl
theorem d_15_11_1435 : decode prog_15_method_11_code 1435 = .ok (.iastore, 1) := D_79 W_prog_15_method_11_code_1408 27 rfl rfl
theorem d_15_11_1436 : decode prog_15_method_11_code 1436 = .ok (.dup, 1) := D_89 W_prog_15_method_11_code_1408 28 rfl rfl
theorem d_15_11_1437 : decode prog_15_method_11_code 1437 = .ok (.iconst 5, 1) := D_8 W_prog_15_method_11_code_1408 29 rfl rfl
theorem d_15_11_1438 : decode prog_15_method_11_code 1438 = .ok (.sipush 409, 3) := D_17 W_prog_15_method_11_code_1408 30 rfl rfl rfl
theorem W_prog_15_method_11_code_1440 : chW prog_15_method_11_code 1440 [153, 79, 89, 16, 6, 17, 0, 252, 79, 89, 16, 7, 17, 2, 7, 79, 89, 16, 8, 17, 0, 239, 79, 89, 16, 9, 17, 1, 110, 79, 89, 16, 10, 17, 0, 229] := chW_of (by decide +kernel)
theorem d_15_11_1441 : decode prog_15_method_11_code 1441 = .ok (.iastore, 1) := D_79 W_prog_15_method_11_code_1440 1 rfl rfl
theorem d_15_11_1442 : decode prog_15_method_11_code 1442 = .ok (.dup, 1) := D_89 W_prog_15_method_11_code_1440 2 rfl rfl
theorem d_15_11_1443 : decode prog_15_method_11_code 1443 = .ok (.bipush 6, 2) := D_16 W_prog_15_method_11_code_1440 3 rfl rfl rfl
theorem d_15_11_1445 : decode prog_15_method_11_code 1445 = .ok (.sipush 252, 3) := D_17 W_prog_15_method_11_code_1440 5 rfl rfl rfl
theorem d_15_11_1448 : decode prog_15_method_11_code 1448 = .ok (.iastore, 1) := D_79 W_prog_15_method_11_code_1440 8 rfl rfl
theorem d_15_11_1449 : decode prog_15_method_11_code 1449 = .ok (.dup, 1) := D_89 W_prog_15_method_11_code_1440 9 rfl rfl
theorem d_15_11_1450 : decode prog_15_method_11_code 1450 = .ok (.bipush 7, 2) := D_16 W_prog_15_method_11_code_1440 10 rfl rfl rfl
theorem d_15_11_1452 : decode prog_15_method_11_code 1452 = .ok (.sipush 519, 3) := D_17 W_prog_15_method_11_code_1440 12 rfl rfl rfl
theorem d_15_11_1455 : decode prog_15_method_11_code 1455 = .ok (.iastore, 1) := D_79 W_prog_15_method_11_code_1440 15 rfl rfl
theorem d_15_11_1456 : decode prog_15_method_11_code 1456 = .ok (.dup, 1) := D_89 W_prog_15_method_11_code_1440 16 rfl rfl
theorem d_15_11_1457 : decode prog_15_method_11_code 1457 = .ok (.bipush 8, 2) := D_16 W_prog_15_method_11_code_1440 17 rfl rfl rfl
theorem d_15_11_1459 : decode prog_15_method_11_code 1459 = .ok (.sipush 239, 3) := D_17 W_prog_15_method_11_code_1440 19 rfl rfl rfl
theorem d_15_11_1462 : decode prog_15_method_11_code 1462 = .ok (.iastore, 1) := D_79 W_prog_15_method_11_code_1440 22 rfl rfl
theorem d_15_11_1463 : decode prog_15_method_11_code 1463 = .ok (.dup, 1) := D_89 W_prog_15_method_11_code_1440 23 rfl rfl
theorem d_15_11_1464 : decode prog_15_method_11_code 1464 = .ok (.bipush 9, 2) := D_16 W_prog_15_method_11_code_1440 24 rfl rfl rfl
theorem d_15_11_1466 : decode prog_15_method_11_code 1466 = .ok (.sipush 366, 3) := D_17 W_prog_15_method_11_code_1440 26 rfl rfl rfl
theorem d_15_11_1469 : decode prog_15_method_11_code 1469 = .ok (.iastore, 1) := D_79 W_prog_15_method_11_code_1440 29 rfl rfl
theorem d_15_11_1470 : decode prog_15_method_11_code 1470 = .ok (.dup, 1) := D_89 W_prog_15_method_11_code_1440 30 rfl rfl
theorem d_15_11_1471 : decode prog_15_method_11_code 1471 = .ok (.bipush 10, 2) := D_16 W_prog_15_method_11_code_1440 31 rfl rfl rfl
theorem W_prog_15_method_11_code_1472 : chW prog_15_method_11_code 1472 [10, 17, 0, 229, 79, 89, 16, 11, 17, 1, 32, 79, 89, 16, 12, 17, 2, 121, 79, 89, 16, 13, 17, 1, 12, 79, 89, 16, 14, 17, 1, 96, 79, 89, 16, 15] := chW_of (by decide +kernel)
theorem d_15_11_1473 : decode prog_15_method_11_code 1473 = .ok (.sipush 229, 3) := D_17 W_prog_15_method_11_code_1472 1 rfl rfl rfl
theorem d_15_11_1476 : decode prog_15_method_11_code 1476 = .ok (.iastore, 1) := D_79 W_prog_15_method_11_code_1472 4 rfl rfl
theorem d_15_11_1477 : decode prog_15_method_11_code 1477 = .ok (.dup, 1) := D_89 W_prog_15_method_11_code_1472 5 rfl rfl
theorem d_15_11_1478 : decode prog_15_method_11_code 1478 = .ok (.bipush 11, 2) := D_16 W_prog_15_method_11_code_1472 6 rfl rfl rfl
theorem d_15_11_1480 : decode prog_15_method_11_code 1480 = .ok (.sipush 288, 3) := D_17 W_prog_15_method_11_code_1472 8 rfl rfl rfl
theorem d_15_11_1483 : decode prog_15_method_11_code 1483 = .ok (.iastore, 1) := D_79 W_prog_15_method_11_code_1472 11 rfl rfl
theorem d_15_11_1484 : decode prog_15_method_11_code 1484 = .ok (.dup, 1) := D_89 W_prog_15_method_11_code_1472 12 rfl rfl
theorem d_15_11_1485 : decode prog_15_method_11_code 1485 = .ok (.bipush 12, 2) := D_16 W_prog_15_method_11_code_1472 13 rfl rfl rfl
theorem d_15_11_1487 : decode prog_15_method_11_code 1487 = .ok (.sipush 633, 3) := D_17 W_prog_15_method_11_code_1472 15 rfl rfl rfl
theorem d_15_11_1490 : decode prog_15_method_11_code 1490 = .ok (.iastore, 1) := D_79 W_prog_15_method_11_code_1472 18 rfl rfl
theorem d_15_11_1491 : decode prog_15_method_11_code 1491 = .ok (.dup, 1) := D_89 W_prog_15_method_11_code_1472 19 rfl rfl
theorem d_15_11_1492 : decode prog_15_method_11_code 1492 = .ok (.bipush 13, 2) := D_16 W_prog_15_method_11_code_1472 20 rfl rfl rfl
theorem d_15_11_1494 : decode prog_15_method_11_code 1494 = .ok (.sipush 268, 3) := D_17 W_prog_15_method_11_code_1472 22 rfl rfl rfl
theorem d_15_11_1497 : decode prog_15_method_11_code 1497 = .ok (.iastore, 1) := D_79 W_prog_15_method_11_code_1472 25 rfl rfl
theorem d_15_11_1498 : decode prog_15_method_11_code 1498 = .ok (.dup, 1) := D_89 W_prog_15_method_11_code_1472 26 rfl rfl
theorem d_15_11_1499 : decode prog_15_method_11_code 1499 = .ok (.bipush 14, 2) := D_16 W_prog_15_method_11_code_1472 27 rfl rfl rfl
theorem d_15_11_1501 : decode prog_15_method_11_code 1501 = .ok (.sipush 352, 3) := D_17 W_prog_15_method_11_code_1472 29 rfl rfl rfl
theorem W_prog_15_method_11_code_1504 : chW prog_15_method_11_code 1504 [79, 89, 16, 15, 17, 2, 26, 79, 89, 16, 16, 17, 1, 4, 79, 89, 16, 17, 17, 1, 97, 79, 89, 16, 18, 17, 0, 254, 79, 89, 16, 19, 17, 1, 219, 79] := chW_of (by decide +kernel)
theorem d_15_11_1504 : decode prog_15_method_11_code 1504 = .ok (.iastore, 1) := D_79 W_prog_15_method_11_code_1504 0 rfl rfl
theorem d_15_11_1505 : decode prog_15_method_11_code 1505 = .ok (.dup, 1) := D_89 W_prog_15_method_11_code_1504 1 rfl rfl
theorem d_15_11_1506 : decode prog_15_method_11_code 1506 = .ok (.bipush 15, 2) := D_16 W_prog_15_method_11_code_1504 2 rfl rfl rfl
theorem d_15_11_1508 : decode prog_15_method_11_code 1508 = .ok (.sipush 538, 3) := D_17 W_prog_15_method_11_code_1504 4 rfl rfl rfl
theorem d_15_11_1511 : decode prog_15_method_11_code 1511 = .ok (.iastore, 1) := D_79 W_prog_15_method_11_code_1504 7 rfl rfl
theorem d_15_11_1512 : decode prog_15_method_11_code 1512 = .ok (.dup, 1) := D_89 W_prog_15_method_11_code_1504 8 rfl rfl
theorem d_15_11_1513 : decode prog_15_method_11_code 1513 = .ok (.bipush 16, 2) := D_16 W_prog_15_method_11_code_1504 9 rfl rfl rfl
theorem d_15_11_1515 : decode prog_15_method_11_code 1515 = .ok (.sipush 260, 3) := D_17 W_prog_15_method_11_code_1504 11 rfl rfl rfl
theorem d_15_11_1518 : decode prog_15_method_11_code 1518 = .ok (.iastore, 1) := D_79 W_prog_15_method_11_code_1504 14 rfl rfl
theorem d_15_11_1519 : decode prog_15_method_11_code 1519 = .ok (.dup, 1) := D_89 W_prog_15_method_11_code_1504 15 rfl rfl
theorem d_15_11_1520 : decode prog_15_method_11_code 1520 = .ok (.bipush 17, 2) := D_16 W_prog_15_method_11_code_1504 16 rfl rfl rfl
theorem d_15_11_1522 : decode prog_15_method_11_code 1522 = .ok (.sipush 353, 3) := D_17 W_prog_15_method_11_code_1504 18 rfl rfl rfl
theorem d_15_11_1525 : decode prog_15_method_11_code 1525 = .ok (.iastore, 1) := D_79 W_prog_15_method_11_code_1504 21 rfl rfl
theorem d_15_11_1526 : decode prog_15_method_11_code 1526 = .ok (.dup, 1) := D_89 W_prog_15_method_11_code_1504 22 rfl rfl
theorem d_15_11_1527 : decode prog_15_method_11_code 1527 = .ok (.bipush 18, 2) := D_16 W_prog_15_method_11_code_1504 23 rfl rfl rfl
theorem d_15_11_1529 : decode prog_15_method_11_code 1529 = .ok (.sipush 254, 3) := D_17 W_prog_15_method_11_code_1504 25 rfl rfl rfl
theorem d_15_11_1532 : decode prog_15_method_11_code 1532 = .ok (.iastore, 1) := D_79 W_prog_15_method_11_code_1504 28 rfl rfl
theorem d_15_11_1533 : decode prog_15_method_11_code 1533 = .ok (.dup, 1) := D_89 W_prog_15_method_11_code_1504 29 rfl rfl
theorem d_15_11_1534 : decode prog_15_method_11_code 1534 = .ok (.bipush 19, 2) := D_16 W_prog_15_method_11_code_1504 30 rfl rfl rfl
theorem W_prog_15_method_11_code_1536 : chW prog_15_method_11_code 1536 [17, 1, 219, 79, 89, 16, 20, 17, 1, 142, 79, 89, 16, 21, 17, 1, 13, 79, 89, 16, 22, 17, 1, 78, 79, 89, 16, 23, 17, 1, 61, 79, 181, 1, 37, 177] := chW_of (by decide +kernel)
theorem d_15_11_1536 : decode prog_15_method_11_code 1536 = .ok (.sipush 475, 3) := D_17 W_prog_15_method_11_code_1536 0 rfl rfl rfl
theorem d_15_11_1539 : decode prog_15_method_11_code 1539 = .ok (.iastore, 1) := D_79 W_prog_15_method_11_code_1536 3 rfl rfl
theorem d_15_11_1540 : decode prog_15_method_11_code 1540 = .ok (.dup, 1) := D_89 W_prog_15_method_11_code_1536 4 rfl rfl
theorem d_15_11_1541 : decode prog_15_method_11_code 1541 = .ok (.bipush 20, 2) := D_16 W_prog_15_method_11_code_1536 5 rfl rfl rfl
theorem d_15_11_1543 : decode prog_15_method_11_code 1543 = .ok (.sipush 398, 3) := D_17 W_prog_15_method_11_code_1536 7 rfl rfl rfl
theorem d_15_11_1546 : decode prog_15_method_11_code 1546 = .ok (.iastore, 1) := D_79 W_prog_15_method_11_code_1536 10 rfl rfl
theorem d_15_11_1547 : decode prog_15_method_11_code 1547 = .ok (.dup, 1) := D_89 W_prog_15_method_11_code_1536 11 rfl rfl
theorem d_15_11_1548 : decode prog_15_method_11_code 1548 = .ok (.bipush 21, 2) := D_16 W_prog_15_method_11_code_1536 12 rfl rfl rfl
theorem d_15_11_1550 : decode prog_15_method_11_code 1550 = .ok (.sipush 269, 3) := D_17 W_prog_15_method_11_code_1536 14 rfl rfl rfl
theorem d_15_11_1553 : decode prog_15_method_11_code 1553 = .ok (.iastore, 1) := D_79 W_prog_15_method_11_code_1536 17 rfl rfl
theorem d_15_11_1554 : decode prog_15_method_11_code 1554 = .ok (.dup, 1) := D_89 W_prog_15_method_11_code_1536 18 rfl rfl
theorem d_15_11_1555 : decode prog_15_method_11_code 1555 = .ok (.bipush 22, 2) := D_16 W_prog_15_method_11_code_1536 19 rfl rfl rfl
theorem d_15_11_1557 : decode prog_15_method_11_code 1557 = .ok (.sipush 334, 3) := D_17 W_prog_15_method_11_code_1536 21 rfl rfl rfl
theorem d_15_11_1560 : decode prog_15_method_11_code 1560 = .ok (.iastore, 1) := D_79 W_prog_15_method_11_code_1536 24 rfl rfl
theorem d_15_11_1561 : decode prog_15_method_11_code 1561 = .ok (.dup, 1) := D_89 W_prog_15_method_11_code_1536 25 rfl rfl
theorem d_15_11_1562 : decode prog_15_method_11_code 1562 = .ok (.bipush 23, 2) := D_16 W_prog_15_method_11_code_1536 26 rfl rfl rfl
theorem d_15_11_1564 : decode prog_15_method_11_code 1564 = .ok (.sipush 317, 3) := D_17 W_prog_15_method_11_code_1536 28 rfl rfl rfl
theorem d_15_11_1567 : decode prog_15_method_11_code 1567 = .ok (.iastore, 1) := D_79 W_prog_15_method_11_code_1536 31 rfl rfl
theorem W_prog_15_method_11_code_1568 : chW prog_15_method_11_code 1568 [181, 1, 37, 177] := chW_of (by decide +kernel)
theorem d_15_11_1568 : decode prog_15_method_11_code 1568 = .ok (.putfield 293, 3) := D_181 W_prog_15_method_11_code_1568 0 rfl rfl rfl
theorem d_15_11_1571 : decode prog_15_method_11_code 1571 = .ok (.return_, 1) := D_177 W_prog_15_method_11_code_1568 3 rfl rfl
abbrev Q_M_init (K : zK) (D : va_G) (ca : Nat → ClassId) (ad : Nat → Int → Nat → Nat) (a : Nat) (r : Int) (F : zF) (B : zB) (K9 : zK) (A : Nat → Prop) : Array Value → State → Outcome → State → Prop := va_Qv (S := (Nat → Int → Nat → Nat) × List Nat) (fun u => zG ad K.2 u.1 K9.2 ∧ u.1 14 r 0 = a) (fun u => zPo D ca u.1 lnM K9.2 u.2 F B A) A
def f_M_init (Ki : zK) (F : zF) (B : zB) : zOm := zbindM (f_MP_init Ki F B) (fun r7 F7 B7 K7 => if 0 ≤ r7 ∧ r7 < K7.2 13 then zbindM (f_MP_init K7 F7 B7) (fun r10 F10 B10 K10 => if 0 ≤ r10 ∧ r10 < K10.2 13 then if 0 ≤ r7 ∧ r7 < K10.2 13 then zbindM (f_MP_init K10 F10 B10) (fun r15 F15 B15 K15 => if 0 ≤ r7 ∧ r7 < K15.2 13 then if 0 ≤ r10 ∧ r10 < K15.2 13 then if 0 ≤ r15 ∧ r15 < K15.2 13 then zbindN (f_MM_code K15 23 F15 B15) (fun r28 F28 B28 => zbindN (f_MM_code K15 24 F28 B28) (fun r34 F34 B34 => zbindN (f_MM_code K15 25 F34 B34) (fun r36 F36 B36 => zbindN (f_MM_code K15 26 F36 B36) (fun r38 F38 B38 => zbindN (f_MM_code K15 27 F38 B38) (fun r42 F42 B42 => zbindN (f_MM_code K15 28 F42 B42) (fun r44 F44 B44 => zbindN (f_MM_code K15 29 F44 B44) (fun r46 F46 B46 => zbindN (f_MM_code K15 30 F46 B46) (fun r48 F48 B48 => zbindN (f_MM_code K15 31 F48 B48) (fun r50 F50 B50 => zbindN (f_MM_code K15 32 F50 B50) (fun r52 F52 B52 => zbindN (f_MM_code K15 33 F52 B52) (fun r54 F54 B54 => zbindN (f_MM_code K15 34 F54 B54) (fun r56 F56 B56 => if 0 ≤ K15.2 14 then if r15 < K15.2 13 then if (-1 : Int) < K15.2 13 then some (K15.2 14, (zinF F56 14 (K15.2 14) [0, 1, 0, 0, 0, 0, r15, 0, 0, 0, 0, 0, 0, 0, 0, 0, 0, 0, 0, 0, 0, 0, 0, 0, 0, 0, 0, 0, 0, 0, 0, 0, 0, 0, 0, 0, 0, 0, 0, 0, 0, 0, 0, 0, 0, 0, 0, 0, 0, 0, 0, 0, 0, 0, 0, 0, 0, 0, 0, 0, 0, 0, 0, 0, 0, 0, 0, 0, 0, 0, 0, 0, 0, 0, 0, 0, 0, 0, 0, 0, 0, 0, 0, 0, 0, 0, 0, 0, 0, 0, 0, 0, 0, 0, 0, 0, 0, 0, 0, 0, 0, 0, 0, 0, 0, 0, 0]), (zinB B56 14 (K15.2 14) (fun k => if k = 5 then (zup (zup (fun _ => -1) 0 r7) 1 r10) else if k = 13 then (zup (zup (zup (zup (fun _ => 0) 0 r28) 1 r34) 2 r36) 3 r38) else if k = 14 then (zup (zup (zup (zup (zup (zup (zup (zup (fun _ => 0) 0 r42) 1 r44) 2 r46) 3 r48) 4 r50) 5 r52) 6 r54) 7 r56) else if k = 15 then (zup (zup (zup (zup (zup (zup (zup (zup (zup (zup (zup (zup (zup (zup (zup (fun _ => 0) 0 7038329) 1 469785800562) 2 469920280434) 3 1953066341) 4 499917877359) 5 7103860) 6 508675318629) 7 125780002955636) 8 6384756) 9 7697253) 10 1836021349) 11 120299659095922) 12 1650549611) 13 1936486263) 14 114) else if k = 61 then (zup (zup (zup (zup (zup (zup (zup (zup (fun _ => 0) 0 20) 1 33) 2 46) 3 59) 4 72) 5 85) 6 98) 7 111) else if k = 96 then (zup (zup (zup (zup (zup (zup (zup (zup (zup (zup (zup (zup (zup (zup (zup (zup (zup (zup (zup (zup (zup (zup (zup (zup (zup (zup (zup (zup (zup (zup (zup (zup (zup (zup (zup (zup (zup (zup (zup (zup (zup (zup (zup (zup (zup (zup (zup (zup (zup (zup (zup (zup (zup (zup (zup (zup (zup (zup (zup (zup (zup (zup (zup (zup (zup (zup (zup (zup (zup (zup (zup (zup (zup (zup (zup (zup (zup (zup (zup (zup (zup (zup (zup (zup (zup (zup (zup (zup (zup (fun _ => 0) 0 7) 1 8) 2 9) 3 10) 4 11) 5 12) 6 13) 7 14) 8 16) 9 17) 10 19) 11 21) 12 23) 13 25) 14 28) 15 31) 16 34) 17 37) 18 41) 19 45) 20 50) 21 55) 22 60) 23 66) 24 73) 25 80) 26 88) 27 97) 28 107) 29 118) 30 130) 31 143) 32 157) 33 173) 34 190) 35 209) 36 230) 37 253) 38 279) 39 307) 40 337) 41 371) 42 408) 43 449) 44 494) 45 544) 46 598) 47 658) 48 724) 49 796) 50 876) 51 963) 52 1060) 53 1166) 54 1282) 55 1411) 56 1552) 57 1707) 58 1878) 59 2066) 60 2272) 61 2499) 62 2749) 63 3024) 64 3327) 65 3660) 66 4026) 67 4428) 68 4871) 69 5358) 70 5894) 71 6484) 72 7132) 73 7845) 74 8630) 75 9493) 76 10442) 77 11487) 78 12635) 79 13899) 80 15289) 81 16818) 82 18500) 83 20350) 84 22385) 85 24623) 86 27086) 87 29794) 88 32767) else if k = 97 then (zup (zup (zup (zup (zup (zup (zup (zup (fun _ => 0) 0 (-1)) 1 (-1)) 2 (-1)) 3 (-1)) 4 2) 5 4) 6 6) 7 8) else if k = 106 then (zup (zup (zup (zup (zup (zup (zup (zup (zup (zup (zup (zup (zup (zup (zup (zup (zup (zup (zup (zup (zup (zup (zup (zup (fun _ => 0) 0 635) 1 223) 2 348) 3 233) 4 438) 5 409) 6 252) 7 519) 8 239) 9 366) 10 229) 11 288) 12 633) 13 268) 14 352) 15 538) 16 260) 17 353) 18 254) 19 475) 20 398) 21 269) 22 334) 23 317) else (fun _ => 0))), (K15.1, zinN K15.2 14)) else none else none else none)))))))))))) else none else none else none) else none else none) else none)
set_option maxHeartbeats 4000000 in
set_option maxRecDepth 100000 in
theorem c_M_init {l : Launch} {D : va_G} {ca : Nat → ClassId} {ad : Nat → Int → Nat → Nat} {L : List Nat} {aS vS : Nat → Nat} {sz a : Nat} {Ki : zK} {F : zF} {B : zB} {r : Int} {F9 : zF} {B9 : zB} {K9 : zK} (hf : f_M_init Ki F B = some (r, F9, B9, K9)) : Met l ({ cls := "StaveHouseModel", name := "<init>", desc := "()V" } : Jvm.MethodName) (Cond.code ({ cls := "StaveHouseModel", name := "<init>", desc := "()V" } : Jvm.MethodName) prog_15_method_11_code 1 (Option.none : Option Jvm.ClassFile.FieldType) :: wAll) ({ frames := 5, cells := 246, slots := 654985, locals := 108 } : Room) (va_Pc [.ref a] (zPreX D ca ad lnM Ki.2 L aS vS F B a (.inr (14, rg 107 (fun j => defaultValue (tyX14 j)))) sz)) (Q_M_init Ki D ca ad a r F9 B9 K9 (zA (a :: L) sz)) 246 654985 (zA (a :: L) sz) := by
  refine zMetX (Qc := Q_M_init Ki D ca ad a r F9 B9 K9) (lv := [(0, .ref a)]) (by decide) (Nat.le_of_ble_eq_true rfl) rfl (fun A p e s m below meth c ls X hnm hZ hS hl => ?_)
  obtain ⟨hx, hb, hr, hml, hown, hts, hlk, hK, hA, hL, hX⟩ := id X
  replace hnm : meth.name = "<init>" := hnm
  have hG : zG ad Ki.2 ad Ki.2 := zG.rf
  replace hf : (zbindM (f_MP_init Ki F B) (fun r7 F7 B7 K7 => if 0 ≤ r7 ∧ r7 < K7.2 13 then zbindM (f_MP_init K7 F7 B7) (fun r10 F10 B10 K10 => if 0 ≤ r10 ∧ r10 < K10.2 13 then if 0 ≤ r7 ∧ r7 < K10.2 13 then zbindM (f_MP_init K10 F10 B10) (fun r15 F15 B15 K15 => if 0 ≤ r7 ∧ r7 < K15.2 13 then if 0 ≤ r10 ∧ r10 < K15.2 13 then if 0 ≤ r15 ∧ r15 < K15.2 13 then zbindN (f_MM_code K15 23 F15 B15) (fun r28 F28 B28 => zbindN (f_MM_code K15 24 F28 B28) (fun r34 F34 B34 => zbindN (f_MM_code K15 25 F34 B34) (fun r36 F36 B36 => zbindN (f_MM_code K15 26 F36 B36) (fun r38 F38 B38 => zbindN (f_MM_code K15 27 F38 B38) (fun r42 F42 B42 => zbindN (f_MM_code K15 28 F42 B42) (fun r44 F44 B44 => zbindN (f_MM_code K15 29 F44 B44) (fun r46 F46 B46 => zbindN (f_MM_code K15 30 F46 B46) (fun r48 F48 B48 => zbindN (f_MM_code K15 31 F48 B48) (fun r50 F50 B50 => zbindN (f_MM_code K15 32 F50 B50) (fun r52 F52 B52 => zbindN (f_MM_code K15 33 F52 B52) (fun r54 F54 B54 => zbindN (f_MM_code K15 34 F54 B54) (fun r56 F56 B56 => if 0 ≤ K15.2 14 then if r15 < K15.2 13 then if (-1 : Int) < K15.2 13 then some (K15.2 14, (zinF F56 14 (K15.2 14) [0, 1, 0, 0, 0, 0, r15, 0, 0, 0, 0, 0, 0, 0, 0, 0, 0, 0, 0, 0, 0, 0, 0, 0, 0, 0, 0, 0, 0, 0, 0, 0, 0, 0, 0, 0, 0, 0, 0, 0, 0, 0, 0, 0, 0, 0, 0, 0, 0, 0, 0, 0, 0, 0, 0, 0, 0, 0, 0, 0, 0, 0, 0, 0, 0, 0, 0, 0, 0, 0, 0, 0, 0, 0, 0, 0, 0, 0, 0, 0, 0, 0, 0, 0, 0, 0, 0, 0, 0, 0, 0, 0, 0, 0, 0, 0, 0, 0, 0, 0, 0, 0, 0, 0, 0, 0, 0]), (zinB B56 14 (K15.2 14) (fun k => if k = 5 then (zup (zup (fun _ => -1) 0 r7) 1 r10) else if k = 13 then (zup (zup (zup (zup (fun _ => 0) 0 r28) 1 r34) 2 r36) 3 r38) else if k = 14 then (zup (zup (zup (zup (zup (zup (zup (zup (fun _ => 0) 0 r42) 1 r44) 2 r46) 3 r48) 4 r50) 5 r52) 6 r54) 7 r56) else if k = 15 then (zup (zup (zup (zup (zup (zup (zup (zup (zup (zup (zup (zup (zup (zup (zup (fun _ => 0) 0 7038329) 1 469785800562) 2 469920280434) 3 1953066341) 4 499917877359) 5 7103860) 6 508675318629) 7 125780002955636) 8 6384756) 9 7697253) 10 1836021349) 11 120299659095922) 12 1650549611) 13 1936486263) 14 114) else if k = 61 then (zup (zup (zup (zup (zup (zup (zup (zup (fun _ => 0) 0 20) 1 33) 2 46) 3 59) 4 72) 5 85) 6 98) 7 111) else if k = 96 then (zup (zup (zup (zup (zup (zup (zup (zup (zup (zup (zup (zup (zup (zup (zup (zup (zup (zup (zup (zup (zup (zup (zup (zup (zup (zup (zup (zup (zup (zup (zup (zup (zup (zup (zup (zup (zup (zup (zup (zup (zup (zup (zup (zup (zup (zup (zup (zup (zup (zup (zup (zup (zup (zup (zup (zup (zup (zup (zup (zup (zup (zup (zup (zup (zup (zup (zup (zup (zup (zup (zup (zup (zup (zup (zup (zup (zup (zup (zup (zup (zup (zup (zup (zup (zup (zup (zup (zup (zup (fun _ => 0) 0 7) 1 8) 2 9) 3 10) 4 11) 5 12) 6 13) 7 14) 8 16) 9 17) 10 19) 11 21) 12 23) 13 25) 14 28) 15 31) 16 34) 17 37) 18 41) 19 45) 20 50) 21 55) 22 60) 23 66) 24 73) 25 80) 26 88) 27 97) 28 107) 29 118) 30 130) 31 143) 32 157) 33 173) 34 190) 35 209) 36 230) 37 253) 38 279) 39 307) 40 337) 41 371) 42 408) 43 449) 44 494) 45 544) 46 598) 47 658) 48 724) 49 796) 50 876) 51 963) 52 1060) 53 1166) 54 1282) 55 1411) 56 1552) 57 1707) 58 1878) 59 2066) 60 2272) 61 2499) 62 2749) 63 3024) 64 3327) 65 3660) 66 4026) 67 4428) 68 4871) 69 5358) 70 5894) 71 6484) 72 7132) 73 7845) 74 8630) 75 9493) 76 10442) 77 11487) 78 12635) 79 13899) 80 15289) 81 16818) 82 18500) 83 20350) 84 22385) 85 24623) 86 27086) 87 29794) 88 32767) else if k = 97 then (zup (zup (zup (zup (zup (zup (zup (zup (fun _ => 0) 0 (-1)) 1 (-1)) 2 (-1)) 3 (-1)) 4 2) 5 4) 6 6) 7 8) else if k = 106 then (zup (zup (zup (zup (zup (zup (zup (zup (zup (zup (zup (zup (zup (zup (zup (zup (zup (zup (zup (zup (zup (zup (zup (zup (fun _ => 0) 0 635) 1 223) 2 348) 3 233) 4 438) 5 409) 6 252) 7 519) 8 239) 9 366) 10 229) 11 288) 12 633) 13 268) 14 352) 15 538) 16 260) 17 353) 18 254) 19 475) 20 398) 21 269) 22 334) 23 317) else (fun _ => 0))), (K15.1, zinN K15.2 14)) else none else none else none)))))))))))) else none else none else none) else none else none) else none)) = some (r, F9, B9, K9) := hf
  refine lv_aload_n hx hb d_15_11_0 rfl (lv_at hl 0 rfl) ?_
  refine W.objInit hx hb hown (hts _ k_9_117) (hts _ k_1_30) (hts _ k_1_31) rfl (by rw [hml]; exact hl.1) rfl d_15_11_1 (Nat.le_of_ble_eq_true rfl) (Nat.le_of_ble_eq_true rfl) ?_
  refine W.eq (g2 := F0 m 4 ls []) rfl ?_
  refine lv_aload_n hx hb d_15_11_4 rfl (lv_at hl 0 rfl) ?_
  refine lv_lconst (v := lI 1) hx hb d_15_11_5 (by decide) ?_
  obtain ⟨g1, hg1⟩ : ∃ gz : Nat → Value, gz = va_up (fun j => defaultValue (tyX14 j)) 1 (.long (lI 1)) := ⟨_, rfl⟩
  refine zxput hx hb hts inW_14 tyX14 tyX14_ok nmX14 hown hK hZ hS 0 rfl rfl (k := 1) (by decide) k_10_239 rfl rfl rfl d_15_11_6 (fun H1 locs1 hZ1 hS1 => ?_)
  rw [← hg1] at hZ1
  replace hZ1 : zHx D ca ad lnM Ki.2 L F B ((a, .inr (14, rg 107 g1)) :: []) A H1 := hZ1
  refine lv_aload_n hx hb d_15_11_9 rfl (lv_at hl 0 rfl) ?_
  refine lv_sipush (v := iI 3000) hx hb d_15_11_10 (by decide) ?_
  refine zxnewa (atype := .byte) hx hb hts (ty := .byte) rfl k_4_180 hK 2 rfl (fun _ _ => gu_byte) hZ1 hS1 hA (a0 := (3000, .inl (zAr (fun _ => 0)))) (fun _ => rfl) (by decide) (N' := 3000) (by decide) (Nat.le_of_ble_eq_true rfl) (Nat.le_of_ble_eq_true rfl) (Nat.le_of_ble_eq_true rfl) d_15_11_13 (fun q2 H2 hZ2 hS2 => ?_)
  replace hZ2 := zHx.rot hZ2
  replace hZ2 : zHx D ca ad lnM Ki.2 L F B ((q2, .inl (ca 2, 3000, .inl (zAr (fun _ => 0)))) :: (a, .inr (14, rg 107 g1)) :: []) A H2 := hZ2
  clear hZ1 hS1
  refine W.widen (k := 1) (n := 3000) (Nat.le_of_ble_eq_true rfl) (Nat.le_of_ble_eq_true rfl) ?_
  obtain ⟨g3, hg3⟩ : ∃ gz : Nat → Value, gz = va_up g1 2 (.ref q2) := ⟨_, rfl⟩
  refine zxputF hx hb hts inW_14 tyX14 tyX14_ok nmX14 hown hK hZ2 hS2 1 rfl rfl (k := 2) (by decide) k_11_0 rfl hnm rfl rfl rfl d_15_11_15 (fun H3 locs3 hZ3 hS3 => ?_)
  rw [← hg3] at hZ3
  obtain ⟨Y3, hY3⟩ : ∃ Yz : va_W, Yz = (q2, .inl (ca 2, 3000, .inl (zAr (fun _ => 0)))) :: [] := ⟨_, rfl⟩
  replace hZ3 : zHx D ca ad lnM Ki.2 L F B ((a, .inr (14, rg 107 g3)) :: (q2, .inl (ca 2, 3000, .inl (zAr (fun _ => 0)))) :: []) A H3 := zHx.swp hZ3
  rw [← hY3] at hZ3
  replace hZ3 : zHx D ca ad lnM Ki.2 L F B ((a, .inr (14, rg 107 g3)) :: Y3) A H3 := hZ3
  clear hZ2 hS2
  refine lv_aload_n hx hb d_15_11_18 rfl (lv_at hl 0 rfl) ?_
  refine lv_bipush (v := iI 20) hx hb d_15_11_19 (by decide) ?_
  refine zxnewa (atype := .byte) hx hb hts (ty := .byte) rfl k_4_180 hK 2 rfl (fun _ _ => gu_byte) hZ3 hS3 hA (a0 := (20, .inl (zAr (fun _ => 0)))) (fun _ => rfl) (by decide) (N' := 20) (by decide) (Nat.le_of_ble_eq_true rfl) (Nat.le_of_ble_eq_true rfl) (Nat.le_of_ble_eq_true rfl) d_15_11_21 (fun q4 H4 hZ4 hS4 => ?_)
  replace hZ4 := zHx.rot hZ4
  replace hZ4 : zHx D ca ad lnM Ki.2 L F B ((q4, .inl (ca 2, 20, .inl (zAr (fun _ => 0)))) :: (a, .inr (14, rg 107 g3)) :: Y3) A H4 := hZ4
  clear hZ3 hS3
  refine W.widen (k := 2) (n := 3020) (Nat.le_of_ble_eq_true rfl) (Nat.le_of_ble_eq_true rfl) ?_
  obtain ⟨g5, hg5⟩ : ∃ gz : Nat → Value, gz = va_up g3 4 (.ref q4) := ⟨_, rfl⟩
  refine zxputF hx hb hts inW_14 tyX14 tyX14_ok nmX14 hown hK hZ4 hS4 1 rfl rfl (k := 4) (by decide) k_11_2 rfl hnm rfl rfl rfl d_15_11_23 (fun H5 locs5 hZ5 hS5 => ?_)
  rw [← hg5] at hZ5
  obtain ⟨Y5, hY5⟩ : ∃ Yz : va_W, Yz = (q4, .inl (ca 2, 20, .inl (zAr (fun _ => 0)))) :: Y3 := ⟨_, rfl⟩
  replace hZ5 : zHx D ca ad lnM Ki.2 L F B ((a, .inr (14, rg 107 g5)) :: (q4, .inl (ca 2, 20, .inl (zAr (fun _ => 0)))) :: Y3) A H5 := zHx.swp hZ5
  rw [← hY5] at hZ5
  replace hZ5 : zHx D ca ad lnM Ki.2 L F B ((a, .inr (14, rg 107 g5)) :: Y5) A H5 := hZ5
  clear hZ4 hS4
  refine lv_aload_n hx hb d_15_11_26 rfl (lv_at hl 0 rfl) ?_
  refine lv_iconst (v := iI 2) hx hb d_15_11_27 rfl ?_
  refine zxnewq hx hb hts hown k_9_118 (hX.2.1 _ (List.mem_of_getElem? (i := 2) rfl) :) hK 5 rfl hZ5 hS5 hA (by decide) (N' := 2) (by decide) (Nat.le_of_ble_eq_true rfl) (Nat.le_of_ble_eq_true rfl) (Nat.le_of_ble_eq_true rfl) d_15_11_28 (fun q6 H6 hZ6 hS6 => ?_)
  replace hZ6 := zHx.rot hZ6
  replace hZ6 : zHx D ca ad lnM Ki.2 L F B ((q6, .inl (ca 5, 2, .inr (.inr (.inr (.inr (fun _ => none)))))) :: (a, .inr (14, rg 107 g5)) :: Y5) A H6 := hZ6
  clear hZ5 hS5
  refine W.widen (k := 3) (n := 3022) (Nat.le_of_ble_eq_true rfl) (Nat.le_of_ble_eq_true rfl) ?_
  refine lv_dup hx hb d_15_11_31 rfl ?_
  refine lv_iconst (v := iI 0) hx hb d_15_11_32 rfl ?_
  obtain ⟨r7, F7, B7, K7, hc7, hf⟩ := gbindM hf
  refine zxnew (C := RX13) (T := TX13) (n := 81) (ci := 13) hx hb hts inW_13 tyX13 tyX13_ok hown k_9_118 k_9_120 k_1_10 hK hZ6 hS6 hA rfl (Nat.le_of_ble_eq_true rfl) (Nat.le_of_ble_eq_true rfl) d_15_11_33 (fun q7 Hn7 hZn7 hSn7 => ?_)
  refine W.widen (k := 4) (n := 3103) (Nat.le_of_ble_eq_true rfl) (Nat.le_of_ble_eq_true rfl) ?_
  refine lv_dup hx hb d_15_11_36 rfl ?_
  refine va_callv (va_runIN (As := []) (rest := .ref q7 :: [.int (iI 0), .ref q6, .ref q6, .ref a]) ⟨hx, hb, hml, hown, hts⟩ (c_MP_init (l := l) hc7) ⟨va_cnB 0 hts (gdC k_9_123) rfl rfl rfl (hX.1 _ (List.mem_of_getElem? (i := 11) rfl) :) (hts _ k_1_10) (by decide +kernel) ⟨(Nat.le_of_ble_eq_true rfl), (Nat.le_of_ble_eq_true rfl)⟩, rfl, hts _ k_9_122⟩ (zxPS X hZn7 hSn7 [.ref q7]) rfl rfl hl.1 rfl (lv_room (Nat.le_of_ble_eq_true rfl)) d_15_11_37 ⟨(Nat.le_of_ble_eq_true rfl), (Nat.le_of_ble_eq_true rfl)⟩) hSn7 (fun x _ h => zxAin X hZn7 hSn7 x h) (zxAin X hZn7 hSn7) (fun u7 t7 H7 locs7 ht7 hv7 hu7 hB7 hz7 hk7 hS7 => ?_)
  obtain ⟨ad7, L7⟩ := u7
  obtain ⟨hg7, hq7⟩ := hu7
  have hZ7 := zxback hZn7 (zxAin X hZn7 hSn7) hk7 ht7 hB7
  replace hq7 : ad7 13 r7 0 = q7 := hq7
  have X7 := X.grow (fun z hz => hZ7.inA z (List.mem_append.mpr (Or.inr hz)))
  have hG7 := hG.tr hg7
  replace hZ7 : zHx D ca ad7 lnM K7.2 L7 F7 B7 ((q6, .inl (ca 5, 2, .inr (.inr (.inr (.inr (fun _ => none)))))) :: (a, .inr (14, rg 107 g5)) :: Y5) A H7 := hZ7
  clear hZ6 hS6
  refine W.widen (k := 65) (n := 189728) (Nat.le_of_ble_eq_true rfl) (Nat.le_of_ble_eq_true rfl) ?_
  obtain ⟨g9, hf⟩ := gif hf
  rw [← hq7]
  refine zxaast hx hb hK hZ7 hS7 0 5 rfl rfl (t := 13) (r := (RX13, TX13, 81)) rfl g9.1 g9.2 (by decide) (by decide) (Nat.le_of_ble_eq_true rfl) d_15_11_40 (fun H8 locs8 hZ8 hS8 => ?_)
  rw [hq7] at hZ8
  try rw [hq7]
  replace hZ8 : zHx D ca ad7 lnM K7.2 L7 F7 B7 ((q6, .inl (ca 5, 2, .inr (.inr (.inr (.inr (va_up (fun _ => none) 0 (some q7))))))) :: (a, .inr (14, rg 107 g5)) :: Y5) A H8 := hZ8
  clear hZ7 hS7
  refine lv_dup hx hb d_15_11_41 rfl ?_
  refine lv_iconst (v := iI 1) hx hb d_15_11_42 rfl ?_
  obtain ⟨r10, F10, B10, K10, hc10, hf⟩ := gbindM hf
  refine zxnew (C := RX13) (T := TX13) (n := 81) (ci := 13) hx hb hts inW_13 tyX13 tyX13_ok hown k_9_118 k_9_120 k_1_10 hK hZ8 hS8 hA rfl (Nat.le_of_ble_eq_true rfl) (Nat.le_of_ble_eq_true rfl) d_15_11_43 (fun q10 Hn10 hZn10 hSn10 => ?_)
  refine W.widen (k := 66) (n := 189809) (Nat.le_of_ble_eq_true rfl) (Nat.le_of_ble_eq_true rfl) ?_
  refine lv_dup hx hb d_15_11_46 rfl ?_
  refine va_callv (va_runIN (As := []) (rest := .ref q10 :: [.int (iI 1), .ref q6, .ref q6, .ref a]) ⟨hx, hb, hml, hown, hts⟩ (c_MP_init (l := l) hc10) ⟨va_cnB 0 hts (gdC k_9_123) rfl rfl rfl (hX.1 _ (List.mem_of_getElem? (i := 11) rfl) :) (hts _ k_1_10) (by decide +kernel) ⟨(Nat.le_of_ble_eq_true rfl), (Nat.le_of_ble_eq_true rfl)⟩, rfl, hts _ k_9_122⟩ (zxPS X7 hZn10 hSn10 [.ref q10]) rfl rfl hl.1 rfl (lv_room (Nat.le_of_ble_eq_true rfl)) d_15_11_47 ⟨(Nat.le_of_ble_eq_true rfl), (Nat.le_of_ble_eq_true rfl)⟩) hSn10 (fun x _ h => zxAin X7 hZn10 hSn10 x h) (zxAin X7 hZn10 hSn10) (fun u10 t10 H10 locs10 ht10 hv10 hu10 hB10 hz10 hk10 hS10 => ?_)
  obtain ⟨ad10, L10⟩ := u10
  obtain ⟨hg10, hq10⟩ := hu10
  have hZ10 := zxback hZn10 (zxAin X7 hZn10 hSn10) hk10 ht10 hB10
  replace hq10 : ad10 13 r10 0 = q10 := hq10
  have hq7_10 : ad10 13 r7 0 = q7 := (hg10.2 _ _ _ g9.1 g9.2).trans hq7
  have X10 := X7.grow (fun z hz => hZ10.inA z (List.mem_append.mpr (Or.inr hz)))
  have hG10 := hG7.tr hg10
  replace hZ10 : zHx D ca ad10 lnM K10.2 L10 F10 B10 ((q6, .inl (ca 5, 2, .inr (.inr (.inr (.inr (va_up (fun _ => none) 0 (some q7))))))) :: (a, .inr (14, rg 107 g5)) :: Y5) A H10 := hZ10
  clear hZ8 hS8
  refine W.widen (k := 127) (n := 376434) (Nat.le_of_ble_eq_true rfl) (Nat.le_of_ble_eq_true rfl) ?_
  obtain ⟨g12, hf⟩ := gif hf
  rw [← hq10]
  refine zxaast hx hb hK hZ10 hS10 0 5 rfl rfl (t := 13) (r := (RX13, TX13, 81)) rfl g12.1 g12.2 (by decide) (by decide) (Nat.le_of_ble_eq_true rfl) d_15_11_50 (fun H11 locs11 hZ11 hS11 => ?_)
  rw [hq10] at hZ11
  try rw [hq10]
  replace hZ11 : zHx D ca ad10 lnM K10.2 L10 F10 B10 ((q6, .inl (ca 5, 2, .inr (.inr (.inr (.inr (va_up (va_up (fun _ => none) 0 (some q7)) 1 (some q10))))))) :: (a, .inr (14, rg 107 g5)) :: Y5) A H11 := hZ11
  clear hZ10 hS10
  obtain ⟨g13, hg13⟩ : ∃ gz : Nat → Value, gz = va_up g5 5 (.ref q6) := ⟨_, rfl⟩
  refine zxputF hx hb hts inW_14 tyX14 tyX14_ok nmX14 hown hK hZ11 hS11 1 rfl rfl (k := 5) (by decide) k_11_3 rfl hnm rfl rfl rfl d_15_11_51 (fun H13 locs13 hZ13 hS13 => ?_)
  rw [← hg13] at hZ13
  obtain ⟨Y13, hY13⟩ : ∃ Yz : va_W, Yz = (q6, .inl (ca 5, 2, .inr (.inr (.inr (.inr (va_up (va_up (fun _ => none) 0 (some q7)) 1 (some q10))))))) :: Y5 := ⟨_, rfl⟩
  replace hZ13 : zHx D ca ad10 lnM K10.2 L10 F10 B10 ((a, .inr (14, rg 107 g13)) :: (q6, .inl (ca 5, 2, .inr (.inr (.inr (.inr (va_up (va_up (fun _ => none) 0 (some q7)) 1 (some q10))))))) :: Y5) A H13 := zHx.swp hZ13
  rw [← hY13] at hZ13
  replace hZ13 : zHx D ca ad10 lnM K10.2 L10 F10 B10 ((a, .inr (14, rg 107 g13)) :: Y13) A H13 := hZ13
  clear hZ11 hS11
  refine lv_aload_n hx hb d_15_11_54 rfl (lv_at hl 0 rfl) ?_
  obtain ⟨g14, hf⟩ := gif hf
  obtain ⟨r15, F15, B15, K15, hc15, hf⟩ := gbindM hf
  refine zxnew (C := RX13) (T := TX13) (n := 81) (ci := 13) hx hb hts inW_13 tyX13 tyX13_ok hown k_9_118 k_9_120 k_1_10 hK hZ13 hS13 hA rfl (Nat.le_of_ble_eq_true rfl) (Nat.le_of_ble_eq_true rfl) d_15_11_55 (fun q15 Hn15 hZn15 hSn15 => ?_)
  refine W.widen (k := 128) (n := 376515) (Nat.le_of_ble_eq_true rfl) (Nat.le_of_ble_eq_true rfl) ?_
  refine lv_dup hx hb d_15_11_58 rfl ?_
  refine va_callv (va_runIN (As := []) (rest := .ref q15 :: [.ref a]) ⟨hx, hb, hml, hown, hts⟩ (c_MP_init (l := l) hc15) ⟨va_cnB 0 hts (gdC k_9_123) rfl rfl rfl (hX.1 _ (List.mem_of_getElem? (i := 11) rfl) :) (hts _ k_1_10) (by decide +kernel) ⟨(Nat.le_of_ble_eq_true rfl), (Nat.le_of_ble_eq_true rfl)⟩, rfl, hts _ k_9_122⟩ (zxPS X10 hZn15 hSn15 [.ref q15]) rfl rfl hl.1 rfl (lv_room (Nat.le_of_ble_eq_true rfl)) d_15_11_59 ⟨(Nat.le_of_ble_eq_true rfl), (Nat.le_of_ble_eq_true rfl)⟩) hSn15 (fun x _ h => zxAin X10 hZn15 hSn15 x h) (zxAin X10 hZn15 hSn15) (fun u15 t15 H15 locs15 ht15 hv15 hu15 hB15 hz15 hk15 hS15 => ?_)
  obtain ⟨ad15, L15⟩ := u15
  obtain ⟨hg15, hq15⟩ := hu15
  have hZ15 := zxback hZn15 (zxAin X10 hZn15 hSn15) hk15 ht15 hB15
  replace hq15 : ad15 13 r15 0 = q15 := hq15
  have hq7_10_15 : ad15 13 r7 0 = q7 := (hg15.2 _ _ _ g14.1 g14.2).trans hq7_10
  have hq10_15 : ad15 13 r10 0 = q10 := (hg15.2 _ _ _ g12.1 g12.2).trans hq10
  have X15 := X10.grow (fun z hz => hZ15.inA z (List.mem_append.mpr (Or.inr hz)))
  have hG15 := hG10.tr hg15
  replace hZ15 : zHx D ca ad15 lnM K15.2 L15 F15 B15 ((a, .inr (14, rg 107 g13)) :: Y13) A H15 := hZ15
  clear hZ13 hS13
  refine W.widen (k := 189) (n := 563140) (Nat.le_of_ble_eq_true rfl) (Nat.le_of_ble_eq_true rfl) ?_
  obtain ⟨g16, hg16⟩ : ∃ gz : Nat → Value, gz = va_up g13 6 (.ref q15) := ⟨_, rfl⟩
  refine zxput hx hb hts inW_14 tyX14 tyX14_ok nmX14 hown hK hZ15 hS15 0 rfl rfl (k := 6) (by decide) k_11_4 rfl rfl rfl d_15_11_62 (fun H16 locs16 hZ16 hS16 => ?_)
  rw [← hg16] at hZ16
  replace hZ16 : zHx D ca ad15 lnM K15.2 L15 F15 B15 ((a, .inr (14, rg 107 g16)) :: Y13) A H16 := hZ16
  clear hZ15 hS15
  refine lv_aload_n hx hb d_15_11_65 rfl (lv_at hl 0 rfl) ?_
  refine lv_sipush (v := iI 3001) hx hb d_15_11_66 (by decide) ?_
  refine zxnewa (atype := .int) hx hb hts (ty := .int) rfl k_1_57 hK 0 rfl (fun _ _ => gu_int) hZ16 hS16 hA (a0 := (3001, .inl (zAr (fun _ => 0)))) (fun _ => rfl) (by decide) (N' := 3001) (by decide) (Nat.le_of_ble_eq_true rfl) (Nat.le_of_ble_eq_true rfl) (Nat.le_of_ble_eq_true rfl) d_15_11_69 (fun q17 H17 hZ17 hS17 => ?_)
  replace hZ17 := zHx.rot hZ17
  replace hZ17 : zHx D ca ad15 lnM K15.2 L15 F15 B15 ((q17, .inl (ca 0, 3001, .inl (zAr (fun _ => 0)))) :: (a, .inr (14, rg 107 g16)) :: Y13) A H17 := hZ17
  clear hZ16 hS16
  refine W.widen (k := 190) (n := 566141) (Nat.le_of_ble_eq_true rfl) (Nat.le_of_ble_eq_true rfl) ?_
  obtain ⟨g18, hg18⟩ : ∃ gz : Nat → Value, gz = va_up g16 7 (.ref q17) := ⟨_, rfl⟩
  refine zxputF hx hb hts inW_14 tyX14 tyX14_ok nmX14 hown hK hZ17 hS17 1 rfl rfl (k := 7) (by decide) k_11_5 rfl hnm rfl rfl rfl d_15_11_71 (fun H18 locs18 hZ18 hS18 => ?_)
  rw [← hg18] at hZ18
  obtain ⟨Y18, hY18⟩ : ∃ Yz : va_W, Yz = (q17, .inl (ca 0, 3001, .inl (zAr (fun _ => 0)))) :: Y13 := ⟨_, rfl⟩
  replace hZ18 : zHx D ca ad15 lnM K15.2 L15 F15 B15 ((a, .inr (14, rg 107 g18)) :: (q17, .inl (ca 0, 3001, .inl (zAr (fun _ => 0)))) :: Y13) A H18 := zHx.swp hZ18
  rw [← hY18] at hZ18
  replace hZ18 : zHx D ca ad15 lnM K15.2 L15 F15 B15 ((a, .inr (14, rg 107 g18)) :: Y18) A H18 := hZ18
  clear hZ17 hS17
  refine lv_aload_n hx hb d_15_11_74 rfl (lv_at hl 0 rfl) ?_
  refine lv_sipush (v := iI 3001) hx hb d_15_11_75 (by decide) ?_
  refine zxnewa (atype := .int) hx hb hts (ty := .int) rfl k_1_57 hK 0 rfl (fun _ _ => gu_int) hZ18 hS18 hA (a0 := (3001, .inl (zAr (fun _ => 0)))) (fun _ => rfl) (by decide) (N' := 3001) (by decide) (Nat.le_of_ble_eq_true rfl) (Nat.le_of_ble_eq_true rfl) (Nat.le_of_ble_eq_true rfl) d_15_11_78 (fun q19 H19 hZ19 hS19 => ?_)
  replace hZ19 := zHx.rot hZ19
  replace hZ19 : zHx D ca ad15 lnM K15.2 L15 F15 B15 ((q19, .inl (ca 0, 3001, .inl (zAr (fun _ => 0)))) :: (a, .inr (14, rg 107 g18)) :: Y18) A H19 := hZ19
  clear hZ18 hS18
  refine W.widen (k := 191) (n := 569142) (Nat.le_of_ble_eq_true rfl) (Nat.le_of_ble_eq_true rfl) ?_
  obtain ⟨g20, hg20⟩ : ∃ gz : Nat → Value, gz = va_up g18 8 (.ref q19) := ⟨_, rfl⟩
  refine zxputF hx hb hts inW_14 tyX14 tyX14_ok nmX14 hown hK hZ19 hS19 1 rfl rfl (k := 8) (by decide) k_11_6 rfl hnm rfl rfl rfl d_15_11_80 (fun H20 locs20 hZ20 hS20 => ?_)
  rw [← hg20] at hZ20
  obtain ⟨Y20, hY20⟩ : ∃ Yz : va_W, Yz = (q19, .inl (ca 0, 3001, .inl (zAr (fun _ => 0)))) :: Y18 := ⟨_, rfl⟩
  replace hZ20 : zHx D ca ad15 lnM K15.2 L15 F15 B15 ((a, .inr (14, rg 107 g20)) :: (q19, .inl (ca 0, 3001, .inl (zAr (fun _ => 0)))) :: Y18) A H20 := zHx.swp hZ20
  rw [← hY20] at hZ20
  replace hZ20 : zHx D ca ad15 lnM K15.2 L15 F15 B15 ((a, .inr (14, rg 107 g20)) :: Y20) A H20 := hZ20
  clear hZ19 hS19
  refine lv_aload_n hx hb d_15_11_83 rfl (lv_at hl 0 rfl) ?_
  refine lv_sipush (v := iI 3001) hx hb d_15_11_84 (by decide) ?_
  refine zxnewa (atype := .int) hx hb hts (ty := .int) rfl k_1_57 hK 0 rfl (fun _ _ => gu_int) hZ20 hS20 hA (a0 := (3001, .inl (zAr (fun _ => 0)))) (fun _ => rfl) (by decide) (N' := 3001) (by decide) (Nat.le_of_ble_eq_true rfl) (Nat.le_of_ble_eq_true rfl) (Nat.le_of_ble_eq_true rfl) d_15_11_87 (fun q21 H21 hZ21 hS21 => ?_)
  replace hZ21 := zHx.rot hZ21
  replace hZ21 : zHx D ca ad15 lnM K15.2 L15 F15 B15 ((q21, .inl (ca 0, 3001, .inl (zAr (fun _ => 0)))) :: (a, .inr (14, rg 107 g20)) :: Y20) A H21 := hZ21
  clear hZ20 hS20
  refine W.widen (k := 192) (n := 572143) (Nat.le_of_ble_eq_true rfl) (Nat.le_of_ble_eq_true rfl) ?_
  obtain ⟨g22, hg22⟩ : ∃ gz : Nat → Value, gz = va_up g20 9 (.ref q21) := ⟨_, rfl⟩
  refine zxputF hx hb hts inW_14 tyX14 tyX14_ok nmX14 hown hK hZ21 hS21 1 rfl rfl (k := 9) (by decide) k_11_7 rfl hnm rfl rfl rfl d_15_11_89 (fun H22 locs22 hZ22 hS22 => ?_)
  rw [← hg22] at hZ22
  obtain ⟨Y22, hY22⟩ : ∃ Yz : va_W, Yz = (q21, .inl (ca 0, 3001, .inl (zAr (fun _ => 0)))) :: Y20 := ⟨_, rfl⟩
  replace hZ22 : zHx D ca ad15 lnM K15.2 L15 F15 B15 ((a, .inr (14, rg 107 g22)) :: (q21, .inl (ca 0, 3001, .inl (zAr (fun _ => 0)))) :: Y20) A H22 := zHx.swp hZ22
  rw [← hY22] at hZ22
  replace hZ22 : zHx D ca ad15 lnM K15.2 L15 F15 B15 ((a, .inr (14, rg 107 g22)) :: Y22) A H22 := hZ22
  clear hZ21 hS21
  refine lv_aload_n hx hb d_15_11_92 rfl (lv_at hl 0 rfl) ?_
  refine lv_sipush (v := iI 3001) hx hb d_15_11_93 (by decide) ?_
  refine zxnewa (atype := .int) hx hb hts (ty := .int) rfl k_1_57 hK 0 rfl (fun _ _ => gu_int) hZ22 hS22 hA (a0 := (3001, .inl (zAr (fun _ => 0)))) (fun _ => rfl) (by decide) (N' := 3001) (by decide) (Nat.le_of_ble_eq_true rfl) (Nat.le_of_ble_eq_true rfl) (Nat.le_of_ble_eq_true rfl) d_15_11_96 (fun q23 H23 hZ23 hS23 => ?_)
  replace hZ23 := zHx.rot hZ23
  replace hZ23 : zHx D ca ad15 lnM K15.2 L15 F15 B15 ((q23, .inl (ca 0, 3001, .inl (zAr (fun _ => 0)))) :: (a, .inr (14, rg 107 g22)) :: Y22) A H23 := hZ23
  clear hZ22 hS22
  refine W.widen (k := 193) (n := 575144) (Nat.le_of_ble_eq_true rfl) (Nat.le_of_ble_eq_true rfl) ?_
  obtain ⟨g24, hg24⟩ : ∃ gz : Nat → Value, gz = va_up g22 10 (.ref q23) := ⟨_, rfl⟩
  refine zxputF hx hb hts inW_14 tyX14 tyX14_ok nmX14 hown hK hZ23 hS23 1 rfl rfl (k := 10) (by decide) k_11_8 rfl hnm rfl rfl rfl d_15_11_98 (fun H24 locs24 hZ24 hS24 => ?_)
  rw [← hg24] at hZ24
  obtain ⟨Y24, hY24⟩ : ∃ Yz : va_W, Yz = (q23, .inl (ca 0, 3001, .inl (zAr (fun _ => 0)))) :: Y22 := ⟨_, rfl⟩
  replace hZ24 : zHx D ca ad15 lnM K15.2 L15 F15 B15 ((a, .inr (14, rg 107 g24)) :: (q23, .inl (ca 0, 3001, .inl (zAr (fun _ => 0)))) :: Y22) A H24 := zHx.swp hZ24
  rw [← hY24] at hZ24
  replace hZ24 : zHx D ca ad15 lnM K15.2 L15 F15 B15 ((a, .inr (14, rg 107 g24)) :: Y24) A H24 := hZ24
  clear hZ23 hS23
  refine lv_aload_n hx hb d_15_11_101 rfl (lv_at hl 0 rfl) ?_
  refine lv_sipush (v := iI 3001) hx hb d_15_11_102 (by decide) ?_
  refine zxnewa (atype := .long) hx hb hts (ty := .long) rfl k_1_105 hK 1 rfl (fun _ _ => gu_long) hZ24 hS24 hA (a0 := (3001, .inr (.inl (zLr (fun _ => 0))))) (fun _ => rfl) (by decide) (N' := 3001) (by decide) (Nat.le_of_ble_eq_true rfl) (Nat.le_of_ble_eq_true rfl) (Nat.le_of_ble_eq_true rfl) d_15_11_105 (fun q25 H25 hZ25 hS25 => ?_)
  replace hZ25 := zHx.rot hZ25
  replace hZ25 : zHx D ca ad15 lnM K15.2 L15 F15 B15 ((q25, .inl (ca 1, 3001, .inr (.inl (zLr (fun _ => 0))))) :: (a, .inr (14, rg 107 g24)) :: Y24) A H25 := hZ25
  clear hZ24 hS24
  refine W.widen (k := 194) (n := 578145) (Nat.le_of_ble_eq_true rfl) (Nat.le_of_ble_eq_true rfl) ?_
  obtain ⟨g26, hg26⟩ : ∃ gz : Nat → Value, gz = va_up g24 11 (.ref q25) := ⟨_, rfl⟩
  refine zxputF hx hb hts inW_14 tyX14 tyX14_ok nmX14 hown hK hZ25 hS25 1 rfl rfl (k := 11) (by decide) k_11_9 rfl hnm rfl rfl rfl d_15_11_107 (fun H26 locs26 hZ26 hS26 => ?_)
  rw [← hg26] at hZ26
  obtain ⟨Y26, hY26⟩ : ∃ Yz : va_W, Yz = (q25, .inl (ca 1, 3001, .inr (.inl (zLr (fun _ => 0))))) :: Y24 := ⟨_, rfl⟩
  replace hZ26 : zHx D ca ad15 lnM K15.2 L15 F15 B15 ((a, .inr (14, rg 107 g26)) :: (q25, .inl (ca 1, 3001, .inr (.inl (zLr (fun _ => 0))))) :: Y24) A H26 := zHx.swp hZ26
  rw [← hY26] at hZ26
  replace hZ26 : zHx D ca ad15 lnM K15.2 L15 F15 B15 ((a, .inr (14, rg 107 g26)) :: Y26) A H26 := hZ26
  clear hZ25 hS25
  refine lv_aload_n hx hb d_15_11_110 rfl (lv_at hl 0 rfl) ?_
  refine lv_iconst (v := iI 4) hx hb d_15_11_111 rfl ?_
  refine zxnewa (atype := .long) hx hb hts (ty := .long) rfl k_1_105 hK 1 rfl (fun _ _ => gu_long) hZ26 hS26 hA (a0 := (4, .inr (.inl (zLr (fun _ => 0))))) (fun _ => rfl) (by decide) (N' := 4) (by decide) (Nat.le_of_ble_eq_true rfl) (Nat.le_of_ble_eq_true rfl) (Nat.le_of_ble_eq_true rfl) d_15_11_112 (fun q27 H27 hZ27 hS27 => ?_)
  replace hZ27 := zHx.rot hZ27
  replace hZ27 : zHx D ca ad15 lnM K15.2 L15 F15 B15 ((q27, .inl (ca 1, 4, .inr (.inl (zLr (fun _ => 0))))) :: (a, .inr (14, rg 107 g26)) :: Y26) A H27 := hZ27
  clear hZ26 hS26
  refine W.widen (k := 195) (n := 578149) (Nat.le_of_ble_eq_true rfl) (Nat.le_of_ble_eq_true rfl) ?_
  refine lv_dup hx hb d_15_11_114 rfl ?_
  refine lv_iconst (v := iI 0) hx hb d_15_11_115 rfl ?_
  refine va_ldcS hx hb hown (hX.2.2.2.2.1 23 _ rfl).1 d_15_11_116 ?_
  obtain ⟨g29, hf⟩ := gif hf
  obtain ⟨g30, hf⟩ := gif hf
  obtain ⟨g31, hf⟩ := gif hf
  obtain ⟨r28, F28, B28, hc28, hf⟩ := gbindN hf
  refine va_calll (va_runS (As := [.ref (aS 23)]) (rest := [.int (iI 0), .ref q27, .ref q27, .ref a]) ⟨hx, hb, hml, hown, hts⟩ (c_MM_code (l := l) hc28) (va_cwS 1 hts (gdS k_10_191 k_10_192 k_1_9 k_10_193) rfl rfl rfl (by decide +kernel) ⟨(Nat.le_of_ble_eq_true rfl), (Nat.le_of_ble_eq_true rfl)⟩) (zxPT X15 hZ27 hS27 [.ref (aS 23)]) rfl rfl hl.1 rfl (lv_room (Nat.le_of_ble_eq_true rfl)) d_15_11_118 ⟨(Nat.le_of_ble_eq_true rfl), (Nat.le_of_ble_eq_true rfl)⟩) hS27 (fun x _ h => zxTin X15 hZ27 hS27 x h) (zxTin X15 hZ27 hS27) (fun p28 u28 t28 H28 locs28 ht28 hv28 hw28 hB28 hz28 hk28 hS28 => ?_)
  have hZ28 := zxtyped hZ27 (zxTin X15 hZ27 hS27) hk28 ht28 hB28
  subst hw28
  replace hZ28 : zHx D ca ad15 lnM K15.2 L15 F28 B28 ((q27, .inl (ca 1, 4, .inr (.inl (zLr (fun _ => 0))))) :: (a, .inr (14, rg 107 g26)) :: Y26) A H28 := hZ28
  clear hZ27 hS27
  refine W.widen (k := 195) (n := 578149) (Nat.le_of_ble_eq_true rfl) (Nat.le_of_ble_eq_true rfl) ?_
  refine zxlast hx hb hK hZ28 hS28 0 1 rfl rfl (by decide) (by decide) (Nat.le_of_ble_eq_true rfl) d_15_11_121 (fun H33 locs33 hZ33 hS33 => ?_)
  replace hZ33 : zHx D ca ad15 lnM K15.2 L15 F28 B28 ((q27, .inl (ca 1, 4, .inr (.inl (zLr (zup (fun _ => 0) 0 r28))))) :: (a, .inr (14, rg 107 g26)) :: Y26) A H33 := hZ33
  clear hZ28 hS28
  refine lv_dup hx hb d_15_11_122 rfl ?_
  refine lv_iconst (v := iI 1) hx hb d_15_11_123 rfl ?_
  refine va_ldcS hx hb hown (hX.2.2.2.2.1 24 _ rfl).1 d_15_11_124 ?_
  obtain ⟨r34, F34, B34, hc34, hf⟩ := gbindN hf
  refine va_calll (va_runS (As := [.ref (aS 24)]) (rest := [.int (iI 1), .ref q27, .ref q27, .ref a]) ⟨hx, hb, hml, hown, hts⟩ (c_MM_code (l := l) hc34) (va_cwS 1 hts (gdS k_10_191 k_10_192 k_1_9 k_10_193) rfl rfl rfl (by decide +kernel) ⟨(Nat.le_of_ble_eq_true rfl), (Nat.le_of_ble_eq_true rfl)⟩) (zxPT X15 hZ33 hS33 [.ref (aS 24)]) rfl rfl hl.1 rfl (lv_room (Nat.le_of_ble_eq_true rfl)) d_15_11_126 ⟨(Nat.le_of_ble_eq_true rfl), (Nat.le_of_ble_eq_true rfl)⟩) hS33 (fun x _ h => zxTin X15 hZ33 hS33 x h) (zxTin X15 hZ33 hS33) (fun p34 u34 t34 H34 locs34 ht34 hv34 hw34 hB34 hz34 hk34 hS34 => ?_)
  have hZ34 := zxtyped hZ33 (zxTin X15 hZ33 hS33) hk34 ht34 hB34
  subst hw34
  replace hZ34 : zHx D ca ad15 lnM K15.2 L15 F34 B34 ((q27, .inl (ca 1, 4, .inr (.inl (zLr (zup (fun _ => 0) 0 r28))))) :: (a, .inr (14, rg 107 g26)) :: Y26) A H34 := hZ34
  clear hZ33 hS33
  refine W.widen (k := 195) (n := 578149) (Nat.le_of_ble_eq_true rfl) (Nat.le_of_ble_eq_true rfl) ?_
  refine zxlast hx hb hK hZ34 hS34 0 1 rfl rfl (by decide) (by decide) (Nat.le_of_ble_eq_true rfl) d_15_11_129 (fun H35 locs35 hZ35 hS35 => ?_)
  replace hZ35 : zHx D ca ad15 lnM K15.2 L15 F34 B34 ((q27, .inl (ca 1, 4, .inr (.inl (zLr (zup (zup (fun _ => 0) 0 r28) 1 r34))))) :: (a, .inr (14, rg 107 g26)) :: Y26) A H35 := hZ35
  clear hZ34 hS34
  refine lv_dup hx hb d_15_11_130 rfl ?_
  refine lv_iconst (v := iI 2) hx hb d_15_11_131 rfl ?_
  refine va_ldcS hx hb hown (hX.2.2.2.2.1 25 _ rfl).1 d_15_11_132 ?_
  obtain ⟨r36, F36, B36, hc36, hf⟩ := gbindN hf
  refine va_calll (va_runS (As := [.ref (aS 25)]) (rest := [.int (iI 2), .ref q27, .ref q27, .ref a]) ⟨hx, hb, hml, hown, hts⟩ (c_MM_code (l := l) hc36) (va_cwS 1 hts (gdS k_10_191 k_10_192 k_1_9 k_10_193) rfl rfl rfl (by decide +kernel) ⟨(Nat.le_of_ble_eq_true rfl), (Nat.le_of_ble_eq_true rfl)⟩) (zxPT X15 hZ35 hS35 [.ref (aS 25)]) rfl rfl hl.1 rfl (lv_room (Nat.le_of_ble_eq_true rfl)) d_15_11_134 ⟨(Nat.le_of_ble_eq_true rfl), (Nat.le_of_ble_eq_true rfl)⟩) hS35 (fun x _ h => zxTin X15 hZ35 hS35 x h) (zxTin X15 hZ35 hS35) (fun p36 u36 t36 H36 locs36 ht36 hv36 hw36 hB36 hz36 hk36 hS36 => ?_)
  have hZ36 := zxtyped hZ35 (zxTin X15 hZ35 hS35) hk36 ht36 hB36
  subst hw36
  replace hZ36 : zHx D ca ad15 lnM K15.2 L15 F36 B36 ((q27, .inl (ca 1, 4, .inr (.inl (zLr (zup (zup (fun _ => 0) 0 r28) 1 r34))))) :: (a, .inr (14, rg 107 g26)) :: Y26) A H36 := hZ36
  clear hZ35 hS35
  refine W.widen (k := 195) (n := 578149) (Nat.le_of_ble_eq_true rfl) (Nat.le_of_ble_eq_true rfl) ?_
  refine zxlast hx hb hK hZ36 hS36 0 1 rfl rfl (by decide) (by decide) (Nat.le_of_ble_eq_true rfl) d_15_11_137 (fun H37 locs37 hZ37 hS37 => ?_)
  replace hZ37 : zHx D ca ad15 lnM K15.2 L15 F36 B36 ((q27, .inl (ca 1, 4, .inr (.inl (zLr (zup (zup (zup (fun _ => 0) 0 r28) 1 r34) 2 r36))))) :: (a, .inr (14, rg 107 g26)) :: Y26) A H37 := hZ37
  clear hZ36 hS36
  refine lv_dup hx hb d_15_11_138 rfl ?_
  refine lv_iconst (v := iI 3) hx hb d_15_11_139 rfl ?_
  refine va_ldcS hx hb hown (hX.2.2.2.2.1 26 _ rfl).1 d_15_11_140 ?_
  obtain ⟨r38, F38, B38, hc38, hf⟩ := gbindN hf
  refine va_calll (va_runS (As := [.ref (aS 26)]) (rest := [.int (iI 3), .ref q27, .ref q27, .ref a]) ⟨hx, hb, hml, hown, hts⟩ (c_MM_code (l := l) hc38) (va_cwS 1 hts (gdS k_10_191 k_10_192 k_1_9 k_10_193) rfl rfl rfl (by decide +kernel) ⟨(Nat.le_of_ble_eq_true rfl), (Nat.le_of_ble_eq_true rfl)⟩) (zxPT X15 hZ37 hS37 [.ref (aS 26)]) rfl rfl hl.1 rfl (lv_room (Nat.le_of_ble_eq_true rfl)) d_15_11_142 ⟨(Nat.le_of_ble_eq_true rfl), (Nat.le_of_ble_eq_true rfl)⟩) hS37 (fun x _ h => zxTin X15 hZ37 hS37 x h) (zxTin X15 hZ37 hS37) (fun p38 u38 t38 H38 locs38 ht38 hv38 hw38 hB38 hz38 hk38 hS38 => ?_)
  have hZ38 := zxtyped hZ37 (zxTin X15 hZ37 hS37) hk38 ht38 hB38
  subst hw38
  replace hZ38 : zHx D ca ad15 lnM K15.2 L15 F38 B38 ((q27, .inl (ca 1, 4, .inr (.inl (zLr (zup (zup (zup (fun _ => 0) 0 r28) 1 r34) 2 r36))))) :: (a, .inr (14, rg 107 g26)) :: Y26) A H38 := hZ38
  clear hZ37 hS37
  refine W.widen (k := 195) (n := 578149) (Nat.le_of_ble_eq_true rfl) (Nat.le_of_ble_eq_true rfl) ?_
  refine zxlast hx hb hK hZ38 hS38 0 1 rfl rfl (by decide) (by decide) (Nat.le_of_ble_eq_true rfl) d_15_11_145 (fun H39 locs39 hZ39 hS39 => ?_)
  replace hZ39 : zHx D ca ad15 lnM K15.2 L15 F38 B38 ((q27, .inl (ca 1, 4, .inr (.inl (zLr (zup (zup (zup (zup (fun _ => 0) 0 r28) 1 r34) 2 r36) 3 r38))))) :: (a, .inr (14, rg 107 g26)) :: Y26) A H39 := hZ39
  clear hZ38 hS38
  obtain ⟨g40, hg40⟩ : ∃ gz : Nat → Value, gz = va_up g26 13 (.ref q27) := ⟨_, rfl⟩
  refine zxputF hx hb hts inW_14 tyX14 tyX14_ok nmX14 hown hK hZ39 hS39 1 rfl rfl (k := 13) (by decide) k_11_11 rfl hnm rfl rfl rfl d_15_11_146 (fun H40 locs40 hZ40 hS40 => ?_)
  rw [← hg40] at hZ40
  obtain ⟨Y40, hY40⟩ : ∃ Yz : va_W, Yz = (q27, .inl (ca 1, 4, .inr (.inl (zLr (zup (zup (zup (zup (fun _ => 0) 0 r28) 1 r34) 2 r36) 3 r38))))) :: Y26 := ⟨_, rfl⟩
  replace hZ40 : zHx D ca ad15 lnM K15.2 L15 F38 B38 ((a, .inr (14, rg 107 g40)) :: (q27, .inl (ca 1, 4, .inr (.inl (zLr (zup (zup (zup (zup (fun _ => 0) 0 r28) 1 r34) 2 r36) 3 r38))))) :: Y26) A H40 := zHx.swp hZ40
  rw [← hY40] at hZ40
  replace hZ40 : zHx D ca ad15 lnM K15.2 L15 F38 B38 ((a, .inr (14, rg 107 g40)) :: Y40) A H40 := hZ40
  clear hZ39 hS39
  refine lv_aload_n hx hb d_15_11_149 rfl (lv_at hl 0 rfl) ?_
  refine lv_bipush (v := iI 8) hx hb d_15_11_150 (by decide) ?_
  refine zxnewa (atype := .long) hx hb hts (ty := .long) rfl k_1_105 hK 1 rfl (fun _ _ => gu_long) hZ40 hS40 hA (a0 := (8, .inr (.inl (zLr (fun _ => 0))))) (fun _ => rfl) (by decide) (N' := 8) (by decide) (Nat.le_of_ble_eq_true rfl) (Nat.le_of_ble_eq_true rfl) (Nat.le_of_ble_eq_true rfl) d_15_11_152 (fun q41 H41 hZ41 hS41 => ?_)
  replace hZ41 := zHx.rot hZ41
  replace hZ41 : zHx D ca ad15 lnM K15.2 L15 F38 B38 ((q41, .inl (ca 1, 8, .inr (.inl (zLr (fun _ => 0))))) :: (a, .inr (14, rg 107 g40)) :: Y40) A H41 := hZ41
  clear hZ40 hS40
  refine W.widen (k := 196) (n := 578157) (Nat.le_of_ble_eq_true rfl) (Nat.le_of_ble_eq_true rfl) ?_
  refine lv_dup hx hb d_15_11_154 rfl ?_
  refine lv_iconst (v := iI 0) hx hb d_15_11_155 rfl ?_
  refine va_ldcS hx hb hown (hX.2.2.2.2.1 27 _ rfl).1 d_15_11_156 ?_
  obtain ⟨r42, F42, B42, hc42, hf⟩ := gbindN hf
  refine va_calll (va_runS (As := [.ref (aS 27)]) (rest := [.int (iI 0), .ref q41, .ref q41, .ref a]) ⟨hx, hb, hml, hown, hts⟩ (c_MM_code (l := l) hc42) (va_cwS 1 hts (gdS k_10_191 k_10_192 k_1_9 k_10_193) rfl rfl rfl (by decide +kernel) ⟨(Nat.le_of_ble_eq_true rfl), (Nat.le_of_ble_eq_true rfl)⟩) (zxPT X15 hZ41 hS41 [.ref (aS 27)]) rfl rfl hl.1 rfl (lv_room (Nat.le_of_ble_eq_true rfl)) d_15_11_158 ⟨(Nat.le_of_ble_eq_true rfl), (Nat.le_of_ble_eq_true rfl)⟩) hS41 (fun x _ h => zxTin X15 hZ41 hS41 x h) (zxTin X15 hZ41 hS41) (fun p42 u42 t42 H42 locs42 ht42 hv42 hw42 hB42 hz42 hk42 hS42 => ?_)
  have hZ42 := zxtyped hZ41 (zxTin X15 hZ41 hS41) hk42 ht42 hB42
  subst hw42
  replace hZ42 : zHx D ca ad15 lnM K15.2 L15 F42 B42 ((q41, .inl (ca 1, 8, .inr (.inl (zLr (fun _ => 0))))) :: (a, .inr (14, rg 107 g40)) :: Y40) A H42 := hZ42
  clear hZ41 hS41
  refine W.widen (k := 196) (n := 578157) (Nat.le_of_ble_eq_true rfl) (Nat.le_of_ble_eq_true rfl) ?_
  refine zxlast hx hb hK hZ42 hS42 0 1 rfl rfl (by decide) (by decide) (Nat.le_of_ble_eq_true rfl) d_15_11_161 (fun H43 locs43 hZ43 hS43 => ?_)
  replace hZ43 : zHx D ca ad15 lnM K15.2 L15 F42 B42 ((q41, .inl (ca 1, 8, .inr (.inl (zLr (zup (fun _ => 0) 0 r42))))) :: (a, .inr (14, rg 107 g40)) :: Y40) A H43 := hZ43
  clear hZ42 hS42
  refine lv_dup hx hb d_15_11_162 rfl ?_
  refine lv_iconst (v := iI 1) hx hb d_15_11_163 rfl ?_
  refine va_ldcS hx hb hown (hX.2.2.2.2.1 28 _ rfl).1 d_15_11_164 ?_
  obtain ⟨r44, F44, B44, hc44, hf⟩ := gbindN hf
  refine va_calll (va_runS (As := [.ref (aS 28)]) (rest := [.int (iI 1), .ref q41, .ref q41, .ref a]) ⟨hx, hb, hml, hown, hts⟩ (c_MM_code (l := l) hc44) (va_cwS 1 hts (gdS k_10_191 k_10_192 k_1_9 k_10_193) rfl rfl rfl (by decide +kernel) ⟨(Nat.le_of_ble_eq_true rfl), (Nat.le_of_ble_eq_true rfl)⟩) (zxPT X15 hZ43 hS43 [.ref (aS 28)]) rfl rfl hl.1 rfl (lv_room (Nat.le_of_ble_eq_true rfl)) d_15_11_166 ⟨(Nat.le_of_ble_eq_true rfl), (Nat.le_of_ble_eq_true rfl)⟩) hS43 (fun x _ h => zxTin X15 hZ43 hS43 x h) (zxTin X15 hZ43 hS43) (fun p44 u44 t44 H44 locs44 ht44 hv44 hw44 hB44 hz44 hk44 hS44 => ?_)
  have hZ44 := zxtyped hZ43 (zxTin X15 hZ43 hS43) hk44 ht44 hB44
  subst hw44
  replace hZ44 : zHx D ca ad15 lnM K15.2 L15 F44 B44 ((q41, .inl (ca 1, 8, .inr (.inl (zLr (zup (fun _ => 0) 0 r42))))) :: (a, .inr (14, rg 107 g40)) :: Y40) A H44 := hZ44
  clear hZ43 hS43
  refine W.widen (k := 196) (n := 578157) (Nat.le_of_ble_eq_true rfl) (Nat.le_of_ble_eq_true rfl) ?_
  refine zxlast hx hb hK hZ44 hS44 0 1 rfl rfl (by decide) (by decide) (Nat.le_of_ble_eq_true rfl) d_15_11_169 (fun H45 locs45 hZ45 hS45 => ?_)
  replace hZ45 : zHx D ca ad15 lnM K15.2 L15 F44 B44 ((q41, .inl (ca 1, 8, .inr (.inl (zLr (zup (zup (fun _ => 0) 0 r42) 1 r44))))) :: (a, .inr (14, rg 107 g40)) :: Y40) A H45 := hZ45
  clear hZ44 hS44
  refine lv_dup hx hb d_15_11_170 rfl ?_
  refine lv_iconst (v := iI 2) hx hb d_15_11_171 rfl ?_
  refine va_ldcS hx hb hown (hX.2.2.2.2.1 29 _ rfl).1 d_15_11_172 ?_
  obtain ⟨r46, F46, B46, hc46, hf⟩ := gbindN hf
  refine va_calll (va_runS (As := [.ref (aS 29)]) (rest := [.int (iI 2), .ref q41, .ref q41, .ref a]) ⟨hx, hb, hml, hown, hts⟩ (c_MM_code (l := l) hc46) (va_cwS 1 hts (gdS k_10_191 k_10_192 k_1_9 k_10_193) rfl rfl rfl (by decide +kernel) ⟨(Nat.le_of_ble_eq_true rfl), (Nat.le_of_ble_eq_true rfl)⟩) (zxPT X15 hZ45 hS45 [.ref (aS 29)]) rfl rfl hl.1 rfl (lv_room (Nat.le_of_ble_eq_true rfl)) d_15_11_174 ⟨(Nat.le_of_ble_eq_true rfl), (Nat.le_of_ble_eq_true rfl)⟩) hS45 (fun x _ h => zxTin X15 hZ45 hS45 x h) (zxTin X15 hZ45 hS45) (fun p46 u46 t46 H46 locs46 ht46 hv46 hw46 hB46 hz46 hk46 hS46 => ?_)
  have hZ46 := zxtyped hZ45 (zxTin X15 hZ45 hS45) hk46 ht46 hB46
  subst hw46
  replace hZ46 : zHx D ca ad15 lnM K15.2 L15 F46 B46 ((q41, .inl (ca 1, 8, .inr (.inl (zLr (zup (zup (fun _ => 0) 0 r42) 1 r44))))) :: (a, .inr (14, rg 107 g40)) :: Y40) A H46 := hZ46
  clear hZ45 hS45
  refine W.widen (k := 196) (n := 578157) (Nat.le_of_ble_eq_true rfl) (Nat.le_of_ble_eq_true rfl) ?_
  refine zxlast hx hb hK hZ46 hS46 0 1 rfl rfl (by decide) (by decide) (Nat.le_of_ble_eq_true rfl) d_15_11_177 (fun H47 locs47 hZ47 hS47 => ?_)
  replace hZ47 : zHx D ca ad15 lnM K15.2 L15 F46 B46 ((q41, .inl (ca 1, 8, .inr (.inl (zLr (zup (zup (zup (fun _ => 0) 0 r42) 1 r44) 2 r46))))) :: (a, .inr (14, rg 107 g40)) :: Y40) A H47 := hZ47
  clear hZ46 hS46
  refine lv_dup hx hb d_15_11_178 rfl ?_
  refine lv_iconst (v := iI 3) hx hb d_15_11_179 rfl ?_
  refine va_ldcS hx hb hown (hX.2.2.2.2.1 30 _ rfl).1 d_15_11_180 ?_
  obtain ⟨r48, F48, B48, hc48, hf⟩ := gbindN hf
  refine va_calll (va_runS (As := [.ref (aS 30)]) (rest := [.int (iI 3), .ref q41, .ref q41, .ref a]) ⟨hx, hb, hml, hown, hts⟩ (c_MM_code (l := l) hc48) (va_cwS 1 hts (gdS k_10_191 k_10_192 k_1_9 k_10_193) rfl rfl rfl (by decide +kernel) ⟨(Nat.le_of_ble_eq_true rfl), (Nat.le_of_ble_eq_true rfl)⟩) (zxPT X15 hZ47 hS47 [.ref (aS 30)]) rfl rfl hl.1 rfl (lv_room (Nat.le_of_ble_eq_true rfl)) d_15_11_182 ⟨(Nat.le_of_ble_eq_true rfl), (Nat.le_of_ble_eq_true rfl)⟩) hS47 (fun x _ h => zxTin X15 hZ47 hS47 x h) (zxTin X15 hZ47 hS47) (fun p48 u48 t48 H48 locs48 ht48 hv48 hw48 hB48 hz48 hk48 hS48 => ?_)
  have hZ48 := zxtyped hZ47 (zxTin X15 hZ47 hS47) hk48 ht48 hB48
  subst hw48
  replace hZ48 : zHx D ca ad15 lnM K15.2 L15 F48 B48 ((q41, .inl (ca 1, 8, .inr (.inl (zLr (zup (zup (zup (fun _ => 0) 0 r42) 1 r44) 2 r46))))) :: (a, .inr (14, rg 107 g40)) :: Y40) A H48 := hZ48
  clear hZ47 hS47
  refine W.widen (k := 196) (n := 578157) (Nat.le_of_ble_eq_true rfl) (Nat.le_of_ble_eq_true rfl) ?_
  refine zxlast hx hb hK hZ48 hS48 0 1 rfl rfl (by decide) (by decide) (Nat.le_of_ble_eq_true rfl) d_15_11_185 (fun H49 locs49 hZ49 hS49 => ?_)
  replace hZ49 : zHx D ca ad15 lnM K15.2 L15 F48 B48 ((q41, .inl (ca 1, 8, .inr (.inl (zLr (zup (zup (zup (zup (fun _ => 0) 0 r42) 1 r44) 2 r46) 3 r48))))) :: (a, .inr (14, rg 107 g40)) :: Y40) A H49 := hZ49
  clear hZ48 hS48
  refine lv_dup hx hb d_15_11_186 rfl ?_
  refine lv_iconst (v := iI 4) hx hb d_15_11_187 rfl ?_
  refine va_ldcS hx hb hown (hX.2.2.2.2.1 31 _ rfl).1 d_15_11_188 ?_
  obtain ⟨r50, F50, B50, hc50, hf⟩ := gbindN hf
  refine va_calll (va_runS (As := [.ref (aS 31)]) (rest := [.int (iI 4), .ref q41, .ref q41, .ref a]) ⟨hx, hb, hml, hown, hts⟩ (c_MM_code (l := l) hc50) (va_cwS 1 hts (gdS k_10_191 k_10_192 k_1_9 k_10_193) rfl rfl rfl (by decide +kernel) ⟨(Nat.le_of_ble_eq_true rfl), (Nat.le_of_ble_eq_true rfl)⟩) (zxPT X15 hZ49 hS49 [.ref (aS 31)]) rfl rfl hl.1 rfl (lv_room (Nat.le_of_ble_eq_true rfl)) d_15_11_190 ⟨(Nat.le_of_ble_eq_true rfl), (Nat.le_of_ble_eq_true rfl)⟩) hS49 (fun x _ h => zxTin X15 hZ49 hS49 x h) (zxTin X15 hZ49 hS49) (fun p50 u50 t50 H50 locs50 ht50 hv50 hw50 hB50 hz50 hk50 hS50 => ?_)
  have hZ50 := zxtyped hZ49 (zxTin X15 hZ49 hS49) hk50 ht50 hB50
  subst hw50
  replace hZ50 : zHx D ca ad15 lnM K15.2 L15 F50 B50 ((q41, .inl (ca 1, 8, .inr (.inl (zLr (zup (zup (zup (zup (fun _ => 0) 0 r42) 1 r44) 2 r46) 3 r48))))) :: (a, .inr (14, rg 107 g40)) :: Y40) A H50 := hZ50
  clear hZ49 hS49
  refine W.widen (k := 196) (n := 578157) (Nat.le_of_ble_eq_true rfl) (Nat.le_of_ble_eq_true rfl) ?_
  refine zxlast hx hb hK hZ50 hS50 0 1 rfl rfl (by decide) (by decide) (Nat.le_of_ble_eq_true rfl) d_15_11_193 (fun H51 locs51 hZ51 hS51 => ?_)
  replace hZ51 : zHx D ca ad15 lnM K15.2 L15 F50 B50 ((q41, .inl (ca 1, 8, .inr (.inl (zLr (zup (zup (zup (zup (zup (fun _ => 0) 0 r42) 1 r44) 2 r46) 3 r48) 4 r50))))) :: (a, .inr (14, rg 107 g40)) :: Y40) A H51 := hZ51
  clear hZ50 hS50
  refine lv_dup hx hb d_15_11_194 rfl ?_
  refine lv_iconst (v := iI 5) hx hb d_15_11_195 rfl ?_
  refine va_ldcS hx hb hown (hX.2.2.2.2.1 32 _ rfl).1 d_15_11_196 ?_
  obtain ⟨r52, F52, B52, hc52, hf⟩ := gbindN hf
  refine va_calll (va_runS (As := [.ref (aS 32)]) (rest := [.int (iI 5), .ref q41, .ref q41, .ref a]) ⟨hx, hb, hml, hown, hts⟩ (c_MM_code (l := l) hc52) (va_cwS 1 hts (gdS k_10_191 k_10_192 k_1_9 k_10_193) rfl rfl rfl (by decide +kernel) ⟨(Nat.le_of_ble_eq_true rfl), (Nat.le_of_ble_eq_true rfl)⟩) (zxPT X15 hZ51 hS51 [.ref (aS 32)]) rfl rfl hl.1 rfl (lv_room (Nat.le_of_ble_eq_true rfl)) d_15_11_198 ⟨(Nat.le_of_ble_eq_true rfl), (Nat.le_of_ble_eq_true rfl)⟩) hS51 (fun x _ h => zxTin X15 hZ51 hS51 x h) (zxTin X15 hZ51 hS51) (fun p52 u52 t52 H52 locs52 ht52 hv52 hw52 hB52 hz52 hk52 hS52 => ?_)
  have hZ52 := zxtyped hZ51 (zxTin X15 hZ51 hS51) hk52 ht52 hB52
  subst hw52
  replace hZ52 : zHx D ca ad15 lnM K15.2 L15 F52 B52 ((q41, .inl (ca 1, 8, .inr (.inl (zLr (zup (zup (zup (zup (zup (fun _ => 0) 0 r42) 1 r44) 2 r46) 3 r48) 4 r50))))) :: (a, .inr (14, rg 107 g40)) :: Y40) A H52 := hZ52
  clear hZ51 hS51
  refine W.widen (k := 196) (n := 578157) (Nat.le_of_ble_eq_true rfl) (Nat.le_of_ble_eq_true rfl) ?_
  refine zxlast hx hb hK hZ52 hS52 0 1 rfl rfl (by decide) (by decide) (Nat.le_of_ble_eq_true rfl) d_15_11_201 (fun H53 locs53 hZ53 hS53 => ?_)
  replace hZ53 : zHx D ca ad15 lnM K15.2 L15 F52 B52 ((q41, .inl (ca 1, 8, .inr (.inl (zLr (zup (zup (zup (zup (zup (zup (fun _ => 0) 0 r42) 1 r44) 2 r46) 3 r48) 4 r50) 5 r52))))) :: (a, .inr (14, rg 107 g40)) :: Y40) A H53 := hZ53
  clear hZ52 hS52
  refine lv_dup hx hb d_15_11_202 rfl ?_
  refine lv_bipush (v := iI 6) hx hb d_15_11_203 (by decide) ?_
  refine va_ldcS hx hb hown (hX.2.2.2.2.1 33 _ rfl).1 d_15_11_205 ?_
  obtain ⟨r54, F54, B54, hc54, hf⟩ := gbindN hf
  refine va_calll (va_runS (As := [.ref (aS 33)]) (rest := [.int (iI 6), .ref q41, .ref q41, .ref a]) ⟨hx, hb, hml, hown, hts⟩ (c_MM_code (l := l) hc54) (va_cwS 1 hts (gdS k_10_191 k_10_192 k_1_9 k_10_193) rfl rfl rfl (by decide +kernel) ⟨(Nat.le_of_ble_eq_true rfl), (Nat.le_of_ble_eq_true rfl)⟩) (zxPT X15 hZ53 hS53 [.ref (aS 33)]) rfl rfl hl.1 rfl (lv_room (Nat.le_of_ble_eq_true rfl)) d_15_11_207 ⟨(Nat.le_of_ble_eq_true rfl), (Nat.le_of_ble_eq_true rfl)⟩) hS53 (fun x _ h => zxTin X15 hZ53 hS53 x h) (zxTin X15 hZ53 hS53) (fun p54 u54 t54 H54 locs54 ht54 hv54 hw54 hB54 hz54 hk54 hS54 => ?_)
  have hZ54 := zxtyped hZ53 (zxTin X15 hZ53 hS53) hk54 ht54 hB54
  subst hw54
  replace hZ54 : zHx D ca ad15 lnM K15.2 L15 F54 B54 ((q41, .inl (ca 1, 8, .inr (.inl (zLr (zup (zup (zup (zup (zup (zup (fun _ => 0) 0 r42) 1 r44) 2 r46) 3 r48) 4 r50) 5 r52))))) :: (a, .inr (14, rg 107 g40)) :: Y40) A H54 := hZ54
  clear hZ53 hS53
  refine W.widen (k := 196) (n := 578157) (Nat.le_of_ble_eq_true rfl) (Nat.le_of_ble_eq_true rfl) ?_
  refine zxlast hx hb hK hZ54 hS54 0 1 rfl rfl (by decide) (by decide) (Nat.le_of_ble_eq_true rfl) d_15_11_210 (fun H55 locs55 hZ55 hS55 => ?_)
  replace hZ55 : zHx D ca ad15 lnM K15.2 L15 F54 B54 ((q41, .inl (ca 1, 8, .inr (.inl (zLr (zup (zup (zup (zup (zup (zup (zup (fun _ => 0) 0 r42) 1 r44) 2 r46) 3 r48) 4 r50) 5 r52) 6 r54))))) :: (a, .inr (14, rg 107 g40)) :: Y40) A H55 := hZ55
  clear hZ54 hS54
  refine lv_dup hx hb d_15_11_211 rfl ?_
  refine lv_bipush (v := iI 7) hx hb d_15_11_212 (by decide) ?_
  refine va_ldcS hx hb hown (hX.2.2.2.2.1 34 _ rfl).1 d_15_11_214 ?_
  obtain ⟨r56, F56, B56, hc56, hf⟩ := gbindN hf
  refine va_calll (va_runS (As := [.ref (aS 34)]) (rest := [.int (iI 7), .ref q41, .ref q41, .ref a]) ⟨hx, hb, hml, hown, hts⟩ (c_MM_code (l := l) hc56) (va_cwS 1 hts (gdS k_10_191 k_10_192 k_1_9 k_10_193) rfl rfl rfl (by decide +kernel) ⟨(Nat.le_of_ble_eq_true rfl), (Nat.le_of_ble_eq_true rfl)⟩) (zxPT X15 hZ55 hS55 [.ref (aS 34)]) rfl rfl hl.1 rfl (lv_room (Nat.le_of_ble_eq_true rfl)) d_15_11_216 ⟨(Nat.le_of_ble_eq_true rfl), (Nat.le_of_ble_eq_true rfl)⟩) hS55 (fun x _ h => zxTin X15 hZ55 hS55 x h) (zxTin X15 hZ55 hS55) (fun p56 u56 t56 H56 locs56 ht56 hv56 hw56 hB56 hz56 hk56 hS56 => ?_)
  have hZ56 := zxtyped hZ55 (zxTin X15 hZ55 hS55) hk56 ht56 hB56
  subst hw56
  replace hZ56 : zHx D ca ad15 lnM K15.2 L15 F56 B56 ((q41, .inl (ca 1, 8, .inr (.inl (zLr (zup (zup (zup (zup (zup (zup (zup (fun _ => 0) 0 r42) 1 r44) 2 r46) 3 r48) 4 r50) 5 r52) 6 r54))))) :: (a, .inr (14, rg 107 g40)) :: Y40) A H56 := hZ56
  clear hZ55 hS55
  refine W.widen (k := 196) (n := 578157) (Nat.le_of_ble_eq_true rfl) (Nat.le_of_ble_eq_true rfl) ?_
  refine zxlast hx hb hK hZ56 hS56 0 1 rfl rfl (by decide) (by decide) (Nat.le_of_ble_eq_true rfl) d_15_11_219 (fun H57 locs57 hZ57 hS57 => ?_)
  replace hZ57 : zHx D ca ad15 lnM K15.2 L15 F56 B56 ((q41, .inl (ca 1, 8, .inr (.inl (zLr (zup (zup (zup (zup (zup (zup (zup (zup (fun _ => 0) 0 r42) 1 r44) 2 r46) 3 r48) 4 r50) 5 r52) 6 r54) 7 r56))))) :: (a, .inr (14, rg 107 g40)) :: Y40) A H57 := hZ57
  clear hZ56 hS56
  obtain ⟨g58, hg58⟩ : ∃ gz : Nat → Value, gz = va_up g40 14 (.ref q41) := ⟨_, rfl⟩
  refine zxputF hx hb hts inW_14 tyX14 tyX14_ok nmX14 hown hK hZ57 hS57 1 rfl rfl (k := 14) (by decide) k_11_12 rfl hnm rfl rfl rfl d_15_11_220 (fun H58 locs58 hZ58 hS58 => ?_)
  rw [← hg58] at hZ58
  obtain ⟨Y58, hY58⟩ : ∃ Yz : va_W, Yz = (q41, .inl (ca 1, 8, .inr (.inl (zLr (zup (zup (zup (zup (zup (zup (zup (zup (fun _ => 0) 0 r42) 1 r44) 2 r46) 3 r48) 4 r50) 5 r52) 6 r54) 7 r56))))) :: Y40 := ⟨_, rfl⟩
  replace hZ58 : zHx D ca ad15 lnM K15.2 L15 F56 B56 ((a, .inr (14, rg 107 g58)) :: (q41, .inl (ca 1, 8, .inr (.inl (zLr (zup (zup (zup (zup (zup (zup (zup (zup (fun _ => 0) 0 r42) 1 r44) 2 r46) 3 r48) 4 r50) 5 r52) 6 r54) 7 r56))))) :: Y40) A H58 := zHx.swp hZ58
  rw [← hY58] at hZ58
  replace hZ58 : zHx D ca ad15 lnM K15.2 L15 F56 B56 ((a, .inr (14, rg 107 g58)) :: Y58) A H58 := hZ58
  clear hZ57 hS57
  refine lv_aload_n hx hb d_15_11_223 rfl (lv_at hl 0 rfl) ?_
  refine lv_bipush (v := iI 15) hx hb d_15_11_224 (by decide) ?_
  refine zxnewa (atype := .long) hx hb hts (ty := .long) rfl k_1_105 hK 1 rfl (fun _ _ => gu_long) hZ58 hS58 hA (a0 := (15, .inr (.inl (zLr (fun _ => 0))))) (fun _ => rfl) (by decide) (N' := 15) (by decide) (Nat.le_of_ble_eq_true rfl) (Nat.le_of_ble_eq_true rfl) (Nat.le_of_ble_eq_true rfl) d_15_11_226 (fun q59 H59 hZ59 hS59 => ?_)
  replace hZ59 := zHx.rot hZ59
  replace hZ59 : zHx D ca ad15 lnM K15.2 L15 F56 B56 ((q59, .inl (ca 1, 15, .inr (.inl (zLr (fun _ => 0))))) :: (a, .inr (14, rg 107 g58)) :: Y58) A H59 := hZ59
  clear hZ58 hS58
  refine W.widen (k := 197) (n := 578172) (Nat.le_of_ble_eq_true rfl) (Nat.le_of_ble_eq_true rfl) ?_
  refine lv_dup hx hb d_15_11_228 rfl ?_
  refine lv_iconst (v := iI 0) hx hb d_15_11_229 rfl ?_
  refine va_gets hx hb (hX.2.2.2.1 _ (List.mem_of_getElem? (i := 1) rfl) :) hS59 hown (hts _ k_10_207) (fun _ h => h) d_15_11_230 ?_
  refine W.eq (g2 := F0 m 233 ls [.long (lI 7038329), .int (iI 0), .ref q59, .ref q59, .ref a]) rfl ?_
  refine zxlast hx hb hK hZ59 hS59 0 1 rfl rfl (by decide) (by decide) (Nat.le_of_ble_eq_true rfl) d_15_11_233 (fun H60 locs60 hZ60 hS60 => ?_)
  replace hZ60 : zHx D ca ad15 lnM K15.2 L15 F56 B56 ((q59, .inl (ca 1, 15, .inr (.inl (zLr (zup (fun _ => 0) 0 7038329))))) :: (a, .inr (14, rg 107 g58)) :: Y58) A H60 := hZ60
  clear hZ59 hS59
  refine lv_dup hx hb d_15_11_234 rfl ?_
  refine lv_iconst (v := iI 1) hx hb d_15_11_235 rfl ?_
  refine va_gets hx hb (hX.2.2.2.1 _ (List.mem_of_getElem? (i := 2) rfl) :) hS60 hown (hts _ k_10_209) (fun _ h => h) d_15_11_236 ?_
  refine W.eq (g2 := F0 m 239 ls [.long (lI 469785800562), .int (iI 1), .ref q59, .ref q59, .ref a]) rfl ?_
  refine zxlast hx hb hK hZ60 hS60 0 1 rfl rfl (by decide) (by decide) (Nat.le_of_ble_eq_true rfl) d_15_11_239 (fun H61 locs61 hZ61 hS61 => ?_)
  replace hZ61 : zHx D ca ad15 lnM K15.2 L15 F56 B56 ((q59, .inl (ca 1, 15, .inr (.inl (zLr (zup (zup (fun _ => 0) 0 7038329) 1 469785800562))))) :: (a, .inr (14, rg 107 g58)) :: Y58) A H61 := hZ61
  clear hZ60 hS60
  refine lv_dup hx hb d_15_11_240 rfl ?_
  refine lv_iconst (v := iI 2) hx hb d_15_11_241 rfl ?_
  refine va_gets hx hb (hX.2.2.2.1 _ (List.mem_of_getElem? (i := 3) rfl) :) hS61 hown (hts _ k_10_211) (fun _ h => h) d_15_11_242 ?_
  refine W.eq (g2 := F0 m 245 ls [.long (lI 469920280434), .int (iI 2), .ref q59, .ref q59, .ref a]) rfl ?_
  refine zxlast hx hb hK hZ61 hS61 0 1 rfl rfl (by decide) (by decide) (Nat.le_of_ble_eq_true rfl) d_15_11_245 (fun H62 locs62 hZ62 hS62 => ?_)
  replace hZ62 : zHx D ca ad15 lnM K15.2 L15 F56 B56 ((q59, .inl (ca 1, 15, .inr (.inl (zLr (zup (zup (zup (fun _ => 0) 0 7038329) 1 469785800562) 2 469920280434))))) :: (a, .inr (14, rg 107 g58)) :: Y58) A H62 := hZ62
  clear hZ61 hS61
  refine lv_dup hx hb d_15_11_246 rfl ?_
  refine lv_iconst (v := iI 3) hx hb d_15_11_247 rfl ?_
  refine va_gets hx hb (hX.2.2.2.1 _ (List.mem_of_getElem? (i := 4) rfl) :) hS62 hown (hts _ k_10_213) (fun _ h => h) d_15_11_248 ?_
  refine W.eq (g2 := F0 m 251 ls [.long (lI 1953066341), .int (iI 3), .ref q59, .ref q59, .ref a]) rfl ?_
  refine zxlast hx hb hK hZ62 hS62 0 1 rfl rfl (by decide) (by decide) (Nat.le_of_ble_eq_true rfl) d_15_11_251 (fun H63 locs63 hZ63 hS63 => ?_)
  replace hZ63 : zHx D ca ad15 lnM K15.2 L15 F56 B56 ((q59, .inl (ca 1, 15, .inr (.inl (zLr (zup (zup (zup (zup (fun _ => 0) 0 7038329) 1 469785800562) 2 469920280434) 3 1953066341))))) :: (a, .inr (14, rg 107 g58)) :: Y58) A H63 := hZ63
  clear hZ62 hS62
  refine lv_dup hx hb d_15_11_252 rfl ?_
  refine lv_iconst (v := iI 4) hx hb d_15_11_253 rfl ?_
  refine va_gets hx hb (hX.2.2.2.1 _ (List.mem_of_getElem? (i := 5) rfl) :) hS63 hown (hts _ k_10_215) (fun _ h => h) d_15_11_254 ?_
  refine W.eq (g2 := F0 m 257 ls [.long (lI 499917877359), .int (iI 4), .ref q59, .ref q59, .ref a]) rfl ?_
  refine zxlast hx hb hK hZ63 hS63 0 1 rfl rfl (by decide) (by decide) (Nat.le_of_ble_eq_true rfl) d_15_11_257 (fun H65 locs65 hZ65 hS65 => ?_)
  replace hZ65 : zHx D ca ad15 lnM K15.2 L15 F56 B56 ((q59, .inl (ca 1, 15, .inr (.inl (zLr (zup (zup (zup (zup (zup (fun _ => 0) 0 7038329) 1 469785800562) 2 469920280434) 3 1953066341) 4 499917877359))))) :: (a, .inr (14, rg 107 g58)) :: Y58) A H65 := hZ65
  clear hZ63 hS63
  refine lv_dup hx hb d_15_11_258 rfl ?_
  refine lv_iconst (v := iI 5) hx hb d_15_11_259 rfl ?_
  refine va_gets hx hb (hX.2.2.2.1 _ (List.mem_of_getElem? (i := 6) rfl) :) hS65 hown (hts _ k_10_217) (fun _ h => h) d_15_11_260 ?_
  refine W.eq (g2 := F0 m 263 ls [.long (lI 7103860), .int (iI 5), .ref q59, .ref q59, .ref a]) rfl ?_
  refine zxlast hx hb hK hZ65 hS65 0 1 rfl rfl (by decide) (by decide) (Nat.le_of_ble_eq_true rfl) d_15_11_263 (fun H66 locs66 hZ66 hS66 => ?_)
  replace hZ66 : zHx D ca ad15 lnM K15.2 L15 F56 B56 ((q59, .inl (ca 1, 15, .inr (.inl (zLr (zup (zup (zup (zup (zup (zup (fun _ => 0) 0 7038329) 1 469785800562) 2 469920280434) 3 1953066341) 4 499917877359) 5 7103860))))) :: (a, .inr (14, rg 107 g58)) :: Y58) A H66 := hZ66
  clear hZ65 hS65
  refine lv_dup hx hb d_15_11_264 rfl ?_
  refine lv_bipush (v := iI 6) hx hb d_15_11_265 (by decide) ?_
  refine va_gets hx hb (hX.2.2.2.1 _ (List.mem_of_getElem? (i := 7) rfl) :) hS66 hown (hts _ k_10_219) (fun _ h => h) d_15_11_267 ?_
  refine W.eq (g2 := F0 m 270 ls [.long (lI 508675318629), .int (iI 6), .ref q59, .ref q59, .ref a]) rfl ?_
  refine zxlast hx hb hK hZ66 hS66 0 1 rfl rfl (by decide) (by decide) (Nat.le_of_ble_eq_true rfl) d_15_11_270 (fun H67 locs67 hZ67 hS67 => ?_)
  replace hZ67 : zHx D ca ad15 lnM K15.2 L15 F56 B56 ((q59, .inl (ca 1, 15, .inr (.inl (zLr (zup (zup (zup (zup (zup (zup (zup (fun _ => 0) 0 7038329) 1 469785800562) 2 469920280434) 3 1953066341) 4 499917877359) 5 7103860) 6 508675318629))))) :: (a, .inr (14, rg 107 g58)) :: Y58) A H67 := hZ67
  clear hZ66 hS66
  refine lv_dup hx hb d_15_11_271 rfl ?_
  refine lv_bipush (v := iI 7) hx hb d_15_11_272 (by decide) ?_
  refine va_gets hx hb (hX.2.2.2.1 _ (List.mem_of_getElem? (i := 8) rfl) :) hS67 hown (hts _ k_10_221) (fun _ h => h) d_15_11_274 ?_
  refine W.eq (g2 := F0 m 277 ls [.long (lI 125780002955636), .int (iI 7), .ref q59, .ref q59, .ref a]) rfl ?_
  refine zxlast hx hb hK hZ67 hS67 0 1 rfl rfl (by decide) (by decide) (Nat.le_of_ble_eq_true rfl) d_15_11_277 (fun H68 locs68 hZ68 hS68 => ?_)
  replace hZ68 : zHx D ca ad15 lnM K15.2 L15 F56 B56 ((q59, .inl (ca 1, 15, .inr (.inl (zLr (zup (zup (zup (zup (zup (zup (zup (zup (fun _ => 0) 0 7038329) 1 469785800562) 2 469920280434) 3 1953066341) 4 499917877359) 5 7103860) 6 508675318629) 7 125780002955636))))) :: (a, .inr (14, rg 107 g58)) :: Y58) A H68 := hZ68
  clear hZ67 hS67
  refine lv_dup hx hb d_15_11_278 rfl ?_
  refine lv_bipush (v := iI 8) hx hb d_15_11_279 (by decide) ?_
  refine va_gets hx hb (hX.2.2.2.1 _ (List.mem_of_getElem? (i := 9) rfl) :) hS68 hown (hts _ k_10_223) (fun _ h => h) d_15_11_281 ?_
  refine W.eq (g2 := F0 m 284 ls [.long (lI 6384756), .int (iI 8), .ref q59, .ref q59, .ref a]) rfl ?_
  refine zxlast hx hb hK hZ68 hS68 0 1 rfl rfl (by decide) (by decide) (Nat.le_of_ble_eq_true rfl) d_15_11_284 (fun H69 locs69 hZ69 hS69 => ?_)
  replace hZ69 : zHx D ca ad15 lnM K15.2 L15 F56 B56 ((q59, .inl (ca 1, 15, .inr (.inl (zLr (zup (zup (zup (zup (zup (zup (zup (zup (zup (fun _ => 0) 0 7038329) 1 469785800562) 2 469920280434) 3 1953066341) 4 499917877359) 5 7103860) 6 508675318629) 7 125780002955636) 8 6384756))))) :: (a, .inr (14, rg 107 g58)) :: Y58) A H69 := hZ69
  clear hZ68 hS68
  refine lv_dup hx hb d_15_11_285 rfl ?_
  refine lv_bipush (v := iI 9) hx hb d_15_11_286 (by decide) ?_
  refine va_gets hx hb (hX.2.2.2.1 _ (List.mem_of_getElem? (i := 10) rfl) :) hS69 hown (hts _ k_10_225) (fun _ h => h) d_15_11_288 ?_
  refine W.eq (g2 := F0 m 291 ls [.long (lI 7697253), .int (iI 9), .ref q59, .ref q59, .ref a]) rfl ?_
  refine zxlast hx hb hK hZ69 hS69 0 1 rfl rfl (by decide) (by decide) (Nat.le_of_ble_eq_true rfl) d_15_11_291 (fun H70 locs70 hZ70 hS70 => ?_)
  replace hZ70 : zHx D ca ad15 lnM K15.2 L15 F56 B56 ((q59, .inl (ca 1, 15, .inr (.inl (zLr (zup (zup (zup (zup (zup (zup (zup (zup (zup (zup (fun _ => 0) 0 7038329) 1 469785800562) 2 469920280434) 3 1953066341) 4 499917877359) 5 7103860) 6 508675318629) 7 125780002955636) 8 6384756) 9 7697253))))) :: (a, .inr (14, rg 107 g58)) :: Y58) A H70 := hZ70
  clear hZ69 hS69
  refine lv_dup hx hb d_15_11_292 rfl ?_
  refine lv_bipush (v := iI 10) hx hb d_15_11_293 (by decide) ?_
  refine va_gets hx hb (hX.2.2.2.1 _ (List.mem_of_getElem? (i := 11) rfl) :) hS70 hown (hts _ k_10_227) (fun _ h => h) d_15_11_295 ?_
  refine W.eq (g2 := F0 m 298 ls [.long (lI 1836021349), .int (iI 10), .ref q59, .ref q59, .ref a]) rfl ?_
  refine zxlast hx hb hK hZ70 hS70 0 1 rfl rfl (by decide) (by decide) (Nat.le_of_ble_eq_true rfl) d_15_11_298 (fun H71 locs71 hZ71 hS71 => ?_)
  replace hZ71 : zHx D ca ad15 lnM K15.2 L15 F56 B56 ((q59, .inl (ca 1, 15, .inr (.inl (zLr (zup (zup (zup (zup (zup (zup (zup (zup (zup (zup (zup (fun _ => 0) 0 7038329) 1 469785800562) 2 469920280434) 3 1953066341) 4 499917877359) 5 7103860) 6 508675318629) 7 125780002955636) 8 6384756) 9 7697253) 10 1836021349))))) :: (a, .inr (14, rg 107 g58)) :: Y58) A H71 := hZ71
  clear hZ70 hS70
  refine lv_dup hx hb d_15_11_299 rfl ?_
  refine lv_bipush (v := iI 11) hx hb d_15_11_300 (by decide) ?_
  refine va_gets hx hb (hX.2.2.2.1 _ (List.mem_of_getElem? (i := 12) rfl) :) hS71 hown (hts _ k_10_229) (fun _ h => h) d_15_11_302 ?_
  refine W.eq (g2 := F0 m 305 ls [.long (lI 120299659095922), .int (iI 11), .ref q59, .ref q59, .ref a]) rfl ?_
  refine zxlast hx hb hK hZ71 hS71 0 1 rfl rfl (by decide) (by decide) (Nat.le_of_ble_eq_true rfl) d_15_11_305 (fun H72 locs72 hZ72 hS72 => ?_)
  replace hZ72 : zHx D ca ad15 lnM K15.2 L15 F56 B56 ((q59, .inl (ca 1, 15, .inr (.inl (zLr (zup (zup (zup (zup (zup (zup (zup (zup (zup (zup (zup (zup (fun _ => 0) 0 7038329) 1 469785800562) 2 469920280434) 3 1953066341) 4 499917877359) 5 7103860) 6 508675318629) 7 125780002955636) 8 6384756) 9 7697253) 10 1836021349) 11 120299659095922))))) :: (a, .inr (14, rg 107 g58)) :: Y58) A H72 := hZ72
  clear hZ71 hS71
  refine lv_dup hx hb d_15_11_306 rfl ?_
  refine lv_bipush (v := iI 12) hx hb d_15_11_307 (by decide) ?_
  refine va_gets hx hb (hX.2.2.2.1 _ (List.mem_of_getElem? (i := 13) rfl) :) hS72 hown (hts _ k_10_231) (fun _ h => h) d_15_11_309 ?_
  refine W.eq (g2 := F0 m 312 ls [.long (lI 1650549611), .int (iI 12), .ref q59, .ref q59, .ref a]) rfl ?_
  refine zxlast hx hb hK hZ72 hS72 0 1 rfl rfl (by decide) (by decide) (Nat.le_of_ble_eq_true rfl) d_15_11_312 (fun H73 locs73 hZ73 hS73 => ?_)
  replace hZ73 : zHx D ca ad15 lnM K15.2 L15 F56 B56 ((q59, .inl (ca 1, 15, .inr (.inl (zLr (zup (zup (zup (zup (zup (zup (zup (zup (zup (zup (zup (zup (zup (fun _ => 0) 0 7038329) 1 469785800562) 2 469920280434) 3 1953066341) 4 499917877359) 5 7103860) 6 508675318629) 7 125780002955636) 8 6384756) 9 7697253) 10 1836021349) 11 120299659095922) 12 1650549611))))) :: (a, .inr (14, rg 107 g58)) :: Y58) A H73 := hZ73
  clear hZ72 hS72
  refine lv_dup hx hb d_15_11_313 rfl ?_
  refine lv_bipush (v := iI 13) hx hb d_15_11_314 (by decide) ?_
  refine va_gets hx hb (hX.2.2.2.1 _ (List.mem_of_getElem? (i := 14) rfl) :) hS73 hown (hts _ k_10_233) (fun _ h => h) d_15_11_316 ?_
  refine W.eq (g2 := F0 m 319 ls [.long (lI 1936486263), .int (iI 13), .ref q59, .ref q59, .ref a]) rfl ?_
  refine zxlast hx hb hK hZ73 hS73 0 1 rfl rfl (by decide) (by decide) (Nat.le_of_ble_eq_true rfl) d_15_11_319 (fun H74 locs74 hZ74 hS74 => ?_)
  replace hZ74 : zHx D ca ad15 lnM K15.2 L15 F56 B56 ((q59, .inl (ca 1, 15, .inr (.inl (zLr (zup (zup (zup (zup (zup (zup (zup (zup (zup (zup (zup (zup (zup (zup (fun _ => 0) 0 7038329) 1 469785800562) 2 469920280434) 3 1953066341) 4 499917877359) 5 7103860) 6 508675318629) 7 125780002955636) 8 6384756) 9 7697253) 10 1836021349) 11 120299659095922) 12 1650549611) 13 1936486263))))) :: (a, .inr (14, rg 107 g58)) :: Y58) A H74 := hZ74
  clear hZ73 hS73
  refine lv_dup hx hb d_15_11_320 rfl ?_
  refine lv_bipush (v := iI 14) hx hb d_15_11_321 (by decide) ?_
  refine va_gets hx hb (hX.2.2.2.1 _ (List.mem_of_getElem? (i := 15) rfl) :) hS74 hown (hts _ k_10_235) (fun _ h => h) d_15_11_323 ?_
  refine W.eq (g2 := F0 m 326 ls [.long (lI 114), .int (iI 14), .ref q59, .ref q59, .ref a]) rfl ?_
  refine zxlast hx hb hK hZ74 hS74 0 1 rfl rfl (by decide) (by decide) (Nat.le_of_ble_eq_true rfl) d_15_11_326 (fun H75 locs75 hZ75 hS75 => ?_)
  replace hZ75 : zHx D ca ad15 lnM K15.2 L15 F56 B56 ((q59, .inl (ca 1, 15, .inr (.inl (zLr (zup (zup (zup (zup (zup (zup (zup (zup (zup (zup (zup (zup (zup (zup (zup (fun _ => 0) 0 7038329) 1 469785800562) 2 469920280434) 3 1953066341) 4 499917877359) 5 7103860) 6 508675318629) 7 125780002955636) 8 6384756) 9 7697253) 10 1836021349) 11 120299659095922) 12 1650549611) 13 1936486263) 14 114))))) :: (a, .inr (14, rg 107 g58)) :: Y58) A H75 := hZ75
  clear hZ74 hS74
  obtain ⟨g76, hg76⟩ : ∃ gz : Nat → Value, gz = va_up g58 15 (.ref q59) := ⟨_, rfl⟩
  refine zxputF hx hb hts inW_14 tyX14 tyX14_ok nmX14 hown hK hZ75 hS75 1 rfl rfl (k := 15) (by decide) k_11_13 rfl hnm rfl rfl rfl d_15_11_327 (fun H76 locs76 hZ76 hS76 => ?_)
  rw [← hg76] at hZ76
  obtain ⟨Y76, hY76⟩ : ∃ Yz : va_W, Yz = (q59, .inl (ca 1, 15, .inr (.inl (zLr (zup (zup (zup (zup (zup (zup (zup (zup (zup (zup (zup (zup (zup (zup (zup (fun _ => 0) 0 7038329) 1 469785800562) 2 469920280434) 3 1953066341) 4 499917877359) 5 7103860) 6 508675318629) 7 125780002955636) 8 6384756) 9 7697253) 10 1836021349) 11 120299659095922) 12 1650549611) 13 1936486263) 14 114))))) :: Y58 := ⟨_, rfl⟩
  replace hZ76 : zHx D ca ad15 lnM K15.2 L15 F56 B56 ((a, .inr (14, rg 107 g76)) :: (q59, .inl (ca 1, 15, .inr (.inl (zLr (zup (zup (zup (zup (zup (zup (zup (zup (zup (zup (zup (zup (zup (zup (zup (fun _ => 0) 0 7038329) 1 469785800562) 2 469920280434) 3 1953066341) 4 499917877359) 5 7103860) 6 508675318629) 7 125780002955636) 8 6384756) 9 7697253) 10 1836021349) 11 120299659095922) 12 1650549611) 13 1936486263) 14 114))))) :: Y58) A H76 := zHx.swp hZ76
  rw [← hY76] at hZ76
  replace hZ76 : zHx D ca ad15 lnM K15.2 L15 F56 B56 ((a, .inr (14, rg 107 g76)) :: Y76) A H76 := hZ76
  clear hZ75 hS75
  refine lv_aload_n hx hb d_15_11_330 rfl (lv_at hl 0 rfl) ?_
  refine lv_bipush (v := iI 6) hx hb d_15_11_331 (by decide) ?_
  refine zxnewa (atype := .long) hx hb hts (ty := .long) rfl k_1_105 hK 1 rfl (fun _ _ => gu_long) hZ76 hS76 hA (a0 := (6, .inr (.inl (zLr (fun _ => 0))))) (fun _ => rfl) (by decide) (N' := 6) (by decide) (Nat.le_of_ble_eq_true rfl) (Nat.le_of_ble_eq_true rfl) (Nat.le_of_ble_eq_true rfl) d_15_11_333 (fun q77 H77 hZ77 hS77 => ?_)
  replace hZ77 := zHx.rot hZ77
  replace hZ77 : zHx D ca ad15 lnM K15.2 L15 F56 B56 ((q77, .inl (ca 1, 6, .inr (.inl (zLr (fun _ => 0))))) :: (a, .inr (14, rg 107 g76)) :: Y76) A H77 := hZ77
  clear hZ76 hS76
  refine W.widen (k := 198) (n := 578178) (Nat.le_of_ble_eq_true rfl) (Nat.le_of_ble_eq_true rfl) ?_
  obtain ⟨g78, hg78⟩ : ∃ gz : Nat → Value, gz = va_up g76 25 (.ref q77) := ⟨_, rfl⟩
  refine zxputF hx hb hts inW_14 tyX14 tyX14_ok nmX14 hown hK hZ77 hS77 1 rfl rfl (k := 25) (by decide) k_11_23 rfl hnm rfl rfl rfl d_15_11_335 (fun H78 locs78 hZ78 hS78 => ?_)
  rw [← hg78] at hZ78
  obtain ⟨Y78, hY78⟩ : ∃ Yz : va_W, Yz = (q77, .inl (ca 1, 6, .inr (.inl (zLr (fun _ => 0))))) :: Y76 := ⟨_, rfl⟩
  replace hZ78 : zHx D ca ad15 lnM K15.2 L15 F56 B56 ((a, .inr (14, rg 107 g78)) :: (q77, .inl (ca 1, 6, .inr (.inl (zLr (fun _ => 0))))) :: Y76) A H78 := zHx.swp hZ78
  rw [← hY78] at hZ78
  replace hZ78 : zHx D ca ad15 lnM K15.2 L15 F56 B56 ((a, .inr (14, rg 107 g78)) :: Y78) A H78 := hZ78
  clear hZ77 hS77
  refine lv_aload_n hx hb d_15_11_338 rfl (lv_at hl 0 rfl) ?_
  refine lv_bipush (v := iI 6) hx hb d_15_11_339 (by decide) ?_
  refine zxnewa (atype := .int) hx hb hts (ty := .int) rfl k_1_57 hK 0 rfl (fun _ _ => gu_int) hZ78 hS78 hA (a0 := (6, .inl (zAr (fun _ => 0)))) (fun _ => rfl) (by decide) (N' := 6) (by decide) (Nat.le_of_ble_eq_true rfl) (Nat.le_of_ble_eq_true rfl) (Nat.le_of_ble_eq_true rfl) d_15_11_341 (fun q79 H79 hZ79 hS79 => ?_)
  replace hZ79 := zHx.rot hZ79
  replace hZ79 : zHx D ca ad15 lnM K15.2 L15 F56 B56 ((q79, .inl (ca 0, 6, .inl (zAr (fun _ => 0)))) :: (a, .inr (14, rg 107 g78)) :: Y78) A H79 := hZ79
  clear hZ78 hS78
  refine W.widen (k := 199) (n := 578184) (Nat.le_of_ble_eq_true rfl) (Nat.le_of_ble_eq_true rfl) ?_
  obtain ⟨g80, hg80⟩ : ∃ gz : Nat → Value, gz = va_up g78 26 (.ref q79) := ⟨_, rfl⟩
  refine zxputF hx hb hts inW_14 tyX14 tyX14_ok nmX14 hown hK hZ79 hS79 1 rfl rfl (k := 26) (by decide) k_11_24 rfl hnm rfl rfl rfl d_15_11_343 (fun H80 locs80 hZ80 hS80 => ?_)
  rw [← hg80] at hZ80
  obtain ⟨Y80, hY80⟩ : ∃ Yz : va_W, Yz = (q79, .inl (ca 0, 6, .inl (zAr (fun _ => 0)))) :: Y78 := ⟨_, rfl⟩
  replace hZ80 : zHx D ca ad15 lnM K15.2 L15 F56 B56 ((a, .inr (14, rg 107 g80)) :: (q79, .inl (ca 0, 6, .inl (zAr (fun _ => 0)))) :: Y78) A H80 := zHx.swp hZ80
  rw [← hY80] at hZ80
  replace hZ80 : zHx D ca ad15 lnM K15.2 L15 F56 B56 ((a, .inr (14, rg 107 g80)) :: Y80) A H80 := hZ80
  clear hZ79 hS79
  refine lv_aload_n hx hb d_15_11_346 rfl (lv_at hl 0 rfl) ?_
  refine lv_iconst (v := iI 4) hx hb d_15_11_347 rfl ?_
  refine zxnewa (atype := .int) hx hb hts (ty := .int) rfl k_1_57 hK 0 rfl (fun _ _ => gu_int) hZ80 hS80 hA (a0 := (4, .inl (zAr (fun _ => 0)))) (fun _ => rfl) (by decide) (N' := 4) (by decide) (Nat.le_of_ble_eq_true rfl) (Nat.le_of_ble_eq_true rfl) (Nat.le_of_ble_eq_true rfl) d_15_11_348 (fun q81 H81 hZ81 hS81 => ?_)
  replace hZ81 := zHx.rot hZ81
  replace hZ81 : zHx D ca ad15 lnM K15.2 L15 F56 B56 ((q81, .inl (ca 0, 4, .inl (zAr (fun _ => 0)))) :: (a, .inr (14, rg 107 g80)) :: Y80) A H81 := hZ81
  clear hZ80 hS80
  refine W.widen (k := 200) (n := 578188) (Nat.le_of_ble_eq_true rfl) (Nat.le_of_ble_eq_true rfl) ?_
  obtain ⟨g82, hg82⟩ : ∃ gz : Nat → Value, gz = va_up g80 28 (.ref q81) := ⟨_, rfl⟩
  refine zxputF hx hb hts inW_14 tyX14 tyX14_ok nmX14 hown hK hZ81 hS81 1 rfl rfl (k := 28) (by decide) k_11_26 rfl hnm rfl rfl rfl d_15_11_350 (fun H82 locs82 hZ82 hS82 => ?_)
  rw [← hg82] at hZ82
  obtain ⟨Y82, hY82⟩ : ∃ Yz : va_W, Yz = (q81, .inl (ca 0, 4, .inl (zAr (fun _ => 0)))) :: Y80 := ⟨_, rfl⟩
  replace hZ82 : zHx D ca ad15 lnM K15.2 L15 F56 B56 ((a, .inr (14, rg 107 g82)) :: (q81, .inl (ca 0, 4, .inl (zAr (fun _ => 0)))) :: Y80) A H82 := zHx.swp hZ82
  rw [← hY82] at hZ82
  replace hZ82 : zHx D ca ad15 lnM K15.2 L15 F56 B56 ((a, .inr (14, rg 107 g82)) :: Y82) A H82 := hZ82
  clear hZ81 hS81
  refine lv_aload_n hx hb d_15_11_353 rfl (lv_at hl 0 rfl) ?_
  refine lv_iconst (v := iI 4) hx hb d_15_11_354 rfl ?_
  refine zxnewa (atype := .int) hx hb hts (ty := .int) rfl k_1_57 hK 0 rfl (fun _ _ => gu_int) hZ82 hS82 hA (a0 := (4, .inl (zAr (fun _ => 0)))) (fun _ => rfl) (by decide) (N' := 4) (by decide) (Nat.le_of_ble_eq_true rfl) (Nat.le_of_ble_eq_true rfl) (Nat.le_of_ble_eq_true rfl) d_15_11_355 (fun q83 H83 hZ83 hS83 => ?_)
  replace hZ83 := zHx.rot hZ83
  replace hZ83 : zHx D ca ad15 lnM K15.2 L15 F56 B56 ((q83, .inl (ca 0, 4, .inl (zAr (fun _ => 0)))) :: (a, .inr (14, rg 107 g82)) :: Y82) A H83 := hZ83
  clear hZ82 hS82
  refine W.widen (k := 201) (n := 578192) (Nat.le_of_ble_eq_true rfl) (Nat.le_of_ble_eq_true rfl) ?_
  obtain ⟨g84, hg84⟩ : ∃ gz : Nat → Value, gz = va_up g82 29 (.ref q83) := ⟨_, rfl⟩
  refine zxputF hx hb hts inW_14 tyX14 tyX14_ok nmX14 hown hK hZ83 hS83 1 rfl rfl (k := 29) (by decide) k_11_27 rfl hnm rfl rfl rfl d_15_11_357 (fun H84 locs84 hZ84 hS84 => ?_)
  rw [← hg84] at hZ84
  obtain ⟨Y84, hY84⟩ : ∃ Yz : va_W, Yz = (q83, .inl (ca 0, 4, .inl (zAr (fun _ => 0)))) :: Y82 := ⟨_, rfl⟩
  replace hZ84 : zHx D ca ad15 lnM K15.2 L15 F56 B56 ((a, .inr (14, rg 107 g84)) :: (q83, .inl (ca 0, 4, .inl (zAr (fun _ => 0)))) :: Y82) A H84 := zHx.swp hZ84
  rw [← hY84] at hZ84
  replace hZ84 : zHx D ca ad15 lnM K15.2 L15 F56 B56 ((a, .inr (14, rg 107 g84)) :: Y84) A H84 := hZ84
  clear hZ83 hS83
  refine lv_aload_n hx hb d_15_11_360 rfl (lv_at hl 0 rfl) ?_
  refine lv_sipush (v := iI 3001) hx hb d_15_11_361 (by decide) ?_
  refine zxnewa (atype := .int) hx hb hts (ty := .int) rfl k_1_57 hK 0 rfl (fun _ _ => gu_int) hZ84 hS84 hA (a0 := (3001, .inl (zAr (fun _ => 0)))) (fun _ => rfl) (by decide) (N' := 3001) (by decide) (Nat.le_of_ble_eq_true rfl) (Nat.le_of_ble_eq_true rfl) (Nat.le_of_ble_eq_true rfl) d_15_11_364 (fun q85 H85 hZ85 hS85 => ?_)
  replace hZ85 := zHx.rot hZ85
  replace hZ85 : zHx D ca ad15 lnM K15.2 L15 F56 B56 ((q85, .inl (ca 0, 3001, .inl (zAr (fun _ => 0)))) :: (a, .inr (14, rg 107 g84)) :: Y84) A H85 := hZ85
  clear hZ84 hS84
  refine W.widen (k := 202) (n := 581193) (Nat.le_of_ble_eq_true rfl) (Nat.le_of_ble_eq_true rfl) ?_
  obtain ⟨g86, hg86⟩ : ∃ gz : Nat → Value, gz = va_up g84 30 (.ref q85) := ⟨_, rfl⟩
  refine zxputF hx hb hts inW_14 tyX14 tyX14_ok nmX14 hown hK hZ85 hS85 1 rfl rfl (k := 30) (by decide) k_11_28 rfl hnm rfl rfl rfl d_15_11_366 (fun H86 locs86 hZ86 hS86 => ?_)
  rw [← hg86] at hZ86
  obtain ⟨Y86, hY86⟩ : ∃ Yz : va_W, Yz = (q85, .inl (ca 0, 3001, .inl (zAr (fun _ => 0)))) :: Y84 := ⟨_, rfl⟩
  replace hZ86 : zHx D ca ad15 lnM K15.2 L15 F56 B56 ((a, .inr (14, rg 107 g86)) :: (q85, .inl (ca 0, 3001, .inl (zAr (fun _ => 0)))) :: Y84) A H86 := zHx.swp hZ86
  rw [← hY86] at hZ86
  replace hZ86 : zHx D ca ad15 lnM K15.2 L15 F56 B56 ((a, .inr (14, rg 107 g86)) :: Y86) A H86 := hZ86
  clear hZ85 hS85
  refine lv_aload_n hx hb d_15_11_369 rfl (lv_at hl 0 rfl) ?_
  refine lv_sipush (v := iI 3001) hx hb d_15_11_370 (by decide) ?_
  refine zxnewa (atype := .int) hx hb hts (ty := .int) rfl k_1_57 hK 0 rfl (fun _ _ => gu_int) hZ86 hS86 hA (a0 := (3001, .inl (zAr (fun _ => 0)))) (fun _ => rfl) (by decide) (N' := 3001) (by decide) (Nat.le_of_ble_eq_true rfl) (Nat.le_of_ble_eq_true rfl) (Nat.le_of_ble_eq_true rfl) d_15_11_373 (fun q87 H87 hZ87 hS87 => ?_)
  replace hZ87 := zHx.rot hZ87
  replace hZ87 : zHx D ca ad15 lnM K15.2 L15 F56 B56 ((q87, .inl (ca 0, 3001, .inl (zAr (fun _ => 0)))) :: (a, .inr (14, rg 107 g86)) :: Y86) A H87 := hZ87
  clear hZ86 hS86
  refine W.widen (k := 203) (n := 584194) (Nat.le_of_ble_eq_true rfl) (Nat.le_of_ble_eq_true rfl) ?_
  obtain ⟨g88, hg88⟩ : ∃ gz : Nat → Value, gz = va_up g86 31 (.ref q87) := ⟨_, rfl⟩
  refine zxputF hx hb hts inW_14 tyX14 tyX14_ok nmX14 hown hK hZ87 hS87 1 rfl rfl (k := 31) (by decide) k_11_29 rfl hnm rfl rfl rfl d_15_11_375 (fun H88 locs88 hZ88 hS88 => ?_)
  rw [← hg88] at hZ88
  obtain ⟨Y88, hY88⟩ : ∃ Yz : va_W, Yz = (q87, .inl (ca 0, 3001, .inl (zAr (fun _ => 0)))) :: Y86 := ⟨_, rfl⟩
  replace hZ88 : zHx D ca ad15 lnM K15.2 L15 F56 B56 ((a, .inr (14, rg 107 g88)) :: (q87, .inl (ca 0, 3001, .inl (zAr (fun _ => 0)))) :: Y86) A H88 := zHx.swp hZ88
  rw [← hY88] at hZ88
  replace hZ88 : zHx D ca ad15 lnM K15.2 L15 F56 B56 ((a, .inr (14, rg 107 g88)) :: Y88) A H88 := hZ88
  clear hZ87 hS87
  refine lv_aload_n hx hb d_15_11_378 rfl (lv_at hl 0 rfl) ?_
  refine lv_sipush (v := iI 3001) hx hb d_15_11_379 (by decide) ?_
  refine zxnewa (atype := .int) hx hb hts (ty := .int) rfl k_1_57 hK 0 rfl (fun _ _ => gu_int) hZ88 hS88 hA (a0 := (3001, .inl (zAr (fun _ => 0)))) (fun _ => rfl) (by decide) (N' := 3001) (by decide) (Nat.le_of_ble_eq_true rfl) (Nat.le_of_ble_eq_true rfl) (Nat.le_of_ble_eq_true rfl) d_15_11_382 (fun q89 H89 hZ89 hS89 => ?_)
  replace hZ89 := zHx.rot hZ89
  replace hZ89 : zHx D ca ad15 lnM K15.2 L15 F56 B56 ((q89, .inl (ca 0, 3001, .inl (zAr (fun _ => 0)))) :: (a, .inr (14, rg 107 g88)) :: Y88) A H89 := hZ89
  clear hZ88 hS88
  refine W.widen (k := 204) (n := 587195) (Nat.le_of_ble_eq_true rfl) (Nat.le_of_ble_eq_true rfl) ?_
  obtain ⟨g90, hg90⟩ : ∃ gz : Nat → Value, gz = va_up g88 32 (.ref q89) := ⟨_, rfl⟩
  refine zxputF hx hb hts inW_14 tyX14 tyX14_ok nmX14 hown hK hZ89 hS89 1 rfl rfl (k := 32) (by decide) k_11_30 rfl hnm rfl rfl rfl d_15_11_384 (fun H90 locs90 hZ90 hS90 => ?_)
  rw [← hg90] at hZ90
  obtain ⟨Y90, hY90⟩ : ∃ Yz : va_W, Yz = (q89, .inl (ca 0, 3001, .inl (zAr (fun _ => 0)))) :: Y88 := ⟨_, rfl⟩
  replace hZ90 : zHx D ca ad15 lnM K15.2 L15 F56 B56 ((a, .inr (14, rg 107 g90)) :: (q89, .inl (ca 0, 3001, .inl (zAr (fun _ => 0)))) :: Y88) A H90 := zHx.swp hZ90
  rw [← hY90] at hZ90
  replace hZ90 : zHx D ca ad15 lnM K15.2 L15 F56 B56 ((a, .inr (14, rg 107 g90)) :: Y90) A H90 := hZ90
  clear hZ89 hS89
  refine lv_aload_n hx hb d_15_11_387 rfl (lv_at hl 0 rfl) ?_
  refine lv_sipush (v := iI 3001) hx hb d_15_11_388 (by decide) ?_
  refine zxnewa (atype := .int) hx hb hts (ty := .int) rfl k_1_57 hK 0 rfl (fun _ _ => gu_int) hZ90 hS90 hA (a0 := (3001, .inl (zAr (fun _ => 0)))) (fun _ => rfl) (by decide) (N' := 3001) (by decide) (Nat.le_of_ble_eq_true rfl) (Nat.le_of_ble_eq_true rfl) (Nat.le_of_ble_eq_true rfl) d_15_11_391 (fun q91 H91 hZ91 hS91 => ?_)
  replace hZ91 := zHx.rot hZ91
  replace hZ91 : zHx D ca ad15 lnM K15.2 L15 F56 B56 ((q91, .inl (ca 0, 3001, .inl (zAr (fun _ => 0)))) :: (a, .inr (14, rg 107 g90)) :: Y90) A H91 := hZ91
  clear hZ90 hS90
  refine W.widen (k := 205) (n := 590196) (Nat.le_of_ble_eq_true rfl) (Nat.le_of_ble_eq_true rfl) ?_
  obtain ⟨g92, hg92⟩ : ∃ gz : Nat → Value, gz = va_up g90 33 (.ref q91) := ⟨_, rfl⟩
  refine zxputF hx hb hts inW_14 tyX14 tyX14_ok nmX14 hown hK hZ91 hS91 1 rfl rfl (k := 33) (by decide) k_11_31 rfl hnm rfl rfl rfl d_15_11_393 (fun H92 locs92 hZ92 hS92 => ?_)
  rw [← hg92] at hZ92
  obtain ⟨Y92, hY92⟩ : ∃ Yz : va_W, Yz = (q91, .inl (ca 0, 3001, .inl (zAr (fun _ => 0)))) :: Y90 := ⟨_, rfl⟩
  replace hZ92 : zHx D ca ad15 lnM K15.2 L15 F56 B56 ((a, .inr (14, rg 107 g92)) :: (q91, .inl (ca 0, 3001, .inl (zAr (fun _ => 0)))) :: Y90) A H92 := zHx.swp hZ92
  rw [← hY92] at hZ92
  replace hZ92 : zHx D ca ad15 lnM K15.2 L15 F56 B56 ((a, .inr (14, rg 107 g92)) :: Y92) A H92 := hZ92
  clear hZ91 hS91
  refine lv_aload_n hx hb d_15_11_396 rfl (lv_at hl 0 rfl) ?_
  refine lv_sipush (v := iI 3001) hx hb d_15_11_397 (by decide) ?_
  refine zxnewa (atype := .int) hx hb hts (ty := .int) rfl k_1_57 hK 0 rfl (fun _ _ => gu_int) hZ92 hS92 hA (a0 := (3001, .inl (zAr (fun _ => 0)))) (fun _ => rfl) (by decide) (N' := 3001) (by decide) (Nat.le_of_ble_eq_true rfl) (Nat.le_of_ble_eq_true rfl) (Nat.le_of_ble_eq_true rfl) d_15_11_400 (fun q93 H93 hZ93 hS93 => ?_)
  replace hZ93 := zHx.rot hZ93
  replace hZ93 : zHx D ca ad15 lnM K15.2 L15 F56 B56 ((q93, .inl (ca 0, 3001, .inl (zAr (fun _ => 0)))) :: (a, .inr (14, rg 107 g92)) :: Y92) A H93 := hZ93
  clear hZ92 hS92
  refine W.widen (k := 206) (n := 593197) (Nat.le_of_ble_eq_true rfl) (Nat.le_of_ble_eq_true rfl) ?_
  obtain ⟨g94, hg94⟩ : ∃ gz : Nat → Value, gz = va_up g92 34 (.ref q93) := ⟨_, rfl⟩
  refine zxputF hx hb hts inW_14 tyX14 tyX14_ok nmX14 hown hK hZ93 hS93 1 rfl rfl (k := 34) (by decide) k_11_32 rfl hnm rfl rfl rfl d_15_11_402 (fun H94 locs94 hZ94 hS94 => ?_)
  rw [← hg94] at hZ94
  obtain ⟨Y94, hY94⟩ : ∃ Yz : va_W, Yz = (q93, .inl (ca 0, 3001, .inl (zAr (fun _ => 0)))) :: Y92 := ⟨_, rfl⟩
  replace hZ94 : zHx D ca ad15 lnM K15.2 L15 F56 B56 ((a, .inr (14, rg 107 g94)) :: (q93, .inl (ca 0, 3001, .inl (zAr (fun _ => 0)))) :: Y92) A H94 := zHx.swp hZ94
  rw [← hY94] at hZ94
  replace hZ94 : zHx D ca ad15 lnM K15.2 L15 F56 B56 ((a, .inr (14, rg 107 g94)) :: Y94) A H94 := hZ94
  clear hZ93 hS93
  refine lv_aload_n hx hb d_15_11_405 rfl (lv_at hl 0 rfl) ?_
  refine lv_bipush (v := iI 100) hx hb d_15_11_406 (by decide) ?_
  refine zxnewa (atype := .boolean) hx hb hts (ty := .boolean) rfl k_2_126 hK 3 rfl (fun _ _ => gu_bool) hZ94 hS94 hA (a0 := (100, .inl (zAr (fun _ => 0)))) (fun _ => rfl) (by decide) (N' := 100) (by decide) (Nat.le_of_ble_eq_true rfl) (Nat.le_of_ble_eq_true rfl) (Nat.le_of_ble_eq_true rfl) d_15_11_408 (fun q95 H95 hZ95 hS95 => ?_)
  replace hZ95 := zHx.rot hZ95
  replace hZ95 : zHx D ca ad15 lnM K15.2 L15 F56 B56 ((q95, .inl (ca 3, 100, .inl (zAr (fun _ => 0)))) :: (a, .inr (14, rg 107 g94)) :: Y94) A H95 := hZ95
  clear hZ94 hS94
  refine W.widen (k := 207) (n := 593297) (Nat.le_of_ble_eq_true rfl) (Nat.le_of_ble_eq_true rfl) ?_
  obtain ⟨g96, hg96⟩ : ∃ gz : Nat → Value, gz = va_up g94 42 (.ref q95) := ⟨_, rfl⟩
  refine zxputF hx hb hts inW_14 tyX14 tyX14_ok nmX14 hown hK hZ95 hS95 1 rfl rfl (k := 42) (by decide) k_11_40 rfl hnm rfl rfl rfl d_15_11_410 (fun H96 locs96 hZ96 hS96 => ?_)
  rw [← hg96] at hZ96
  obtain ⟨Y96, hY96⟩ : ∃ Yz : va_W, Yz = (q95, .inl (ca 3, 100, .inl (zAr (fun _ => 0)))) :: Y94 := ⟨_, rfl⟩
  replace hZ96 : zHx D ca ad15 lnM K15.2 L15 F56 B56 ((a, .inr (14, rg 107 g96)) :: (q95, .inl (ca 3, 100, .inl (zAr (fun _ => 0)))) :: Y94) A H96 := zHx.swp hZ96
  rw [← hY96] at hZ96
  replace hZ96 : zHx D ca ad15 lnM K15.2 L15 F56 B56 ((a, .inr (14, rg 107 g96)) :: Y96) A H96 := hZ96
  clear hZ95 hS95
  refine lv_aload_n hx hb d_15_11_413 rfl (lv_at hl 0 rfl) ?_
  refine lv_bipush (v := iI 100) hx hb d_15_11_414 (by decide) ?_
  refine zxnewa (atype := .int) hx hb hts (ty := .int) rfl k_1_57 hK 0 rfl (fun _ _ => gu_int) hZ96 hS96 hA (a0 := (100, .inl (zAr (fun _ => 0)))) (fun _ => rfl) (by decide) (N' := 100) (by decide) (Nat.le_of_ble_eq_true rfl) (Nat.le_of_ble_eq_true rfl) (Nat.le_of_ble_eq_true rfl) d_15_11_416 (fun q97 H97 hZ97 hS97 => ?_)
  replace hZ97 := zHx.rot hZ97
  replace hZ97 : zHx D ca ad15 lnM K15.2 L15 F56 B56 ((q97, .inl (ca 0, 100, .inl (zAr (fun _ => 0)))) :: (a, .inr (14, rg 107 g96)) :: Y96) A H97 := hZ97
  clear hZ96 hS96
  refine W.widen (k := 208) (n := 593397) (Nat.le_of_ble_eq_true rfl) (Nat.le_of_ble_eq_true rfl) ?_
  obtain ⟨g98, hg98⟩ : ∃ gz : Nat → Value, gz = va_up g96 43 (.ref q97) := ⟨_, rfl⟩
  refine zxputF hx hb hts inW_14 tyX14 tyX14_ok nmX14 hown hK hZ97 hS97 1 rfl rfl (k := 43) (by decide) k_11_41 rfl hnm rfl rfl rfl d_15_11_418 (fun H98 locs98 hZ98 hS98 => ?_)
  rw [← hg98] at hZ98
  obtain ⟨Y98, hY98⟩ : ∃ Yz : va_W, Yz = (q97, .inl (ca 0, 100, .inl (zAr (fun _ => 0)))) :: Y96 := ⟨_, rfl⟩
  replace hZ98 : zHx D ca ad15 lnM K15.2 L15 F56 B56 ((a, .inr (14, rg 107 g98)) :: (q97, .inl (ca 0, 100, .inl (zAr (fun _ => 0)))) :: Y96) A H98 := zHx.swp hZ98
  rw [← hY98] at hZ98
  replace hZ98 : zHx D ca ad15 lnM K15.2 L15 F56 B56 ((a, .inr (14, rg 107 g98)) :: Y98) A H98 := hZ98
  clear hZ97 hS97
  refine lv_aload_n hx hb d_15_11_421 rfl (lv_at hl 0 rfl) ?_
  refine lv_bipush (v := iI 100) hx hb d_15_11_422 (by decide) ?_
  refine zxnewa (atype := .int) hx hb hts (ty := .int) rfl k_1_57 hK 0 rfl (fun _ _ => gu_int) hZ98 hS98 hA (a0 := (100, .inl (zAr (fun _ => 0)))) (fun _ => rfl) (by decide) (N' := 100) (by decide) (Nat.le_of_ble_eq_true rfl) (Nat.le_of_ble_eq_true rfl) (Nat.le_of_ble_eq_true rfl) d_15_11_424 (fun q99 H99 hZ99 hS99 => ?_)
  replace hZ99 := zHx.rot hZ99
  replace hZ99 : zHx D ca ad15 lnM K15.2 L15 F56 B56 ((q99, .inl (ca 0, 100, .inl (zAr (fun _ => 0)))) :: (a, .inr (14, rg 107 g98)) :: Y98) A H99 := hZ99
  clear hZ98 hS98
  refine W.widen (k := 209) (n := 593497) (Nat.le_of_ble_eq_true rfl) (Nat.le_of_ble_eq_true rfl) ?_
  obtain ⟨g100, hg100⟩ : ∃ gz : Nat → Value, gz = va_up g98 44 (.ref q99) := ⟨_, rfl⟩
  refine zxputF hx hb hts inW_14 tyX14 tyX14_ok nmX14 hown hK hZ99 hS99 1 rfl rfl (k := 44) (by decide) k_11_42 rfl hnm rfl rfl rfl d_15_11_426 (fun H100 locs100 hZ100 hS100 => ?_)
  rw [← hg100] at hZ100
  obtain ⟨Y100, hY100⟩ : ∃ Yz : va_W, Yz = (q99, .inl (ca 0, 100, .inl (zAr (fun _ => 0)))) :: Y98 := ⟨_, rfl⟩
  replace hZ100 : zHx D ca ad15 lnM K15.2 L15 F56 B56 ((a, .inr (14, rg 107 g100)) :: (q99, .inl (ca 0, 100, .inl (zAr (fun _ => 0)))) :: Y98) A H100 := zHx.swp hZ100
  rw [← hY100] at hZ100
  replace hZ100 : zHx D ca ad15 lnM K15.2 L15 F56 B56 ((a, .inr (14, rg 107 g100)) :: Y100) A H100 := hZ100
  clear hZ99 hS99
  refine lv_aload_n hx hb d_15_11_429 rfl (lv_at hl 0 rfl) ?_
  refine lv_bipush (v := iI 100) hx hb d_15_11_430 (by decide) ?_
  refine zxnewa (atype := .int) hx hb hts (ty := .int) rfl k_1_57 hK 0 rfl (fun _ _ => gu_int) hZ100 hS100 hA (a0 := (100, .inl (zAr (fun _ => 0)))) (fun _ => rfl) (by decide) (N' := 100) (by decide) (Nat.le_of_ble_eq_true rfl) (Nat.le_of_ble_eq_true rfl) (Nat.le_of_ble_eq_true rfl) d_15_11_432 (fun q101 H101 hZ101 hS101 => ?_)
  replace hZ101 := zHx.rot hZ101
  replace hZ101 : zHx D ca ad15 lnM K15.2 L15 F56 B56 ((q101, .inl (ca 0, 100, .inl (zAr (fun _ => 0)))) :: (a, .inr (14, rg 107 g100)) :: Y100) A H101 := hZ101
  clear hZ100 hS100
  refine W.widen (k := 210) (n := 593597) (Nat.le_of_ble_eq_true rfl) (Nat.le_of_ble_eq_true rfl) ?_
  obtain ⟨g102, hg102⟩ : ∃ gz : Nat → Value, gz = va_up g100 46 (.ref q101) := ⟨_, rfl⟩
  refine zxputF hx hb hts inW_14 tyX14 tyX14_ok nmX14 hown hK hZ101 hS101 1 rfl rfl (k := 46) (by decide) k_11_44 rfl hnm rfl rfl rfl d_15_11_434 (fun H102 locs102 hZ102 hS102 => ?_)
  rw [← hg102] at hZ102
  obtain ⟨Y102, hY102⟩ : ∃ Yz : va_W, Yz = (q101, .inl (ca 0, 100, .inl (zAr (fun _ => 0)))) :: Y100 := ⟨_, rfl⟩
  replace hZ102 : zHx D ca ad15 lnM K15.2 L15 F56 B56 ((a, .inr (14, rg 107 g102)) :: (q101, .inl (ca 0, 100, .inl (zAr (fun _ => 0)))) :: Y100) A H102 := zHx.swp hZ102
  rw [← hY102] at hZ102
  replace hZ102 : zHx D ca ad15 lnM K15.2 L15 F56 B56 ((a, .inr (14, rg 107 g102)) :: Y102) A H102 := hZ102
  clear hZ101 hS101
  refine lv_aload_n hx hb d_15_11_437 rfl (lv_at hl 0 rfl) ?_
  refine lv_bipush (v := iI 100) hx hb d_15_11_438 (by decide) ?_
  refine zxnewa (atype := .int) hx hb hts (ty := .int) rfl k_1_57 hK 0 rfl (fun _ _ => gu_int) hZ102 hS102 hA (a0 := (100, .inl (zAr (fun _ => 0)))) (fun _ => rfl) (by decide) (N' := 100) (by decide) (Nat.le_of_ble_eq_true rfl) (Nat.le_of_ble_eq_true rfl) (Nat.le_of_ble_eq_true rfl) d_15_11_440 (fun q103 H103 hZ103 hS103 => ?_)
  replace hZ103 := zHx.rot hZ103
  replace hZ103 : zHx D ca ad15 lnM K15.2 L15 F56 B56 ((q103, .inl (ca 0, 100, .inl (zAr (fun _ => 0)))) :: (a, .inr (14, rg 107 g102)) :: Y102) A H103 := hZ103
  clear hZ102 hS102
  refine W.widen (k := 211) (n := 593697) (Nat.le_of_ble_eq_true rfl) (Nat.le_of_ble_eq_true rfl) ?_
  obtain ⟨g104, hg104⟩ : ∃ gz : Nat → Value, gz = va_up g102 47 (.ref q103) := ⟨_, rfl⟩
  refine zxputF hx hb hts inW_14 tyX14 tyX14_ok nmX14 hown hK hZ103 hS103 1 rfl rfl (k := 47) (by decide) k_11_45 rfl hnm rfl rfl rfl d_15_11_442 (fun H104 locs104 hZ104 hS104 => ?_)
  rw [← hg104] at hZ104
  obtain ⟨Y104, hY104⟩ : ∃ Yz : va_W, Yz = (q103, .inl (ca 0, 100, .inl (zAr (fun _ => 0)))) :: Y102 := ⟨_, rfl⟩
  replace hZ104 : zHx D ca ad15 lnM K15.2 L15 F56 B56 ((a, .inr (14, rg 107 g104)) :: (q103, .inl (ca 0, 100, .inl (zAr (fun _ => 0)))) :: Y102) A H104 := zHx.swp hZ104
  rw [← hY104] at hZ104
  replace hZ104 : zHx D ca ad15 lnM K15.2 L15 F56 B56 ((a, .inr (14, rg 107 g104)) :: Y104) A H104 := hZ104
  clear hZ103 hS103
  refine lv_aload_n hx hb d_15_11_445 rfl (lv_at hl 0 rfl) ?_
  refine lv_bipush (v := iI 8) hx hb d_15_11_446 (by decide) ?_
  refine zxnewa (atype := .int) hx hb hts (ty := .int) rfl k_1_57 hK 0 rfl (fun _ _ => gu_int) hZ104 hS104 hA (a0 := (8, .inl (zAr (fun _ => 0)))) (fun _ => rfl) (by decide) (N' := 8) (by decide) (Nat.le_of_ble_eq_true rfl) (Nat.le_of_ble_eq_true rfl) (Nat.le_of_ble_eq_true rfl) d_15_11_448 (fun q105 H105 hZ105 hS105 => ?_)
  replace hZ105 := zHx.rot hZ105
  replace hZ105 : zHx D ca ad15 lnM K15.2 L15 F56 B56 ((q105, .inl (ca 0, 8, .inl (zAr (fun _ => 0)))) :: (a, .inr (14, rg 107 g104)) :: Y104) A H105 := hZ105
  clear hZ104 hS104
  refine W.widen (k := 212) (n := 593705) (Nat.le_of_ble_eq_true rfl) (Nat.le_of_ble_eq_true rfl) ?_
  obtain ⟨g106, hg106⟩ : ∃ gz : Nat → Value, gz = va_up g104 51 (.ref q105) := ⟨_, rfl⟩
  refine zxputF hx hb hts inW_14 tyX14 tyX14_ok nmX14 hown hK hZ105 hS105 1 rfl rfl (k := 51) (by decide) k_11_49 rfl hnm rfl rfl rfl d_15_11_450 (fun H106 locs106 hZ106 hS106 => ?_)
  rw [← hg106] at hZ106
  obtain ⟨Y106, hY106⟩ : ∃ Yz : va_W, Yz = (q105, .inl (ca 0, 8, .inl (zAr (fun _ => 0)))) :: Y104 := ⟨_, rfl⟩
  replace hZ106 : zHx D ca ad15 lnM K15.2 L15 F56 B56 ((a, .inr (14, rg 107 g106)) :: (q105, .inl (ca 0, 8, .inl (zAr (fun _ => 0)))) :: Y104) A H106 := zHx.swp hZ106
  rw [← hY106] at hZ106
  replace hZ106 : zHx D ca ad15 lnM K15.2 L15 F56 B56 ((a, .inr (14, rg 107 g106)) :: Y106) A H106 := hZ106
  clear hZ105 hS105
  refine lv_aload_n hx hb d_15_11_453 rfl (lv_at hl 0 rfl) ?_
  refine lv_bipush (v := iI 63) hx hb d_15_11_454 (by decide) ?_
  refine zxnewa (atype := .int) hx hb hts (ty := .int) rfl k_1_57 hK 0 rfl (fun _ _ => gu_int) hZ106 hS106 hA (a0 := (63, .inl (zAr (fun _ => 0)))) (fun _ => rfl) (by decide) (N' := 63) (by decide) (Nat.le_of_ble_eq_true rfl) (Nat.le_of_ble_eq_true rfl) (Nat.le_of_ble_eq_true rfl) d_15_11_456 (fun q107 H107 hZ107 hS107 => ?_)
  replace hZ107 := zHx.rot hZ107
  replace hZ107 : zHx D ca ad15 lnM K15.2 L15 F56 B56 ((q107, .inl (ca 0, 63, .inl (zAr (fun _ => 0)))) :: (a, .inr (14, rg 107 g106)) :: Y106) A H107 := hZ107
  clear hZ106 hS106
  refine W.widen (k := 213) (n := 593768) (Nat.le_of_ble_eq_true rfl) (Nat.le_of_ble_eq_true rfl) ?_
  obtain ⟨g108, hg108⟩ : ∃ gz : Nat → Value, gz = va_up g106 58 (.ref q107) := ⟨_, rfl⟩
  refine zxputF hx hb hts inW_14 tyX14 tyX14_ok nmX14 hown hK hZ107 hS107 1 rfl rfl (k := 58) (by decide) k_11_56 rfl hnm rfl rfl rfl d_15_11_458 (fun H108 locs108 hZ108 hS108 => ?_)
  rw [← hg108] at hZ108
  obtain ⟨Y108, hY108⟩ : ∃ Yz : va_W, Yz = (q107, .inl (ca 0, 63, .inl (zAr (fun _ => 0)))) :: Y106 := ⟨_, rfl⟩
  replace hZ108 : zHx D ca ad15 lnM K15.2 L15 F56 B56 ((a, .inr (14, rg 107 g108)) :: (q107, .inl (ca 0, 63, .inl (zAr (fun _ => 0)))) :: Y106) A H108 := zHx.swp hZ108
  rw [← hY108] at hZ108
  replace hZ108 : zHx D ca ad15 lnM K15.2 L15 F56 B56 ((a, .inr (14, rg 107 g108)) :: Y108) A H108 := hZ108
  clear hZ107 hS107
  refine lv_aload_n hx hb d_15_11_461 rfl (lv_at hl 0 rfl) ?_
  refine lv_bipush (v := iI 101) hx hb d_15_11_462 (by decide) ?_
  refine zxnewa (atype := .long) hx hb hts (ty := .long) rfl k_1_105 hK 1 rfl (fun _ _ => gu_long) hZ108 hS108 hA (a0 := (101, .inr (.inl (zLr (fun _ => 0))))) (fun _ => rfl) (by decide) (N' := 101) (by decide) (Nat.le_of_ble_eq_true rfl) (Nat.le_of_ble_eq_true rfl) (Nat.le_of_ble_eq_true rfl) d_15_11_464 (fun q109 H109 hZ109 hS109 => ?_)
  replace hZ109 := zHx.rot hZ109
  replace hZ109 : zHx D ca ad15 lnM K15.2 L15 F56 B56 ((q109, .inl (ca 1, 101, .inr (.inl (zLr (fun _ => 0))))) :: (a, .inr (14, rg 107 g108)) :: Y108) A H109 := hZ109
  clear hZ108 hS108
  refine W.widen (k := 214) (n := 593869) (Nat.le_of_ble_eq_true rfl) (Nat.le_of_ble_eq_true rfl) ?_
  obtain ⟨g110, hg110⟩ : ∃ gz : Nat → Value, gz = va_up g108 59 (.ref q109) := ⟨_, rfl⟩
  refine zxputF hx hb hts inW_14 tyX14 tyX14_ok nmX14 hown hK hZ109 hS109 1 rfl rfl (k := 59) (by decide) k_11_57 rfl hnm rfl rfl rfl d_15_11_466 (fun H110 locs110 hZ110 hS110 => ?_)
  rw [← hg110] at hZ110
  obtain ⟨Y110, hY110⟩ : ∃ Yz : va_W, Yz = (q109, .inl (ca 1, 101, .inr (.inl (zLr (fun _ => 0))))) :: Y108 := ⟨_, rfl⟩
  replace hZ110 : zHx D ca ad15 lnM K15.2 L15 F56 B56 ((a, .inr (14, rg 107 g110)) :: (q109, .inl (ca 1, 101, .inr (.inl (zLr (fun _ => 0))))) :: Y108) A H110 := zHx.swp hZ110
  rw [← hY110] at hZ110
  replace hZ110 : zHx D ca ad15 lnM K15.2 L15 F56 B56 ((a, .inr (14, rg 107 g110)) :: Y110) A H110 := hZ110
  clear hZ109 hS109
  refine lv_aload_n hx hb d_15_11_469 rfl (lv_at hl 0 rfl) ?_
  refine lv_bipush (v := iI 101) hx hb d_15_11_470 (by decide) ?_
  refine zxnewa (atype := .int) hx hb hts (ty := .int) rfl k_1_57 hK 0 rfl (fun _ _ => gu_int) hZ110 hS110 hA (a0 := (101, .inl (zAr (fun _ => 0)))) (fun _ => rfl) (by decide) (N' := 101) (by decide) (Nat.le_of_ble_eq_true rfl) (Nat.le_of_ble_eq_true rfl) (Nat.le_of_ble_eq_true rfl) d_15_11_472 (fun q111 H111 hZ111 hS111 => ?_)
  replace hZ111 := zHx.rot hZ111
  replace hZ111 : zHx D ca ad15 lnM K15.2 L15 F56 B56 ((q111, .inl (ca 0, 101, .inl (zAr (fun _ => 0)))) :: (a, .inr (14, rg 107 g110)) :: Y110) A H111 := hZ111
  clear hZ110 hS110
  refine W.widen (k := 215) (n := 593970) (Nat.le_of_ble_eq_true rfl) (Nat.le_of_ble_eq_true rfl) ?_
  obtain ⟨g112, hg112⟩ : ∃ gz : Nat → Value, gz = va_up g110 60 (.ref q111) := ⟨_, rfl⟩
  refine zxputF hx hb hts inW_14 tyX14 tyX14_ok nmX14 hown hK hZ111 hS111 1 rfl rfl (k := 60) (by decide) k_11_58 rfl hnm rfl rfl rfl d_15_11_474 (fun H112 locs112 hZ112 hS112 => ?_)
  rw [← hg112] at hZ112
  obtain ⟨Y112, hY112⟩ : ∃ Yz : va_W, Yz = (q111, .inl (ca 0, 101, .inl (zAr (fun _ => 0)))) :: Y110 := ⟨_, rfl⟩
  replace hZ112 : zHx D ca ad15 lnM K15.2 L15 F56 B56 ((a, .inr (14, rg 107 g112)) :: (q111, .inl (ca 0, 101, .inl (zAr (fun _ => 0)))) :: Y110) A H112 := zHx.swp hZ112
  rw [← hY112] at hZ112
  replace hZ112 : zHx D ca ad15 lnM K15.2 L15 F56 B56 ((a, .inr (14, rg 107 g112)) :: Y112) A H112 := hZ112
  clear hZ111 hS111
  refine lv_aload_n hx hb d_15_11_477 rfl (lv_at hl 0 rfl) ?_
  refine lv_bipush (v := iI 8) hx hb d_15_11_478 (by decide) ?_
  refine zxnewa (atype := .int) hx hb hts (ty := .int) rfl k_1_57 hK 0 rfl (fun _ _ => gu_int) hZ112 hS112 hA (a0 := (8, .inl (zAr (fun _ => 0)))) (fun _ => rfl) (by decide) (N' := 8) (by decide) (Nat.le_of_ble_eq_true rfl) (Nat.le_of_ble_eq_true rfl) (Nat.le_of_ble_eq_true rfl) d_15_11_480 (fun q113 H113 hZ113 hS113 => ?_)
  replace hZ113 := zHx.rot hZ113
  replace hZ113 : zHx D ca ad15 lnM K15.2 L15 F56 B56 ((q113, .inl (ca 0, 8, .inl (zAr (fun _ => 0)))) :: (a, .inr (14, rg 107 g112)) :: Y112) A H113 := hZ113
  clear hZ112 hS112
  refine W.widen (k := 216) (n := 593978) (Nat.le_of_ble_eq_true rfl) (Nat.le_of_ble_eq_true rfl) ?_
  refine lv_dup hx hb d_15_11_482 rfl ?_
  refine lv_iconst (v := iI 0) hx hb d_15_11_483 rfl ?_
  refine lv_bipush (v := iI 20) hx hb d_15_11_484 (by decide) ?_
  refine zxiast hx hb hK hZ113 hS113 0 0 rfl rfl (by decide) (by decide) (Nat.le_of_ble_eq_true rfl) d_15_11_486 (fun H114 locs114 hZ114 hS114 => ?_)
  replace hZ114 : zHx D ca ad15 lnM K15.2 L15 F56 B56 ((q113, .inl (ca 0, 8, .inl (zAr (zup (fun _ => 0) 0 20)))) :: (a, .inr (14, rg 107 g112)) :: Y112) A H114 := hZ114
  clear hZ113 hS113
  refine lv_dup hx hb d_15_11_487 rfl ?_
  refine lv_iconst (v := iI 1) hx hb d_15_11_488 rfl ?_
  refine lv_bipush (v := iI 33) hx hb d_15_11_489 (by decide) ?_
  refine zxiast hx hb hK hZ114 hS114 0 0 rfl rfl (by decide) (by decide) (Nat.le_of_ble_eq_true rfl) d_15_11_491 (fun H115 locs115 hZ115 hS115 => ?_)
  replace hZ115 : zHx D ca ad15 lnM K15.2 L15 F56 B56 ((q113, .inl (ca 0, 8, .inl (zAr (zup (zup (fun _ => 0) 0 20) 1 33)))) :: (a, .inr (14, rg 107 g112)) :: Y112) A H115 := hZ115
  clear hZ114 hS114
  refine lv_dup hx hb d_15_11_492 rfl ?_
  refine lv_iconst (v := iI 2) hx hb d_15_11_493 rfl ?_
  refine lv_bipush (v := iI 46) hx hb d_15_11_494 (by decide) ?_
  refine zxiast hx hb hK hZ115 hS115 0 0 rfl rfl (by decide) (by decide) (Nat.le_of_ble_eq_true rfl) d_15_11_496 (fun H116 locs116 hZ116 hS116 => ?_)
  replace hZ116 : zHx D ca ad15 lnM K15.2 L15 F56 B56 ((q113, .inl (ca 0, 8, .inl (zAr (zup (zup (zup (fun _ => 0) 0 20) 1 33) 2 46)))) :: (a, .inr (14, rg 107 g112)) :: Y112) A H116 := hZ116
  clear hZ115 hS115
  refine lv_dup hx hb d_15_11_497 rfl ?_
  refine lv_iconst (v := iI 3) hx hb d_15_11_498 rfl ?_
  refine lv_bipush (v := iI 59) hx hb d_15_11_499 (by decide) ?_
  refine zxiast hx hb hK hZ116 hS116 0 0 rfl rfl (by decide) (by decide) (Nat.le_of_ble_eq_true rfl) d_15_11_501 (fun H117 locs117 hZ117 hS117 => ?_)
  replace hZ117 : zHx D ca ad15 lnM K15.2 L15 F56 B56 ((q113, .inl (ca 0, 8, .inl (zAr (zup (zup (zup (zup (fun _ => 0) 0 20) 1 33) 2 46) 3 59)))) :: (a, .inr (14, rg 107 g112)) :: Y112) A H117 := hZ117
  clear hZ116 hS116
  refine lv_dup hx hb d_15_11_502 rfl ?_
  refine lv_iconst (v := iI 4) hx hb d_15_11_503 rfl ?_
  refine lv_bipush (v := iI 72) hx hb d_15_11_504 (by decide) ?_
  refine zxiast hx hb hK hZ117 hS117 0 0 rfl rfl (by decide) (by decide) (Nat.le_of_ble_eq_true rfl) d_15_11_506 (fun H118 locs118 hZ118 hS118 => ?_)
  replace hZ118 : zHx D ca ad15 lnM K15.2 L15 F56 B56 ((q113, .inl (ca 0, 8, .inl (zAr (zup (zup (zup (zup (zup (fun _ => 0) 0 20) 1 33) 2 46) 3 59) 4 72)))) :: (a, .inr (14, rg 107 g112)) :: Y112) A H118 := hZ118
  clear hZ117 hS117
  refine lv_dup hx hb d_15_11_507 rfl ?_
  refine lv_iconst (v := iI 5) hx hb d_15_11_508 rfl ?_
  refine lv_bipush (v := iI 85) hx hb d_15_11_509 (by decide) ?_
  refine zxiast hx hb hK hZ118 hS118 0 0 rfl rfl (by decide) (by decide) (Nat.le_of_ble_eq_true rfl) d_15_11_511 (fun H119 locs119 hZ119 hS119 => ?_)
  replace hZ119 : zHx D ca ad15 lnM K15.2 L15 F56 B56 ((q113, .inl (ca 0, 8, .inl (zAr (zup (zup (zup (zup (zup (zup (fun _ => 0) 0 20) 1 33) 2 46) 3 59) 4 72) 5 85)))) :: (a, .inr (14, rg 107 g112)) :: Y112) A H119 := hZ119
  clear hZ118 hS118
  refine lv_dup hx hb d_15_11_512 rfl ?_
  refine lv_bipush (v := iI 6) hx hb d_15_11_513 (by decide) ?_
  refine lv_bipush (v := iI 98) hx hb d_15_11_515 (by decide) ?_
  refine zxiast hx hb hK hZ119 hS119 0 0 rfl rfl (by decide) (by decide) (Nat.le_of_ble_eq_true rfl) d_15_11_517 (fun H120 locs120 hZ120 hS120 => ?_)
  replace hZ120 : zHx D ca ad15 lnM K15.2 L15 F56 B56 ((q113, .inl (ca 0, 8, .inl (zAr (zup (zup (zup (zup (zup (zup (zup (fun _ => 0) 0 20) 1 33) 2 46) 3 59) 4 72) 5 85) 6 98)))) :: (a, .inr (14, rg 107 g112)) :: Y112) A H120 := hZ120
  clear hZ119 hS119
  refine lv_dup hx hb d_15_11_518 rfl ?_
  refine lv_bipush (v := iI 7) hx hb d_15_11_519 (by decide) ?_
  refine lv_bipush (v := iI 111) hx hb d_15_11_521 (by decide) ?_
  refine zxiast hx hb hK hZ120 hS120 0 0 rfl rfl (by decide) (by decide) (Nat.le_of_ble_eq_true rfl) d_15_11_523 (fun H121 locs121 hZ121 hS121 => ?_)
  replace hZ121 : zHx D ca ad15 lnM K15.2 L15 F56 B56 ((q113, .inl (ca 0, 8, .inl (zAr (zup (zup (zup (zup (zup (zup (zup (zup (fun _ => 0) 0 20) 1 33) 2 46) 3 59) 4 72) 5 85) 6 98) 7 111)))) :: (a, .inr (14, rg 107 g112)) :: Y112) A H121 := hZ121
  clear hZ120 hS120
  obtain ⟨g122, hg122⟩ : ∃ gz : Nat → Value, gz = va_up g112 61 (.ref q113) := ⟨_, rfl⟩
  refine zxputF hx hb hts inW_14 tyX14 tyX14_ok nmX14 hown hK hZ121 hS121 1 rfl rfl (k := 61) (by decide) k_11_59 rfl hnm rfl rfl rfl d_15_11_524 (fun H122 locs122 hZ122 hS122 => ?_)
  rw [← hg122] at hZ122
  obtain ⟨Y122, hY122⟩ : ∃ Yz : va_W, Yz = (q113, .inl (ca 0, 8, .inl (zAr (zup (zup (zup (zup (zup (zup (zup (zup (fun _ => 0) 0 20) 1 33) 2 46) 3 59) 4 72) 5 85) 6 98) 7 111)))) :: Y112 := ⟨_, rfl⟩
  replace hZ122 : zHx D ca ad15 lnM K15.2 L15 F56 B56 ((a, .inr (14, rg 107 g122)) :: (q113, .inl (ca 0, 8, .inl (zAr (zup (zup (zup (zup (zup (zup (zup (zup (fun _ => 0) 0 20) 1 33) 2 46) 3 59) 4 72) 5 85) 6 98) 7 111)))) :: Y112) A H122 := zHx.swp hZ122
  rw [← hY122] at hZ122
  replace hZ122 : zHx D ca ad15 lnM K15.2 L15 F56 B56 ((a, .inr (14, rg 107 g122)) :: Y122) A H122 := hZ122
  clear hZ121 hS121
  refine lv_aload_n hx hb d_15_11_527 rfl (lv_at hl 0 rfl) ?_
  refine lv_sipush (v := iI 2000) hx hb d_15_11_528 (by decide) ?_
  refine zxnewa (atype := .int) hx hb hts (ty := .int) rfl k_1_57 hK 0 rfl (fun _ _ => gu_int) hZ122 hS122 hA (a0 := (2000, .inl (zAr (fun _ => 0)))) (fun _ => rfl) (by decide) (N' := 2000) (by decide) (Nat.le_of_ble_eq_true rfl) (Nat.le_of_ble_eq_true rfl) (Nat.le_of_ble_eq_true rfl) d_15_11_531 (fun q123 H123 hZ123 hS123 => ?_)
  replace hZ123 := zHx.rot hZ123
  replace hZ123 : zHx D ca ad15 lnM K15.2 L15 F56 B56 ((q123, .inl (ca 0, 2000, .inl (zAr (fun _ => 0)))) :: (a, .inr (14, rg 107 g122)) :: Y122) A H123 := hZ123
  clear hZ122 hS122
  refine W.widen (k := 217) (n := 595978) (Nat.le_of_ble_eq_true rfl) (Nat.le_of_ble_eq_true rfl) ?_
  obtain ⟨g124, hg124⟩ : ∃ gz : Nat → Value, gz = va_up g122 63 (.ref q123) := ⟨_, rfl⟩
  refine zxputF hx hb hts inW_14 tyX14 tyX14_ok nmX14 hown hK hZ123 hS123 1 rfl rfl (k := 63) (by decide) k_11_61 rfl hnm rfl rfl rfl d_15_11_533 (fun H124 locs124 hZ124 hS124 => ?_)
  rw [← hg124] at hZ124
  obtain ⟨Y124, hY124⟩ : ∃ Yz : va_W, Yz = (q123, .inl (ca 0, 2000, .inl (zAr (fun _ => 0)))) :: Y122 := ⟨_, rfl⟩
  replace hZ124 : zHx D ca ad15 lnM K15.2 L15 F56 B56 ((a, .inr (14, rg 107 g124)) :: (q123, .inl (ca 0, 2000, .inl (zAr (fun _ => 0)))) :: Y122) A H124 := zHx.swp hZ124
  rw [← hY124] at hZ124
  replace hZ124 : zHx D ca ad15 lnM K15.2 L15 F56 B56 ((a, .inr (14, rg 107 g124)) :: Y124) A H124 := hZ124
  clear hZ123 hS123
  refine lv_aload_n hx hb d_15_11_536 rfl (lv_at hl 0 rfl) ?_
  refine lv_sipush (v := iI 2000) hx hb d_15_11_537 (by decide) ?_
  refine zxnewa (atype := .int) hx hb hts (ty := .int) rfl k_1_57 hK 0 rfl (fun _ _ => gu_int) hZ124 hS124 hA (a0 := (2000, .inl (zAr (fun _ => 0)))) (fun _ => rfl) (by decide) (N' := 2000) (by decide) (Nat.le_of_ble_eq_true rfl) (Nat.le_of_ble_eq_true rfl) (Nat.le_of_ble_eq_true rfl) d_15_11_540 (fun q125 H125 hZ125 hS125 => ?_)
  replace hZ125 := zHx.rot hZ125
  replace hZ125 : zHx D ca ad15 lnM K15.2 L15 F56 B56 ((q125, .inl (ca 0, 2000, .inl (zAr (fun _ => 0)))) :: (a, .inr (14, rg 107 g124)) :: Y124) A H125 := hZ125
  clear hZ124 hS124
  refine W.widen (k := 218) (n := 597978) (Nat.le_of_ble_eq_true rfl) (Nat.le_of_ble_eq_true rfl) ?_
  obtain ⟨g126, hg126⟩ : ∃ gz : Nat → Value, gz = va_up g124 64 (.ref q125) := ⟨_, rfl⟩
  refine zxputF hx hb hts inW_14 tyX14 tyX14_ok nmX14 hown hK hZ125 hS125 1 rfl rfl (k := 64) (by decide) k_11_62 rfl hnm rfl rfl rfl d_15_11_542 (fun H126 locs126 hZ126 hS126 => ?_)
  rw [← hg126] at hZ126
  obtain ⟨Y126, hY126⟩ : ∃ Yz : va_W, Yz = (q125, .inl (ca 0, 2000, .inl (zAr (fun _ => 0)))) :: Y124 := ⟨_, rfl⟩
  replace hZ126 : zHx D ca ad15 lnM K15.2 L15 F56 B56 ((a, .inr (14, rg 107 g126)) :: (q125, .inl (ca 0, 2000, .inl (zAr (fun _ => 0)))) :: Y124) A H126 := zHx.swp hZ126
  rw [← hY126] at hZ126
  replace hZ126 : zHx D ca ad15 lnM K15.2 L15 F56 B56 ((a, .inr (14, rg 107 g126)) :: Y126) A H126 := hZ126
  clear hZ125 hS125
  refine lv_aload_n hx hb d_15_11_545 rfl (lv_at hl 0 rfl) ?_
  refine lv_sipush (v := iI 2000) hx hb d_15_11_546 (by decide) ?_
  refine zxnewa (atype := .int) hx hb hts (ty := .int) rfl k_1_57 hK 0 rfl (fun _ _ => gu_int) hZ126 hS126 hA (a0 := (2000, .inl (zAr (fun _ => 0)))) (fun _ => rfl) (by decide) (N' := 2000) (by decide) (Nat.le_of_ble_eq_true rfl) (Nat.le_of_ble_eq_true rfl) (Nat.le_of_ble_eq_true rfl) d_15_11_549 (fun q127 H127 hZ127 hS127 => ?_)
  replace hZ127 := zHx.rot hZ127
  replace hZ127 : zHx D ca ad15 lnM K15.2 L15 F56 B56 ((q127, .inl (ca 0, 2000, .inl (zAr (fun _ => 0)))) :: (a, .inr (14, rg 107 g126)) :: Y126) A H127 := hZ127
  clear hZ126 hS126
  refine W.widen (k := 219) (n := 599978) (Nat.le_of_ble_eq_true rfl) (Nat.le_of_ble_eq_true rfl) ?_
  obtain ⟨g128, hg128⟩ : ∃ gz : Nat → Value, gz = va_up g126 65 (.ref q127) := ⟨_, rfl⟩
  refine zxputF hx hb hts inW_14 tyX14 tyX14_ok nmX14 hown hK hZ127 hS127 1 rfl rfl (k := 65) (by decide) k_11_63 rfl hnm rfl rfl rfl d_15_11_551 (fun H128 locs128 hZ128 hS128 => ?_)
  rw [← hg128] at hZ128
  obtain ⟨Y128, hY128⟩ : ∃ Yz : va_W, Yz = (q127, .inl (ca 0, 2000, .inl (zAr (fun _ => 0)))) :: Y126 := ⟨_, rfl⟩
  replace hZ128 : zHx D ca ad15 lnM K15.2 L15 F56 B56 ((a, .inr (14, rg 107 g128)) :: (q127, .inl (ca 0, 2000, .inl (zAr (fun _ => 0)))) :: Y126) A H128 := zHx.swp hZ128
  rw [← hY128] at hZ128
  replace hZ128 : zHx D ca ad15 lnM K15.2 L15 F56 B56 ((a, .inr (14, rg 107 g128)) :: Y128) A H128 := hZ128
  clear hZ127 hS127
  refine lv_aload_n hx hb d_15_11_554 rfl (lv_at hl 0 rfl) ?_
  refine lv_sipush (v := iI 2000) hx hb d_15_11_555 (by decide) ?_
  refine zxnewa (atype := .int) hx hb hts (ty := .int) rfl k_1_57 hK 0 rfl (fun _ _ => gu_int) hZ128 hS128 hA (a0 := (2000, .inl (zAr (fun _ => 0)))) (fun _ => rfl) (by decide) (N' := 2000) (by decide) (Nat.le_of_ble_eq_true rfl) (Nat.le_of_ble_eq_true rfl) (Nat.le_of_ble_eq_true rfl) d_15_11_558 (fun q129 H129 hZ129 hS129 => ?_)
  replace hZ129 := zHx.rot hZ129
  replace hZ129 : zHx D ca ad15 lnM K15.2 L15 F56 B56 ((q129, .inl (ca 0, 2000, .inl (zAr (fun _ => 0)))) :: (a, .inr (14, rg 107 g128)) :: Y128) A H129 := hZ129
  clear hZ128 hS128
  refine W.widen (k := 220) (n := 601978) (Nat.le_of_ble_eq_true rfl) (Nat.le_of_ble_eq_true rfl) ?_
  obtain ⟨g130, hg130⟩ : ∃ gz : Nat → Value, gz = va_up g128 66 (.ref q129) := ⟨_, rfl⟩
  refine zxputF hx hb hts inW_14 tyX14 tyX14_ok nmX14 hown hK hZ129 hS129 1 rfl rfl (k := 66) (by decide) k_11_64 rfl hnm rfl rfl rfl d_15_11_560 (fun H130 locs130 hZ130 hS130 => ?_)
  rw [← hg130] at hZ130
  obtain ⟨Y130, hY130⟩ : ∃ Yz : va_W, Yz = (q129, .inl (ca 0, 2000, .inl (zAr (fun _ => 0)))) :: Y128 := ⟨_, rfl⟩
  replace hZ130 : zHx D ca ad15 lnM K15.2 L15 F56 B56 ((a, .inr (14, rg 107 g130)) :: (q129, .inl (ca 0, 2000, .inl (zAr (fun _ => 0)))) :: Y128) A H130 := zHx.swp hZ130
  rw [← hY130] at hZ130
  replace hZ130 : zHx D ca ad15 lnM K15.2 L15 F56 B56 ((a, .inr (14, rg 107 g130)) :: Y130) A H130 := hZ130
  clear hZ129 hS129
  refine lv_aload_n hx hb d_15_11_563 rfl (lv_at hl 0 rfl) ?_
  refine lv_sipush (v := iI 2000) hx hb d_15_11_564 (by decide) ?_
  refine zxnewa (atype := .int) hx hb hts (ty := .int) rfl k_1_57 hK 0 rfl (fun _ _ => gu_int) hZ130 hS130 hA (a0 := (2000, .inl (zAr (fun _ => 0)))) (fun _ => rfl) (by decide) (N' := 2000) (by decide) (Nat.le_of_ble_eq_true rfl) (Nat.le_of_ble_eq_true rfl) (Nat.le_of_ble_eq_true rfl) d_15_11_567 (fun q131 H131 hZ131 hS131 => ?_)
  replace hZ131 := zHx.rot hZ131
  replace hZ131 : zHx D ca ad15 lnM K15.2 L15 F56 B56 ((q131, .inl (ca 0, 2000, .inl (zAr (fun _ => 0)))) :: (a, .inr (14, rg 107 g130)) :: Y130) A H131 := hZ131
  clear hZ130 hS130
  refine W.widen (k := 221) (n := 603978) (Nat.le_of_ble_eq_true rfl) (Nat.le_of_ble_eq_true rfl) ?_
  obtain ⟨g132, hg132⟩ : ∃ gz : Nat → Value, gz = va_up g130 67 (.ref q131) := ⟨_, rfl⟩
  refine zxputF hx hb hts inW_14 tyX14 tyX14_ok nmX14 hown hK hZ131 hS131 1 rfl rfl (k := 67) (by decide) k_11_65 rfl hnm rfl rfl rfl d_15_11_569 (fun H132 locs132 hZ132 hS132 => ?_)
  rw [← hg132] at hZ132
  obtain ⟨Y132, hY132⟩ : ∃ Yz : va_W, Yz = (q131, .inl (ca 0, 2000, .inl (zAr (fun _ => 0)))) :: Y130 := ⟨_, rfl⟩
  replace hZ132 : zHx D ca ad15 lnM K15.2 L15 F56 B56 ((a, .inr (14, rg 107 g132)) :: (q131, .inl (ca 0, 2000, .inl (zAr (fun _ => 0)))) :: Y130) A H132 := zHx.swp hZ132
  rw [← hY132] at hZ132
  replace hZ132 : zHx D ca ad15 lnM K15.2 L15 F56 B56 ((a, .inr (14, rg 107 g132)) :: Y132) A H132 := hZ132
  clear hZ131 hS131
  refine lv_aload_n hx hb d_15_11_572 rfl (lv_at hl 0 rfl) ?_
  refine lv_sipush (v := iI 2000) hx hb d_15_11_573 (by decide) ?_
  refine zxnewa (atype := .int) hx hb hts (ty := .int) rfl k_1_57 hK 0 rfl (fun _ _ => gu_int) hZ132 hS132 hA (a0 := (2000, .inl (zAr (fun _ => 0)))) (fun _ => rfl) (by decide) (N' := 2000) (by decide) (Nat.le_of_ble_eq_true rfl) (Nat.le_of_ble_eq_true rfl) (Nat.le_of_ble_eq_true rfl) d_15_11_576 (fun q133 H133 hZ133 hS133 => ?_)
  replace hZ133 := zHx.rot hZ133
  replace hZ133 : zHx D ca ad15 lnM K15.2 L15 F56 B56 ((q133, .inl (ca 0, 2000, .inl (zAr (fun _ => 0)))) :: (a, .inr (14, rg 107 g132)) :: Y132) A H133 := hZ133
  clear hZ132 hS132
  refine W.widen (k := 222) (n := 605978) (Nat.le_of_ble_eq_true rfl) (Nat.le_of_ble_eq_true rfl) ?_
  obtain ⟨g134, hg134⟩ : ∃ gz : Nat → Value, gz = va_up g132 68 (.ref q133) := ⟨_, rfl⟩
  refine zxputF hx hb hts inW_14 tyX14 tyX14_ok nmX14 hown hK hZ133 hS133 1 rfl rfl (k := 68) (by decide) k_11_66 rfl hnm rfl rfl rfl d_15_11_578 (fun H134 locs134 hZ134 hS134 => ?_)
  rw [← hg134] at hZ134
  obtain ⟨Y134, hY134⟩ : ∃ Yz : va_W, Yz = (q133, .inl (ca 0, 2000, .inl (zAr (fun _ => 0)))) :: Y132 := ⟨_, rfl⟩
  replace hZ134 : zHx D ca ad15 lnM K15.2 L15 F56 B56 ((a, .inr (14, rg 107 g134)) :: (q133, .inl (ca 0, 2000, .inl (zAr (fun _ => 0)))) :: Y132) A H134 := zHx.swp hZ134
  rw [← hY134] at hZ134
  replace hZ134 : zHx D ca ad15 lnM K15.2 L15 F56 B56 ((a, .inr (14, rg 107 g134)) :: Y134) A H134 := hZ134
  clear hZ133 hS133
  refine lv_aload_n hx hb d_15_11_581 rfl (lv_at hl 0 rfl) ?_
  refine lv_sipush (v := iI 4000) hx hb d_15_11_582 (by decide) ?_
  refine zxnewa (atype := .int) hx hb hts (ty := .int) rfl k_1_57 hK 0 rfl (fun _ _ => gu_int) hZ134 hS134 hA (a0 := (4000, .inl (zAr (fun _ => 0)))) (fun _ => rfl) (by decide) (N' := 4000) (by decide) (Nat.le_of_ble_eq_true rfl) (Nat.le_of_ble_eq_true rfl) (Nat.le_of_ble_eq_true rfl) d_15_11_585 (fun q135 H135 hZ135 hS135 => ?_)
  replace hZ135 := zHx.rot hZ135
  replace hZ135 : zHx D ca ad15 lnM K15.2 L15 F56 B56 ((q135, .inl (ca 0, 4000, .inl (zAr (fun _ => 0)))) :: (a, .inr (14, rg 107 g134)) :: Y134) A H135 := hZ135
  clear hZ134 hS134
  refine W.widen (k := 223) (n := 609978) (Nat.le_of_ble_eq_true rfl) (Nat.le_of_ble_eq_true rfl) ?_
  obtain ⟨g136, hg136⟩ : ∃ gz : Nat → Value, gz = va_up g134 69 (.ref q135) := ⟨_, rfl⟩
  refine zxputF hx hb hts inW_14 tyX14 tyX14_ok nmX14 hown hK hZ135 hS135 1 rfl rfl (k := 69) (by decide) k_11_67 rfl hnm rfl rfl rfl d_15_11_587 (fun H136 locs136 hZ136 hS136 => ?_)
  rw [← hg136] at hZ136
  obtain ⟨Y136, hY136⟩ : ∃ Yz : va_W, Yz = (q135, .inl (ca 0, 4000, .inl (zAr (fun _ => 0)))) :: Y134 := ⟨_, rfl⟩
  replace hZ136 : zHx D ca ad15 lnM K15.2 L15 F56 B56 ((a, .inr (14, rg 107 g136)) :: (q135, .inl (ca 0, 4000, .inl (zAr (fun _ => 0)))) :: Y134) A H136 := zHx.swp hZ136
  rw [← hY136] at hZ136
  replace hZ136 : zHx D ca ad15 lnM K15.2 L15 F56 B56 ((a, .inr (14, rg 107 g136)) :: Y136) A H136 := hZ136
  clear hZ135 hS135
  refine lv_aload_n hx hb d_15_11_590 rfl (lv_at hl 0 rfl) ?_
  refine lv_ldc hx hb hown (hts _ k_10_237) d_15_11_591 ?_
  refine W.eq (g2 := F0 m 593 ls [.int (iI 40000), .ref a]) rfl ?_
  refine zxnewa (atype := .byte) hx hb hts (ty := .byte) rfl k_4_180 hK 2 rfl (fun _ _ => gu_byte) hZ136 hS136 hA (a0 := (40000, .inl (zAr (fun _ => 0)))) (fun _ => rfl) (by decide) (N' := 40000) (by decide) (Nat.le_of_ble_eq_true rfl) (Nat.le_of_ble_eq_true rfl) (Nat.le_of_ble_eq_true rfl) d_15_11_593 (fun q137 H137 hZ137 hS137 => ?_)
  replace hZ137 := zHx.rot hZ137
  replace hZ137 : zHx D ca ad15 lnM K15.2 L15 F56 B56 ((q137, .inl (ca 2, 40000, .inl (zAr (fun _ => 0)))) :: (a, .inr (14, rg 107 g136)) :: Y136) A H137 := hZ137
  clear hZ136 hS136
  refine W.widen (k := 224) (n := 649978) (Nat.le_of_ble_eq_true rfl) (Nat.le_of_ble_eq_true rfl) ?_
  obtain ⟨g138, hg138⟩ : ∃ gz : Nat → Value, gz = va_up g136 70 (.ref q137) := ⟨_, rfl⟩
  refine zxputF hx hb hts inW_14 tyX14 tyX14_ok nmX14 hown hK hZ137 hS137 1 rfl rfl (k := 70) (by decide) k_11_68 rfl hnm rfl rfl rfl d_15_11_595 (fun H138 locs138 hZ138 hS138 => ?_)
  rw [← hg138] at hZ138
  obtain ⟨Y138, hY138⟩ : ∃ Yz : va_W, Yz = (q137, .inl (ca 2, 40000, .inl (zAr (fun _ => 0)))) :: Y136 := ⟨_, rfl⟩
  replace hZ138 : zHx D ca ad15 lnM K15.2 L15 F56 B56 ((a, .inr (14, rg 107 g138)) :: (q137, .inl (ca 2, 40000, .inl (zAr (fun _ => 0)))) :: Y136) A H138 := zHx.swp hZ138
  rw [← hY138] at hZ138
  replace hZ138 : zHx D ca ad15 lnM K15.2 L15 F56 B56 ((a, .inr (14, rg 107 g138)) :: Y138) A H138 := hZ138
  clear hZ137 hS137
  refine lv_aload_n hx hb d_15_11_598 rfl (lv_at hl 0 rfl) ?_
  refine lv_bipush (v := iI 8) hx hb d_15_11_599 (by decide) ?_
  refine zxnewa (atype := .int) hx hb hts (ty := .int) rfl k_1_57 hK 0 rfl (fun _ _ => gu_int) hZ138 hS138 hA (a0 := (8, .inl (zAr (fun _ => 0)))) (fun _ => rfl) (by decide) (N' := 8) (by decide) (Nat.le_of_ble_eq_true rfl) (Nat.le_of_ble_eq_true rfl) (Nat.le_of_ble_eq_true rfl) d_15_11_601 (fun q139 H139 hZ139 hS139 => ?_)
  replace hZ139 := zHx.rot hZ139
  replace hZ139 : zHx D ca ad15 lnM K15.2 L15 F56 B56 ((q139, .inl (ca 0, 8, .inl (zAr (fun _ => 0)))) :: (a, .inr (14, rg 107 g138)) :: Y138) A H139 := hZ139
  clear hZ138 hS138
  refine W.widen (k := 225) (n := 649986) (Nat.le_of_ble_eq_true rfl) (Nat.le_of_ble_eq_true rfl) ?_
  obtain ⟨g140, hg140⟩ : ∃ gz : Nat → Value, gz = va_up g138 73 (.ref q139) := ⟨_, rfl⟩
  refine zxputF hx hb hts inW_14 tyX14 tyX14_ok nmX14 hown hK hZ139 hS139 1 rfl rfl (k := 73) (by decide) k_11_71 rfl hnm rfl rfl rfl d_15_11_603 (fun H140 locs140 hZ140 hS140 => ?_)
  rw [← hg140] at hZ140
  obtain ⟨Y140, hY140⟩ : ∃ Yz : va_W, Yz = (q139, .inl (ca 0, 8, .inl (zAr (fun _ => 0)))) :: Y138 := ⟨_, rfl⟩
  replace hZ140 : zHx D ca ad15 lnM K15.2 L15 F56 B56 ((a, .inr (14, rg 107 g140)) :: (q139, .inl (ca 0, 8, .inl (zAr (fun _ => 0)))) :: Y138) A H140 := zHx.swp hZ140
  rw [← hY140] at hZ140
  replace hZ140 : zHx D ca ad15 lnM K15.2 L15 F56 B56 ((a, .inr (14, rg 107 g140)) :: Y140) A H140 := hZ140
  clear hZ139 hS139
  refine lv_aload_n hx hb d_15_11_606 rfl (lv_at hl 0 rfl) ?_
  refine lv_bipush (v := iI 8) hx hb d_15_11_607 (by decide) ?_
  refine zxnewa (atype := .int) hx hb hts (ty := .int) rfl k_1_57 hK 0 rfl (fun _ _ => gu_int) hZ140 hS140 hA (a0 := (8, .inl (zAr (fun _ => 0)))) (fun _ => rfl) (by decide) (N' := 8) (by decide) (Nat.le_of_ble_eq_true rfl) (Nat.le_of_ble_eq_true rfl) (Nat.le_of_ble_eq_true rfl) d_15_11_609 (fun q141 H141 hZ141 hS141 => ?_)
  replace hZ141 := zHx.rot hZ141
  replace hZ141 : zHx D ca ad15 lnM K15.2 L15 F56 B56 ((q141, .inl (ca 0, 8, .inl (zAr (fun _ => 0)))) :: (a, .inr (14, rg 107 g140)) :: Y140) A H141 := hZ141
  clear hZ140 hS140
  refine W.widen (k := 226) (n := 649994) (Nat.le_of_ble_eq_true rfl) (Nat.le_of_ble_eq_true rfl) ?_
  obtain ⟨g142, hg142⟩ : ∃ gz : Nat → Value, gz = va_up g140 74 (.ref q141) := ⟨_, rfl⟩
  refine zxputF hx hb hts inW_14 tyX14 tyX14_ok nmX14 hown hK hZ141 hS141 1 rfl rfl (k := 74) (by decide) k_11_72 rfl hnm rfl rfl rfl d_15_11_611 (fun H142 locs142 hZ142 hS142 => ?_)
  rw [← hg142] at hZ142
  obtain ⟨Y142, hY142⟩ : ∃ Yz : va_W, Yz = (q141, .inl (ca 0, 8, .inl (zAr (fun _ => 0)))) :: Y140 := ⟨_, rfl⟩
  replace hZ142 : zHx D ca ad15 lnM K15.2 L15 F56 B56 ((a, .inr (14, rg 107 g142)) :: (q141, .inl (ca 0, 8, .inl (zAr (fun _ => 0)))) :: Y140) A H142 := zHx.swp hZ142
  rw [← hY142] at hZ142
  replace hZ142 : zHx D ca ad15 lnM K15.2 L15 F56 B56 ((a, .inr (14, rg 107 g142)) :: Y142) A H142 := hZ142
  clear hZ141 hS141
  refine lv_aload_n hx hb d_15_11_614 rfl (lv_at hl 0 rfl) ?_
  refine lv_sipush (v := iI 400) hx hb d_15_11_615 (by decide) ?_
  refine zxnewa (atype := .int) hx hb hts (ty := .int) rfl k_1_57 hK 0 rfl (fun _ _ => gu_int) hZ142 hS142 hA (a0 := (400, .inl (zAr (fun _ => 0)))) (fun _ => rfl) (by decide) (N' := 400) (by decide) (Nat.le_of_ble_eq_true rfl) (Nat.le_of_ble_eq_true rfl) (Nat.le_of_ble_eq_true rfl) d_15_11_618 (fun q143 H143 hZ143 hS143 => ?_)
  replace hZ143 := zHx.rot hZ143
  replace hZ143 : zHx D ca ad15 lnM K15.2 L15 F56 B56 ((q143, .inl (ca 0, 400, .inl (zAr (fun _ => 0)))) :: (a, .inr (14, rg 107 g142)) :: Y142) A H143 := hZ143
  clear hZ142 hS142
  refine W.widen (k := 227) (n := 650394) (Nat.le_of_ble_eq_true rfl) (Nat.le_of_ble_eq_true rfl) ?_
  obtain ⟨g144, hg144⟩ : ∃ gz : Nat → Value, gz = va_up g142 75 (.ref q143) := ⟨_, rfl⟩
  refine zxputF hx hb hts inW_14 tyX14 tyX14_ok nmX14 hown hK hZ143 hS143 1 rfl rfl (k := 75) (by decide) k_11_73 rfl hnm rfl rfl rfl d_15_11_620 (fun H144 locs144 hZ144 hS144 => ?_)
  rw [← hg144] at hZ144
  obtain ⟨Y144, hY144⟩ : ∃ Yz : va_W, Yz = (q143, .inl (ca 0, 400, .inl (zAr (fun _ => 0)))) :: Y142 := ⟨_, rfl⟩
  replace hZ144 : zHx D ca ad15 lnM K15.2 L15 F56 B56 ((a, .inr (14, rg 107 g144)) :: (q143, .inl (ca 0, 400, .inl (zAr (fun _ => 0)))) :: Y142) A H144 := zHx.swp hZ144
  rw [← hY144] at hZ144
  replace hZ144 : zHx D ca ad15 lnM K15.2 L15 F56 B56 ((a, .inr (14, rg 107 g144)) :: Y144) A H144 := hZ144
  clear hZ143 hS143
  refine lv_aload_n hx hb d_15_11_623 rfl (lv_at hl 0 rfl) ?_
  refine lv_sipush (v := iI 400) hx hb d_15_11_624 (by decide) ?_
  refine zxnewa (atype := .int) hx hb hts (ty := .int) rfl k_1_57 hK 0 rfl (fun _ _ => gu_int) hZ144 hS144 hA (a0 := (400, .inl (zAr (fun _ => 0)))) (fun _ => rfl) (by decide) (N' := 400) (by decide) (Nat.le_of_ble_eq_true rfl) (Nat.le_of_ble_eq_true rfl) (Nat.le_of_ble_eq_true rfl) d_15_11_627 (fun q145 H145 hZ145 hS145 => ?_)
  replace hZ145 := zHx.rot hZ145
  replace hZ145 : zHx D ca ad15 lnM K15.2 L15 F56 B56 ((q145, .inl (ca 0, 400, .inl (zAr (fun _ => 0)))) :: (a, .inr (14, rg 107 g144)) :: Y144) A H145 := hZ145
  clear hZ144 hS144
  refine W.widen (k := 228) (n := 650794) (Nat.le_of_ble_eq_true rfl) (Nat.le_of_ble_eq_true rfl) ?_
  obtain ⟨g146, hg146⟩ : ∃ gz : Nat → Value, gz = va_up g144 76 (.ref q145) := ⟨_, rfl⟩
  refine zxputF hx hb hts inW_14 tyX14 tyX14_ok nmX14 hown hK hZ145 hS145 1 rfl rfl (k := 76) (by decide) k_11_74 rfl hnm rfl rfl rfl d_15_11_629 (fun H146 locs146 hZ146 hS146 => ?_)
  rw [← hg146] at hZ146
  obtain ⟨Y146, hY146⟩ : ∃ Yz : va_W, Yz = (q145, .inl (ca 0, 400, .inl (zAr (fun _ => 0)))) :: Y144 := ⟨_, rfl⟩
  replace hZ146 : zHx D ca ad15 lnM K15.2 L15 F56 B56 ((a, .inr (14, rg 107 g146)) :: (q145, .inl (ca 0, 400, .inl (zAr (fun _ => 0)))) :: Y144) A H146 := zHx.swp hZ146
  rw [← hY146] at hZ146
  replace hZ146 : zHx D ca ad15 lnM K15.2 L15 F56 B56 ((a, .inr (14, rg 107 g146)) :: Y146) A H146 := hZ146
  clear hZ145 hS145
  refine lv_aload_n hx hb d_15_11_632 rfl (lv_at hl 0 rfl) ?_
  refine lv_sipush (v := iI 400) hx hb d_15_11_633 (by decide) ?_
  refine zxnewa (atype := .int) hx hb hts (ty := .int) rfl k_1_57 hK 0 rfl (fun _ _ => gu_int) hZ146 hS146 hA (a0 := (400, .inl (zAr (fun _ => 0)))) (fun _ => rfl) (by decide) (N' := 400) (by decide) (Nat.le_of_ble_eq_true rfl) (Nat.le_of_ble_eq_true rfl) (Nat.le_of_ble_eq_true rfl) d_15_11_636 (fun q147 H147 hZ147 hS147 => ?_)
  replace hZ147 := zHx.rot hZ147
  replace hZ147 : zHx D ca ad15 lnM K15.2 L15 F56 B56 ((q147, .inl (ca 0, 400, .inl (zAr (fun _ => 0)))) :: (a, .inr (14, rg 107 g146)) :: Y146) A H147 := hZ147
  clear hZ146 hS146
  refine W.widen (k := 229) (n := 651194) (Nat.le_of_ble_eq_true rfl) (Nat.le_of_ble_eq_true rfl) ?_
  obtain ⟨g148, hg148⟩ : ∃ gz : Nat → Value, gz = va_up g146 77 (.ref q147) := ⟨_, rfl⟩
  refine zxputF hx hb hts inW_14 tyX14 tyX14_ok nmX14 hown hK hZ147 hS147 1 rfl rfl (k := 77) (by decide) k_11_75 rfl hnm rfl rfl rfl d_15_11_638 (fun H148 locs148 hZ148 hS148 => ?_)
  rw [← hg148] at hZ148
  obtain ⟨Y148, hY148⟩ : ∃ Yz : va_W, Yz = (q147, .inl (ca 0, 400, .inl (zAr (fun _ => 0)))) :: Y146 := ⟨_, rfl⟩
  replace hZ148 : zHx D ca ad15 lnM K15.2 L15 F56 B56 ((a, .inr (14, rg 107 g148)) :: (q147, .inl (ca 0, 400, .inl (zAr (fun _ => 0)))) :: Y146) A H148 := zHx.swp hZ148
  rw [← hY148] at hZ148
  replace hZ148 : zHx D ca ad15 lnM K15.2 L15 F56 B56 ((a, .inr (14, rg 107 g148)) :: Y148) A H148 := hZ148
  clear hZ147 hS147
  refine lv_aload_n hx hb d_15_11_641 rfl (lv_at hl 0 rfl) ?_
  refine lv_sipush (v := iI 400) hx hb d_15_11_642 (by decide) ?_
  refine zxnewa (atype := .int) hx hb hts (ty := .int) rfl k_1_57 hK 0 rfl (fun _ _ => gu_int) hZ148 hS148 hA (a0 := (400, .inl (zAr (fun _ => 0)))) (fun _ => rfl) (by decide) (N' := 400) (by decide) (Nat.le_of_ble_eq_true rfl) (Nat.le_of_ble_eq_true rfl) (Nat.le_of_ble_eq_true rfl) d_15_11_645 (fun q149 H149 hZ149 hS149 => ?_)
  replace hZ149 := zHx.rot hZ149
  replace hZ149 : zHx D ca ad15 lnM K15.2 L15 F56 B56 ((q149, .inl (ca 0, 400, .inl (zAr (fun _ => 0)))) :: (a, .inr (14, rg 107 g148)) :: Y148) A H149 := hZ149
  clear hZ148 hS148
  refine W.widen (k := 230) (n := 651594) (Nat.le_of_ble_eq_true rfl) (Nat.le_of_ble_eq_true rfl) ?_
  obtain ⟨g150, hg150⟩ : ∃ gz : Nat → Value, gz = va_up g148 78 (.ref q149) := ⟨_, rfl⟩
  refine zxputF hx hb hts inW_14 tyX14 tyX14_ok nmX14 hown hK hZ149 hS149 1 rfl rfl (k := 78) (by decide) k_11_76 rfl hnm rfl rfl rfl d_15_11_647 (fun H150 locs150 hZ150 hS150 => ?_)
  rw [← hg150] at hZ150
  obtain ⟨Y150, hY150⟩ : ∃ Yz : va_W, Yz = (q149, .inl (ca 0, 400, .inl (zAr (fun _ => 0)))) :: Y148 := ⟨_, rfl⟩
  replace hZ150 : zHx D ca ad15 lnM K15.2 L15 F56 B56 ((a, .inr (14, rg 107 g150)) :: (q149, .inl (ca 0, 400, .inl (zAr (fun _ => 0)))) :: Y148) A H150 := zHx.swp hZ150
  rw [← hY150] at hZ150
  replace hZ150 : zHx D ca ad15 lnM K15.2 L15 F56 B56 ((a, .inr (14, rg 107 g150)) :: Y150) A H150 := hZ150
  clear hZ149 hS149
  refine lv_aload_n hx hb d_15_11_650 rfl (lv_at hl 0 rfl) ?_
  refine lv_sipush (v := iI 400) hx hb d_15_11_651 (by decide) ?_
  refine zxnewa (atype := .long) hx hb hts (ty := .long) rfl k_1_105 hK 1 rfl (fun _ _ => gu_long) hZ150 hS150 hA (a0 := (400, .inr (.inl (zLr (fun _ => 0))))) (fun _ => rfl) (by decide) (N' := 400) (by decide) (Nat.le_of_ble_eq_true rfl) (Nat.le_of_ble_eq_true rfl) (Nat.le_of_ble_eq_true rfl) d_15_11_654 (fun q151 H151 hZ151 hS151 => ?_)
  replace hZ151 := zHx.rot hZ151
  replace hZ151 : zHx D ca ad15 lnM K15.2 L15 F56 B56 ((q151, .inl (ca 1, 400, .inr (.inl (zLr (fun _ => 0))))) :: (a, .inr (14, rg 107 g150)) :: Y150) A H151 := hZ151
  clear hZ150 hS150
  refine W.widen (k := 231) (n := 651994) (Nat.le_of_ble_eq_true rfl) (Nat.le_of_ble_eq_true rfl) ?_
  obtain ⟨g152, hg152⟩ : ∃ gz : Nat → Value, gz = va_up g150 79 (.ref q151) := ⟨_, rfl⟩
  refine zxputF hx hb hts inW_14 tyX14 tyX14_ok nmX14 hown hK hZ151 hS151 1 rfl rfl (k := 79) (by decide) k_11_77 rfl hnm rfl rfl rfl d_15_11_656 (fun H152 locs152 hZ152 hS152 => ?_)
  rw [← hg152] at hZ152
  obtain ⟨Y152, hY152⟩ : ∃ Yz : va_W, Yz = (q151, .inl (ca 1, 400, .inr (.inl (zLr (fun _ => 0))))) :: Y150 := ⟨_, rfl⟩
  replace hZ152 : zHx D ca ad15 lnM K15.2 L15 F56 B56 ((a, .inr (14, rg 107 g152)) :: (q151, .inl (ca 1, 400, .inr (.inl (zLr (fun _ => 0))))) :: Y150) A H152 := zHx.swp hZ152
  rw [← hY152] at hZ152
  replace hZ152 : zHx D ca ad15 lnM K15.2 L15 F56 B56 ((a, .inr (14, rg 107 g152)) :: Y152) A H152 := hZ152
  clear hZ151 hS151
  refine lv_aload_n hx hb d_15_11_659 rfl (lv_at hl 0 rfl) ?_
  refine lv_sipush (v := iI 400) hx hb d_15_11_660 (by decide) ?_
  refine zxnewa (atype := .long) hx hb hts (ty := .long) rfl k_1_105 hK 1 rfl (fun _ _ => gu_long) hZ152 hS152 hA (a0 := (400, .inr (.inl (zLr (fun _ => 0))))) (fun _ => rfl) (by decide) (N' := 400) (by decide) (Nat.le_of_ble_eq_true rfl) (Nat.le_of_ble_eq_true rfl) (Nat.le_of_ble_eq_true rfl) d_15_11_663 (fun q153 H153 hZ153 hS153 => ?_)
  replace hZ153 := zHx.rot hZ153
  replace hZ153 : zHx D ca ad15 lnM K15.2 L15 F56 B56 ((q153, .inl (ca 1, 400, .inr (.inl (zLr (fun _ => 0))))) :: (a, .inr (14, rg 107 g152)) :: Y152) A H153 := hZ153
  clear hZ152 hS152
  refine W.widen (k := 232) (n := 652394) (Nat.le_of_ble_eq_true rfl) (Nat.le_of_ble_eq_true rfl) ?_
  obtain ⟨g154, hg154⟩ : ∃ gz : Nat → Value, gz = va_up g152 80 (.ref q153) := ⟨_, rfl⟩
  refine zxputF hx hb hts inW_14 tyX14 tyX14_ok nmX14 hown hK hZ153 hS153 1 rfl rfl (k := 80) (by decide) k_11_78 rfl hnm rfl rfl rfl d_15_11_665 (fun H154 locs154 hZ154 hS154 => ?_)
  rw [← hg154] at hZ154
  obtain ⟨Y154, hY154⟩ : ∃ Yz : va_W, Yz = (q153, .inl (ca 1, 400, .inr (.inl (zLr (fun _ => 0))))) :: Y152 := ⟨_, rfl⟩
  replace hZ154 : zHx D ca ad15 lnM K15.2 L15 F56 B56 ((a, .inr (14, rg 107 g154)) :: (q153, .inl (ca 1, 400, .inr (.inl (zLr (fun _ => 0))))) :: Y152) A H154 := zHx.swp hZ154
  rw [← hY154] at hZ154
  replace hZ154 : zHx D ca ad15 lnM K15.2 L15 F56 B56 ((a, .inr (14, rg 107 g154)) :: Y154) A H154 := hZ154
  clear hZ153 hS153
  refine lv_aload_n hx hb d_15_11_668 rfl (lv_at hl 0 rfl) ?_
  refine lv_bipush (v := iI 8) hx hb d_15_11_669 (by decide) ?_
  refine zxnewa (atype := .int) hx hb hts (ty := .int) rfl k_1_57 hK 0 rfl (fun _ _ => gu_int) hZ154 hS154 hA (a0 := (8, .inl (zAr (fun _ => 0)))) (fun _ => rfl) (by decide) (N' := 8) (by decide) (Nat.le_of_ble_eq_true rfl) (Nat.le_of_ble_eq_true rfl) (Nat.le_of_ble_eq_true rfl) d_15_11_671 (fun q155 H155 hZ155 hS155 => ?_)
  replace hZ155 := zHx.rot hZ155
  replace hZ155 : zHx D ca ad15 lnM K15.2 L15 F56 B56 ((q155, .inl (ca 0, 8, .inl (zAr (fun _ => 0)))) :: (a, .inr (14, rg 107 g154)) :: Y154) A H155 := hZ155
  clear hZ154 hS154
  refine W.widen (k := 233) (n := 652402) (Nat.le_of_ble_eq_true rfl) (Nat.le_of_ble_eq_true rfl) ?_
  obtain ⟨g156, hg156⟩ : ∃ gz : Nat → Value, gz = va_up g154 81 (.ref q155) := ⟨_, rfl⟩
  refine zxputF hx hb hts inW_14 tyX14 tyX14_ok nmX14 hown hK hZ155 hS155 1 rfl rfl (k := 81) (by decide) k_11_79 rfl hnm rfl rfl rfl d_15_11_673 (fun H156 locs156 hZ156 hS156 => ?_)
  rw [← hg156] at hZ156
  obtain ⟨Y156, hY156⟩ : ∃ Yz : va_W, Yz = (q155, .inl (ca 0, 8, .inl (zAr (fun _ => 0)))) :: Y154 := ⟨_, rfl⟩
  replace hZ156 : zHx D ca ad15 lnM K15.2 L15 F56 B56 ((a, .inr (14, rg 107 g156)) :: (q155, .inl (ca 0, 8, .inl (zAr (fun _ => 0)))) :: Y154) A H156 := zHx.swp hZ156
  rw [← hY156] at hZ156
  replace hZ156 : zHx D ca ad15 lnM K15.2 L15 F56 B56 ((a, .inr (14, rg 107 g156)) :: Y156) A H156 := hZ156
  clear hZ155 hS155
  refine lv_aload_n hx hb d_15_11_676 rfl (lv_at hl 0 rfl) ?_
  refine lv_sipush (v := iI 400) hx hb d_15_11_677 (by decide) ?_
  refine zxnewa (atype := .int) hx hb hts (ty := .int) rfl k_1_57 hK 0 rfl (fun _ _ => gu_int) hZ156 hS156 hA (a0 := (400, .inl (zAr (fun _ => 0)))) (fun _ => rfl) (by decide) (N' := 400) (by decide) (Nat.le_of_ble_eq_true rfl) (Nat.le_of_ble_eq_true rfl) (Nat.le_of_ble_eq_true rfl) d_15_11_680 (fun q157 H157 hZ157 hS157 => ?_)
  replace hZ157 := zHx.rot hZ157
  replace hZ157 : zHx D ca ad15 lnM K15.2 L15 F56 B56 ((q157, .inl (ca 0, 400, .inl (zAr (fun _ => 0)))) :: (a, .inr (14, rg 107 g156)) :: Y156) A H157 := hZ157
  clear hZ156 hS156
  refine W.widen (k := 234) (n := 652802) (Nat.le_of_ble_eq_true rfl) (Nat.le_of_ble_eq_true rfl) ?_
  obtain ⟨g158, hg158⟩ : ∃ gz : Nat → Value, gz = va_up g156 82 (.ref q157) := ⟨_, rfl⟩
  refine zxputF hx hb hts inW_14 tyX14 tyX14_ok nmX14 hown hK hZ157 hS157 1 rfl rfl (k := 82) (by decide) k_11_80 rfl hnm rfl rfl rfl d_15_11_682 (fun H158 locs158 hZ158 hS158 => ?_)
  rw [← hg158] at hZ158
  obtain ⟨Y158, hY158⟩ : ∃ Yz : va_W, Yz = (q157, .inl (ca 0, 400, .inl (zAr (fun _ => 0)))) :: Y156 := ⟨_, rfl⟩
  replace hZ158 : zHx D ca ad15 lnM K15.2 L15 F56 B56 ((a, .inr (14, rg 107 g158)) :: (q157, .inl (ca 0, 400, .inl (zAr (fun _ => 0)))) :: Y156) A H158 := zHx.swp hZ158
  rw [← hY158] at hZ158
  replace hZ158 : zHx D ca ad15 lnM K15.2 L15 F56 B56 ((a, .inr (14, rg 107 g158)) :: Y158) A H158 := hZ158
  clear hZ157 hS157
  refine lv_aload_n hx hb d_15_11_685 rfl (lv_at hl 0 rfl) ?_
  refine lv_sipush (v := iI 400) hx hb d_15_11_686 (by decide) ?_
  refine zxnewa (atype := .int) hx hb hts (ty := .int) rfl k_1_57 hK 0 rfl (fun _ _ => gu_int) hZ158 hS158 hA (a0 := (400, .inl (zAr (fun _ => 0)))) (fun _ => rfl) (by decide) (N' := 400) (by decide) (Nat.le_of_ble_eq_true rfl) (Nat.le_of_ble_eq_true rfl) (Nat.le_of_ble_eq_true rfl) d_15_11_689 (fun q159 H159 hZ159 hS159 => ?_)
  replace hZ159 := zHx.rot hZ159
  replace hZ159 : zHx D ca ad15 lnM K15.2 L15 F56 B56 ((q159, .inl (ca 0, 400, .inl (zAr (fun _ => 0)))) :: (a, .inr (14, rg 107 g158)) :: Y158) A H159 := hZ159
  clear hZ158 hS158
  refine W.widen (k := 235) (n := 653202) (Nat.le_of_ble_eq_true rfl) (Nat.le_of_ble_eq_true rfl) ?_
  obtain ⟨g160, hg160⟩ : ∃ gz : Nat → Value, gz = va_up g158 83 (.ref q159) := ⟨_, rfl⟩
  refine zxputF hx hb hts inW_14 tyX14 tyX14_ok nmX14 hown hK hZ159 hS159 1 rfl rfl (k := 83) (by decide) k_11_81 rfl hnm rfl rfl rfl d_15_11_691 (fun H160 locs160 hZ160 hS160 => ?_)
  rw [← hg160] at hZ160
  obtain ⟨Y160, hY160⟩ : ∃ Yz : va_W, Yz = (q159, .inl (ca 0, 400, .inl (zAr (fun _ => 0)))) :: Y158 := ⟨_, rfl⟩
  replace hZ160 : zHx D ca ad15 lnM K15.2 L15 F56 B56 ((a, .inr (14, rg 107 g160)) :: (q159, .inl (ca 0, 400, .inl (zAr (fun _ => 0)))) :: Y158) A H160 := zHx.swp hZ160
  rw [← hY160] at hZ160
  replace hZ160 : zHx D ca ad15 lnM K15.2 L15 F56 B56 ((a, .inr (14, rg 107 g160)) :: Y160) A H160 := hZ160
  clear hZ159 hS159
  refine lv_aload_n hx hb d_15_11_694 rfl (lv_at hl 0 rfl) ?_
  refine lv_sipush (v := iI 400) hx hb d_15_11_695 (by decide) ?_
  refine zxnewa (atype := .int) hx hb hts (ty := .int) rfl k_1_57 hK 0 rfl (fun _ _ => gu_int) hZ160 hS160 hA (a0 := (400, .inl (zAr (fun _ => 0)))) (fun _ => rfl) (by decide) (N' := 400) (by decide) (Nat.le_of_ble_eq_true rfl) (Nat.le_of_ble_eq_true rfl) (Nat.le_of_ble_eq_true rfl) d_15_11_698 (fun q161 H161 hZ161 hS161 => ?_)
  replace hZ161 := zHx.rot hZ161
  replace hZ161 : zHx D ca ad15 lnM K15.2 L15 F56 B56 ((q161, .inl (ca 0, 400, .inl (zAr (fun _ => 0)))) :: (a, .inr (14, rg 107 g160)) :: Y160) A H161 := hZ161
  clear hZ160 hS160
  refine W.widen (k := 236) (n := 653602) (Nat.le_of_ble_eq_true rfl) (Nat.le_of_ble_eq_true rfl) ?_
  obtain ⟨g162, hg162⟩ : ∃ gz : Nat → Value, gz = va_up g160 84 (.ref q161) := ⟨_, rfl⟩
  refine zxputF hx hb hts inW_14 tyX14 tyX14_ok nmX14 hown hK hZ161 hS161 1 rfl rfl (k := 84) (by decide) k_11_82 rfl hnm rfl rfl rfl d_15_11_700 (fun H162 locs162 hZ162 hS162 => ?_)
  rw [← hg162] at hZ162
  obtain ⟨Y162, hY162⟩ : ∃ Yz : va_W, Yz = (q161, .inl (ca 0, 400, .inl (zAr (fun _ => 0)))) :: Y160 := ⟨_, rfl⟩
  replace hZ162 : zHx D ca ad15 lnM K15.2 L15 F56 B56 ((a, .inr (14, rg 107 g162)) :: (q161, .inl (ca 0, 400, .inl (zAr (fun _ => 0)))) :: Y160) A H162 := zHx.swp hZ162
  rw [← hY162] at hZ162
  replace hZ162 : zHx D ca ad15 lnM K15.2 L15 F56 B56 ((a, .inr (14, rg 107 g162)) :: Y162) A H162 := hZ162
  clear hZ161 hS161
  refine lv_aload_n hx hb d_15_11_703 rfl (lv_at hl 0 rfl) ?_
  refine lv_sipush (v := iI 400) hx hb d_15_11_704 (by decide) ?_
  refine zxnewa (atype := .int) hx hb hts (ty := .int) rfl k_1_57 hK 0 rfl (fun _ _ => gu_int) hZ162 hS162 hA (a0 := (400, .inl (zAr (fun _ => 0)))) (fun _ => rfl) (by decide) (N' := 400) (by decide) (Nat.le_of_ble_eq_true rfl) (Nat.le_of_ble_eq_true rfl) (Nat.le_of_ble_eq_true rfl) d_15_11_707 (fun q163 H163 hZ163 hS163 => ?_)
  replace hZ163 := zHx.rot hZ163
  replace hZ163 : zHx D ca ad15 lnM K15.2 L15 F56 B56 ((q163, .inl (ca 0, 400, .inl (zAr (fun _ => 0)))) :: (a, .inr (14, rg 107 g162)) :: Y162) A H163 := hZ163
  clear hZ162 hS162
  refine W.widen (k := 237) (n := 654002) (Nat.le_of_ble_eq_true rfl) (Nat.le_of_ble_eq_true rfl) ?_
  obtain ⟨g164, hg164⟩ : ∃ gz : Nat → Value, gz = va_up g162 85 (.ref q163) := ⟨_, rfl⟩
  refine zxputF hx hb hts inW_14 tyX14 tyX14_ok nmX14 hown hK hZ163 hS163 1 rfl rfl (k := 85) (by decide) k_11_83 rfl hnm rfl rfl rfl d_15_11_709 (fun H164 locs164 hZ164 hS164 => ?_)
  rw [← hg164] at hZ164
  obtain ⟨Y164, hY164⟩ : ∃ Yz : va_W, Yz = (q163, .inl (ca 0, 400, .inl (zAr (fun _ => 0)))) :: Y162 := ⟨_, rfl⟩
  replace hZ164 : zHx D ca ad15 lnM K15.2 L15 F56 B56 ((a, .inr (14, rg 107 g164)) :: (q163, .inl (ca 0, 400, .inl (zAr (fun _ => 0)))) :: Y162) A H164 := zHx.swp hZ164
  rw [← hY164] at hZ164
  replace hZ164 : zHx D ca ad15 lnM K15.2 L15 F56 B56 ((a, .inr (14, rg 107 g164)) :: Y164) A H164 := hZ164
  clear hZ163 hS163
  refine lv_aload_n hx hb d_15_11_712 rfl (lv_at hl 0 rfl) ?_
  refine lv_sipush (v := iI 400) hx hb d_15_11_713 (by decide) ?_
  refine zxnewa (atype := .long) hx hb hts (ty := .long) rfl k_1_105 hK 1 rfl (fun _ _ => gu_long) hZ164 hS164 hA (a0 := (400, .inr (.inl (zLr (fun _ => 0))))) (fun _ => rfl) (by decide) (N' := 400) (by decide) (Nat.le_of_ble_eq_true rfl) (Nat.le_of_ble_eq_true rfl) (Nat.le_of_ble_eq_true rfl) d_15_11_716 (fun q165 H165 hZ165 hS165 => ?_)
  replace hZ165 := zHx.rot hZ165
  replace hZ165 : zHx D ca ad15 lnM K15.2 L15 F56 B56 ((q165, .inl (ca 1, 400, .inr (.inl (zLr (fun _ => 0))))) :: (a, .inr (14, rg 107 g164)) :: Y164) A H165 := hZ165
  clear hZ164 hS164
  refine W.widen (k := 238) (n := 654402) (Nat.le_of_ble_eq_true rfl) (Nat.le_of_ble_eq_true rfl) ?_
  obtain ⟨g166, hg166⟩ : ∃ gz : Nat → Value, gz = va_up g164 86 (.ref q165) := ⟨_, rfl⟩
  refine zxputF hx hb hts inW_14 tyX14 tyX14_ok nmX14 hown hK hZ165 hS165 1 rfl rfl (k := 86) (by decide) k_11_84 rfl hnm rfl rfl rfl d_15_11_718 (fun H166 locs166 hZ166 hS166 => ?_)
  rw [← hg166] at hZ166
  obtain ⟨Y166, hY166⟩ : ∃ Yz : va_W, Yz = (q165, .inl (ca 1, 400, .inr (.inl (zLr (fun _ => 0))))) :: Y164 := ⟨_, rfl⟩
  replace hZ166 : zHx D ca ad15 lnM K15.2 L15 F56 B56 ((a, .inr (14, rg 107 g166)) :: (q165, .inl (ca 1, 400, .inr (.inl (zLr (fun _ => 0))))) :: Y164) A H166 := zHx.swp hZ166
  rw [← hY166] at hZ166
  replace hZ166 : zHx D ca ad15 lnM K15.2 L15 F56 B56 ((a, .inr (14, rg 107 g166)) :: Y166) A H166 := hZ166
  clear hZ165 hS165
  refine lv_aload_n hx hb d_15_11_721 rfl (lv_at hl 0 rfl) ?_
  refine lv_sipush (v := iI 400) hx hb d_15_11_722 (by decide) ?_
  refine zxnewa (atype := .long) hx hb hts (ty := .long) rfl k_1_105 hK 1 rfl (fun _ _ => gu_long) hZ166 hS166 hA (a0 := (400, .inr (.inl (zLr (fun _ => 0))))) (fun _ => rfl) (by decide) (N' := 400) (by decide) (Nat.le_of_ble_eq_true rfl) (Nat.le_of_ble_eq_true rfl) (Nat.le_of_ble_eq_true rfl) d_15_11_725 (fun q167 H167 hZ167 hS167 => ?_)
  replace hZ167 := zHx.rot hZ167
  replace hZ167 : zHx D ca ad15 lnM K15.2 L15 F56 B56 ((q167, .inl (ca 1, 400, .inr (.inl (zLr (fun _ => 0))))) :: (a, .inr (14, rg 107 g166)) :: Y166) A H167 := hZ167
  clear hZ166 hS166
  refine W.widen (k := 239) (n := 654802) (Nat.le_of_ble_eq_true rfl) (Nat.le_of_ble_eq_true rfl) ?_
  obtain ⟨g168, hg168⟩ : ∃ gz : Nat → Value, gz = va_up g166 87 (.ref q167) := ⟨_, rfl⟩
  refine zxputF hx hb hts inW_14 tyX14 tyX14_ok nmX14 hown hK hZ167 hS167 1 rfl rfl (k := 87) (by decide) k_11_85 rfl hnm rfl rfl rfl d_15_11_727 (fun H168 locs168 hZ168 hS168 => ?_)
  rw [← hg168] at hZ168
  obtain ⟨Y168, hY168⟩ : ∃ Yz : va_W, Yz = (q167, .inl (ca 1, 400, .inr (.inl (zLr (fun _ => 0))))) :: Y166 := ⟨_, rfl⟩
  replace hZ168 : zHx D ca ad15 lnM K15.2 L15 F56 B56 ((a, .inr (14, rg 107 g168)) :: (q167, .inl (ca 1, 400, .inr (.inl (zLr (fun _ => 0))))) :: Y166) A H168 := zHx.swp hZ168
  rw [← hY168] at hZ168
  replace hZ168 : zHx D ca ad15 lnM K15.2 L15 F56 B56 ((a, .inr (14, rg 107 g168)) :: Y168) A H168 := hZ168
  clear hZ167 hS167
  refine lv_aload_n hx hb d_15_11_730 rfl (lv_at hl 0 rfl) ?_
  refine lv_bipush (v := iI 8) hx hb d_15_11_731 (by decide) ?_
  refine zxnewa (atype := .int) hx hb hts (ty := .int) rfl k_1_57 hK 0 rfl (fun _ _ => gu_int) hZ168 hS168 hA (a0 := (8, .inl (zAr (fun _ => 0)))) (fun _ => rfl) (by decide) (N' := 8) (by decide) (Nat.le_of_ble_eq_true rfl) (Nat.le_of_ble_eq_true rfl) (Nat.le_of_ble_eq_true rfl) d_15_11_733 (fun q169 H169 hZ169 hS169 => ?_)
  replace hZ169 := zHx.rot hZ169
  replace hZ169 : zHx D ca ad15 lnM K15.2 L15 F56 B56 ((q169, .inl (ca 0, 8, .inl (zAr (fun _ => 0)))) :: (a, .inr (14, rg 107 g168)) :: Y168) A H169 := hZ169
  clear hZ168 hS168
  refine W.widen (k := 240) (n := 654810) (Nat.le_of_ble_eq_true rfl) (Nat.le_of_ble_eq_true rfl) ?_
  obtain ⟨g170, hg170⟩ : ∃ gz : Nat → Value, gz = va_up g168 88 (.ref q169) := ⟨_, rfl⟩
  refine zxputF hx hb hts inW_14 tyX14 tyX14_ok nmX14 hown hK hZ169 hS169 1 rfl rfl (k := 88) (by decide) k_11_86 rfl hnm rfl rfl rfl d_15_11_735 (fun H170 locs170 hZ170 hS170 => ?_)
  rw [← hg170] at hZ170
  obtain ⟨Y170, hY170⟩ : ∃ Yz : va_W, Yz = (q169, .inl (ca 0, 8, .inl (zAr (fun _ => 0)))) :: Y168 := ⟨_, rfl⟩
  replace hZ170 : zHx D ca ad15 lnM K15.2 L15 F56 B56 ((a, .inr (14, rg 107 g170)) :: (q169, .inl (ca 0, 8, .inl (zAr (fun _ => 0)))) :: Y168) A H170 := zHx.swp hZ170
  rw [← hY170] at hZ170
  replace hZ170 : zHx D ca ad15 lnM K15.2 L15 F56 B56 ((a, .inr (14, rg 107 g170)) :: Y170) A H170 := hZ170
  clear hZ169 hS169
  refine lv_aload_n hx hb d_15_11_738 rfl (lv_at hl 0 rfl) ?_
  refine lv_bipush (v := iI 6) hx hb d_15_11_739 (by decide) ?_
  refine zxnewa (atype := .int) hx hb hts (ty := .int) rfl k_1_57 hK 0 rfl (fun _ _ => gu_int) hZ170 hS170 hA (a0 := (6, .inl (zAr (fun _ => 0)))) (fun _ => rfl) (by decide) (N' := 6) (by decide) (Nat.le_of_ble_eq_true rfl) (Nat.le_of_ble_eq_true rfl) (Nat.le_of_ble_eq_true rfl) d_15_11_741 (fun q171 H171 hZ171 hS171 => ?_)
  replace hZ171 := zHx.rot hZ171
  replace hZ171 : zHx D ca ad15 lnM K15.2 L15 F56 B56 ((q171, .inl (ca 0, 6, .inl (zAr (fun _ => 0)))) :: (a, .inr (14, rg 107 g170)) :: Y170) A H171 := hZ171
  clear hZ170 hS170
  refine W.widen (k := 241) (n := 654816) (Nat.le_of_ble_eq_true rfl) (Nat.le_of_ble_eq_true rfl) ?_
  obtain ⟨g172, hg172⟩ : ∃ gz : Nat → Value, gz = va_up g170 95 (.ref q171) := ⟨_, rfl⟩
  refine zxputF hx hb hts inW_14 tyX14 tyX14_ok nmX14 hown hK hZ171 hS171 1 rfl rfl (k := 95) (by decide) k_11_93 rfl hnm rfl rfl rfl d_15_11_743 (fun H172 locs172 hZ172 hS172 => ?_)
  rw [← hg172] at hZ172
  obtain ⟨Y172, hY172⟩ : ∃ Yz : va_W, Yz = (q171, .inl (ca 0, 6, .inl (zAr (fun _ => 0)))) :: Y170 := ⟨_, rfl⟩
  replace hZ172 : zHx D ca ad15 lnM K15.2 L15 F56 B56 ((a, .inr (14, rg 107 g172)) :: (q171, .inl (ca 0, 6, .inl (zAr (fun _ => 0)))) :: Y170) A H172 := zHx.swp hZ172
  rw [← hY172] at hZ172
  replace hZ172 : zHx D ca ad15 lnM K15.2 L15 F56 B56 ((a, .inr (14, rg 107 g172)) :: Y172) A H172 := hZ172
  clear hZ171 hS171
  refine lv_aload_n hx hb d_15_11_746 rfl (lv_at hl 0 rfl) ?_
  refine lv_bipush (v := iI 89) hx hb d_15_11_747 (by decide) ?_
  refine zxnewa (atype := .int) hx hb hts (ty := .int) rfl k_1_57 hK 0 rfl (fun _ _ => gu_int) hZ172 hS172 hA (a0 := (89, .inl (zAr (fun _ => 0)))) (fun _ => rfl) (by decide) (N' := 89) (by decide) (Nat.le_of_ble_eq_true rfl) (Nat.le_of_ble_eq_true rfl) (Nat.le_of_ble_eq_true rfl) d_15_11_749 (fun q173 H173 hZ173 hS173 => ?_)
  replace hZ173 := zHx.rot hZ173
  replace hZ173 : zHx D ca ad15 lnM K15.2 L15 F56 B56 ((q173, .inl (ca 0, 89, .inl (zAr (fun _ => 0)))) :: (a, .inr (14, rg 107 g172)) :: Y172) A H173 := hZ173
  clear hZ172 hS172
  refine W.widen (k := 242) (n := 654905) (Nat.le_of_ble_eq_true rfl) (Nat.le_of_ble_eq_true rfl) ?_
  refine lv_dup hx hb d_15_11_751 rfl ?_
  refine lv_iconst (v := iI 0) hx hb d_15_11_752 rfl ?_
  refine lv_bipush (v := iI 7) hx hb d_15_11_753 (by decide) ?_
  refine zxiast hx hb hK hZ173 hS173 0 0 rfl rfl (by decide) (by decide) (Nat.le_of_ble_eq_true rfl) d_15_11_755 (fun H174 locs174 hZ174 hS174 => ?_)
  replace hZ174 : zHx D ca ad15 lnM K15.2 L15 F56 B56 ((q173, .inl (ca 0, 89, .inl (zAr (zup (fun _ => 0) 0 7)))) :: (a, .inr (14, rg 107 g172)) :: Y172) A H174 := hZ174
  clear hZ173 hS173
  refine lv_dup hx hb d_15_11_756 rfl ?_
  refine lv_iconst (v := iI 1) hx hb d_15_11_757 rfl ?_
  refine lv_bipush (v := iI 8) hx hb d_15_11_758 (by decide) ?_
  refine zxiast hx hb hK hZ174 hS174 0 0 rfl rfl (by decide) (by decide) (Nat.le_of_ble_eq_true rfl) d_15_11_760 (fun H175 locs175 hZ175 hS175 => ?_)
  replace hZ175 : zHx D ca ad15 lnM K15.2 L15 F56 B56 ((q173, .inl (ca 0, 89, .inl (zAr (zup (zup (fun _ => 0) 0 7) 1 8)))) :: (a, .inr (14, rg 107 g172)) :: Y172) A H175 := hZ175
  clear hZ174 hS174
  refine lv_dup hx hb d_15_11_761 rfl ?_
  refine lv_iconst (v := iI 2) hx hb d_15_11_762 rfl ?_
  refine lv_bipush (v := iI 9) hx hb d_15_11_763 (by decide) ?_
  refine zxiast hx hb hK hZ175 hS175 0 0 rfl rfl (by decide) (by decide) (Nat.le_of_ble_eq_true rfl) d_15_11_765 (fun H176 locs176 hZ176 hS176 => ?_)
  replace hZ176 : zHx D ca ad15 lnM K15.2 L15 F56 B56 ((q173, .inl (ca 0, 89, .inl (zAr (zup (zup (zup (fun _ => 0) 0 7) 1 8) 2 9)))) :: (a, .inr (14, rg 107 g172)) :: Y172) A H176 := hZ176
  clear hZ175 hS175
  refine lv_dup hx hb d_15_11_766 rfl ?_
  refine lv_iconst (v := iI 3) hx hb d_15_11_767 rfl ?_
  refine lv_bipush (v := iI 10) hx hb d_15_11_768 (by decide) ?_
  refine zxiast hx hb hK hZ176 hS176 0 0 rfl rfl (by decide) (by decide) (Nat.le_of_ble_eq_true rfl) d_15_11_770 (fun H177 locs177 hZ177 hS177 => ?_)
  replace hZ177 : zHx D ca ad15 lnM K15.2 L15 F56 B56 ((q173, .inl (ca 0, 89, .inl (zAr (zup (zup (zup (zup (fun _ => 0) 0 7) 1 8) 2 9) 3 10)))) :: (a, .inr (14, rg 107 g172)) :: Y172) A H177 := hZ177
  clear hZ176 hS176
  refine lv_dup hx hb d_15_11_771 rfl ?_
  refine lv_iconst (v := iI 4) hx hb d_15_11_772 rfl ?_
  refine lv_bipush (v := iI 11) hx hb d_15_11_773 (by decide) ?_
  refine zxiast hx hb hK hZ177 hS177 0 0 rfl rfl (by decide) (by decide) (Nat.le_of_ble_eq_true rfl) d_15_11_775 (fun H178 locs178 hZ178 hS178 => ?_)
  replace hZ178 : zHx D ca ad15 lnM K15.2 L15 F56 B56 ((q173, .inl (ca 0, 89, .inl (zAr (zup (zup (zup (zup (zup (fun _ => 0) 0 7) 1 8) 2 9) 3 10) 4 11)))) :: (a, .inr (14, rg 107 g172)) :: Y172) A H178 := hZ178
  clear hZ177 hS177
  refine lv_dup hx hb d_15_11_776 rfl ?_
  refine lv_iconst (v := iI 5) hx hb d_15_11_777 rfl ?_
  refine lv_bipush (v := iI 12) hx hb d_15_11_778 (by decide) ?_
  refine zxiast hx hb hK hZ178 hS178 0 0 rfl rfl (by decide) (by decide) (Nat.le_of_ble_eq_true rfl) d_15_11_780 (fun H179 locs179 hZ179 hS179 => ?_)
  replace hZ179 : zHx D ca ad15 lnM K15.2 L15 F56 B56 ((q173, .inl (ca 0, 89, .inl (zAr (zup (zup (zup (zup (zup (zup (fun _ => 0) 0 7) 1 8) 2 9) 3 10) 4 11) 5 12)))) :: (a, .inr (14, rg 107 g172)) :: Y172) A H179 := hZ179
  clear hZ178 hS178
  refine lv_dup hx hb d_15_11_781 rfl ?_
  refine lv_bipush (v := iI 6) hx hb d_15_11_782 (by decide) ?_
  refine lv_bipush (v := iI 13) hx hb d_15_11_784 (by decide) ?_
  refine zxiast hx hb hK hZ179 hS179 0 0 rfl rfl (by decide) (by decide) (Nat.le_of_ble_eq_true rfl) d_15_11_786 (fun H180 locs180 hZ180 hS180 => ?_)
  replace hZ180 : zHx D ca ad15 lnM K15.2 L15 F56 B56 ((q173, .inl (ca 0, 89, .inl (zAr (zup (zup (zup (zup (zup (zup (zup (fun _ => 0) 0 7) 1 8) 2 9) 3 10) 4 11) 5 12) 6 13)))) :: (a, .inr (14, rg 107 g172)) :: Y172) A H180 := hZ180
  clear hZ179 hS179
  refine lv_dup hx hb d_15_11_787 rfl ?_
  refine lv_bipush (v := iI 7) hx hb d_15_11_788 (by decide) ?_
  refine lv_bipush (v := iI 14) hx hb d_15_11_790 (by decide) ?_
  refine zxiast hx hb hK hZ180 hS180 0 0 rfl rfl (by decide) (by decide) (Nat.le_of_ble_eq_true rfl) d_15_11_792 (fun H181 locs181 hZ181 hS181 => ?_)
  replace hZ181 : zHx D ca ad15 lnM K15.2 L15 F56 B56 ((q173, .inl (ca 0, 89, .inl (zAr (zup (zup (zup (zup (zup (zup (zup (zup (fun _ => 0) 0 7) 1 8) 2 9) 3 10) 4 11) 5 12) 6 13) 7 14)))) :: (a, .inr (14, rg 107 g172)) :: Y172) A H181 := hZ181
  clear hZ180 hS180
  refine lv_dup hx hb d_15_11_793 rfl ?_
  refine lv_bipush (v := iI 8) hx hb d_15_11_794 (by decide) ?_
  refine lv_bipush (v := iI 16) hx hb d_15_11_796 (by decide) ?_
  refine zxiast hx hb hK hZ181 hS181 0 0 rfl rfl (by decide) (by decide) (Nat.le_of_ble_eq_true rfl) d_15_11_798 (fun H182 locs182 hZ182 hS182 => ?_)
  replace hZ182 : zHx D ca ad15 lnM K15.2 L15 F56 B56 ((q173, .inl (ca 0, 89, .inl (zAr (zup (zup (zup (zup (zup (zup (zup (zup (zup (fun _ => 0) 0 7) 1 8) 2 9) 3 10) 4 11) 5 12) 6 13) 7 14) 8 16)))) :: (a, .inr (14, rg 107 g172)) :: Y172) A H182 := hZ182
  clear hZ181 hS181
  refine lv_dup hx hb d_15_11_799 rfl ?_
  refine lv_bipush (v := iI 9) hx hb d_15_11_800 (by decide) ?_
  refine lv_bipush (v := iI 17) hx hb d_15_11_802 (by decide) ?_
  refine zxiast hx hb hK hZ182 hS182 0 0 rfl rfl (by decide) (by decide) (Nat.le_of_ble_eq_true rfl) d_15_11_804 (fun H183 locs183 hZ183 hS183 => ?_)
  replace hZ183 : zHx D ca ad15 lnM K15.2 L15 F56 B56 ((q173, .inl (ca 0, 89, .inl (zAr (zup (zup (zup (zup (zup (zup (zup (zup (zup (zup (fun _ => 0) 0 7) 1 8) 2 9) 3 10) 4 11) 5 12) 6 13) 7 14) 8 16) 9 17)))) :: (a, .inr (14, rg 107 g172)) :: Y172) A H183 := hZ183
  clear hZ182 hS182
  refine lv_dup hx hb d_15_11_805 rfl ?_
  refine lv_bipush (v := iI 10) hx hb d_15_11_806 (by decide) ?_
  refine lv_bipush (v := iI 19) hx hb d_15_11_808 (by decide) ?_
  refine zxiast hx hb hK hZ183 hS183 0 0 rfl rfl (by decide) (by decide) (Nat.le_of_ble_eq_true rfl) d_15_11_810 (fun H184 locs184 hZ184 hS184 => ?_)
  replace hZ184 : zHx D ca ad15 lnM K15.2 L15 F56 B56 ((q173, .inl (ca 0, 89, .inl (zAr (zup (zup (zup (zup (zup (zup (zup (zup (zup (zup (zup (fun _ => 0) 0 7) 1 8) 2 9) 3 10) 4 11) 5 12) 6 13) 7 14) 8 16) 9 17) 10 19)))) :: (a, .inr (14, rg 107 g172)) :: Y172) A H184 := hZ184
  clear hZ183 hS183
  refine lv_dup hx hb d_15_11_811 rfl ?_
  refine lv_bipush (v := iI 11) hx hb d_15_11_812 (by decide) ?_
  refine lv_bipush (v := iI 21) hx hb d_15_11_814 (by decide) ?_
  refine zxiast hx hb hK hZ184 hS184 0 0 rfl rfl (by decide) (by decide) (Nat.le_of_ble_eq_true rfl) d_15_11_816 (fun H185 locs185 hZ185 hS185 => ?_)
  replace hZ185 : zHx D ca ad15 lnM K15.2 L15 F56 B56 ((q173, .inl (ca 0, 89, .inl (zAr (zup (zup (zup (zup (zup (zup (zup (zup (zup (zup (zup (zup (fun _ => 0) 0 7) 1 8) 2 9) 3 10) 4 11) 5 12) 6 13) 7 14) 8 16) 9 17) 10 19) 11 21)))) :: (a, .inr (14, rg 107 g172)) :: Y172) A H185 := hZ185
  clear hZ184 hS184
  refine lv_dup hx hb d_15_11_817 rfl ?_
  refine lv_bipush (v := iI 12) hx hb d_15_11_818 (by decide) ?_
  refine lv_bipush (v := iI 23) hx hb d_15_11_820 (by decide) ?_
  refine zxiast hx hb hK hZ185 hS185 0 0 rfl rfl (by decide) (by decide) (Nat.le_of_ble_eq_true rfl) d_15_11_822 (fun H186 locs186 hZ186 hS186 => ?_)
  replace hZ186 : zHx D ca ad15 lnM K15.2 L15 F56 B56 ((q173, .inl (ca 0, 89, .inl (zAr (zup (zup (zup (zup (zup (zup (zup (zup (zup (zup (zup (zup (zup (fun _ => 0) 0 7) 1 8) 2 9) 3 10) 4 11) 5 12) 6 13) 7 14) 8 16) 9 17) 10 19) 11 21) 12 23)))) :: (a, .inr (14, rg 107 g172)) :: Y172) A H186 := hZ186
  clear hZ185 hS185
  refine lv_dup hx hb d_15_11_823 rfl ?_
  refine lv_bipush (v := iI 13) hx hb d_15_11_824 (by decide) ?_
  refine lv_bipush (v := iI 25) hx hb d_15_11_826 (by decide) ?_
  refine zxiast hx hb hK hZ186 hS186 0 0 rfl rfl (by decide) (by decide) (Nat.le_of_ble_eq_true rfl) d_15_11_828 (fun H187 locs187 hZ187 hS187 => ?_)
  replace hZ187 : zHx D ca ad15 lnM K15.2 L15 F56 B56 ((q173, .inl (ca 0, 89, .inl (zAr (zup (zup (zup (zup (zup (zup (zup (zup (zup (zup (zup (zup (zup (zup (fun _ => 0) 0 7) 1 8) 2 9) 3 10) 4 11) 5 12) 6 13) 7 14) 8 16) 9 17) 10 19) 11 21) 12 23) 13 25)))) :: (a, .inr (14, rg 107 g172)) :: Y172) A H187 := hZ187
  clear hZ186 hS186
  refine lv_dup hx hb d_15_11_829 rfl ?_
  refine lv_bipush (v := iI 14) hx hb d_15_11_830 (by decide) ?_
  refine lv_bipush (v := iI 28) hx hb d_15_11_832 (by decide) ?_
  refine zxiast hx hb hK hZ187 hS187 0 0 rfl rfl (by decide) (by decide) (Nat.le_of_ble_eq_true rfl) d_15_11_834 (fun H188 locs188 hZ188 hS188 => ?_)
  replace hZ188 : zHx D ca ad15 lnM K15.2 L15 F56 B56 ((q173, .inl (ca 0, 89, .inl (zAr (zup (zup (zup (zup (zup (zup (zup (zup (zup (zup (zup (zup (zup (zup (zup (fun _ => 0) 0 7) 1 8) 2 9) 3 10) 4 11) 5 12) 6 13) 7 14) 8 16) 9 17) 10 19) 11 21) 12 23) 13 25) 14 28)))) :: (a, .inr (14, rg 107 g172)) :: Y172) A H188 := hZ188
  clear hZ187 hS187
  refine lv_dup hx hb d_15_11_835 rfl ?_
  refine lv_bipush (v := iI 15) hx hb d_15_11_836 (by decide) ?_
  refine lv_bipush (v := iI 31) hx hb d_15_11_838 (by decide) ?_
  refine zxiast hx hb hK hZ188 hS188 0 0 rfl rfl (by decide) (by decide) (Nat.le_of_ble_eq_true rfl) d_15_11_840 (fun H189 locs189 hZ189 hS189 => ?_)
  replace hZ189 : zHx D ca ad15 lnM K15.2 L15 F56 B56 ((q173, .inl (ca 0, 89, .inl (zAr (zup (zup (zup (zup (zup (zup (zup (zup (zup (zup (zup (zup (zup (zup (zup (zup (fun _ => 0) 0 7) 1 8) 2 9) 3 10) 4 11) 5 12) 6 13) 7 14) 8 16) 9 17) 10 19) 11 21) 12 23) 13 25) 14 28) 15 31)))) :: (a, .inr (14, rg 107 g172)) :: Y172) A H189 := hZ189
  clear hZ188 hS188
  refine lv_dup hx hb d_15_11_841 rfl ?_
  refine lv_bipush (v := iI 16) hx hb d_15_11_842 (by decide) ?_
  refine lv_bipush (v := iI 34) hx hb d_15_11_844 (by decide) ?_
  refine zxiast hx hb hK hZ189 hS189 0 0 rfl rfl (by decide) (by decide) (Nat.le_of_ble_eq_true rfl) d_15_11_846 (fun H190 locs190 hZ190 hS190 => ?_)
  replace hZ190 : zHx D ca ad15 lnM K15.2 L15 F56 B56 ((q173, .inl (ca 0, 89, .inl (zAr (zup (zup (zup (zup (zup (zup (zup (zup (zup (zup (zup (zup (zup (zup (zup (zup (zup (fun _ => 0) 0 7) 1 8) 2 9) 3 10) 4 11) 5 12) 6 13) 7 14) 8 16) 9 17) 10 19) 11 21) 12 23) 13 25) 14 28) 15 31) 16 34)))) :: (a, .inr (14, rg 107 g172)) :: Y172) A H190 := hZ190
  clear hZ189 hS189
  refine lv_dup hx hb d_15_11_847 rfl ?_
  refine lv_bipush (v := iI 17) hx hb d_15_11_848 (by decide) ?_
  refine lv_bipush (v := iI 37) hx hb d_15_11_850 (by decide) ?_
  refine zxiast hx hb hK hZ190 hS190 0 0 rfl rfl (by decide) (by decide) (Nat.le_of_ble_eq_true rfl) d_15_11_852 (fun H191 locs191 hZ191 hS191 => ?_)
  replace hZ191 : zHx D ca ad15 lnM K15.2 L15 F56 B56 ((q173, .inl (ca 0, 89, .inl (zAr (zup (zup (zup (zup (zup (zup (zup (zup (zup (zup (zup (zup (zup (zup (zup (zup (zup (zup (fun _ => 0) 0 7) 1 8) 2 9) 3 10) 4 11) 5 12) 6 13) 7 14) 8 16) 9 17) 10 19) 11 21) 12 23) 13 25) 14 28) 15 31) 16 34) 17 37)))) :: (a, .inr (14, rg 107 g172)) :: Y172) A H191 := hZ191
  clear hZ190 hS190
  refine lv_dup hx hb d_15_11_853 rfl ?_
  refine lv_bipush (v := iI 18) hx hb d_15_11_854 (by decide) ?_
  refine lv_bipush (v := iI 41) hx hb d_15_11_856 (by decide) ?_
  refine zxiast hx hb hK hZ191 hS191 0 0 rfl rfl (by decide) (by decide) (Nat.le_of_ble_eq_true rfl) d_15_11_858 (fun H192 locs192 hZ192 hS192 => ?_)
  replace hZ192 : zHx D ca ad15 lnM K15.2 L15 F56 B56 ((q173, .inl (ca 0, 89, .inl (zAr (zup (zup (zup (zup (zup (zup (zup (zup (zup (zup (zup (zup (zup (zup (zup (zup (zup (zup (zup (fun _ => 0) 0 7) 1 8) 2 9) 3 10) 4 11) 5 12) 6 13) 7 14) 8 16) 9 17) 10 19) 11 21) 12 23) 13 25) 14 28) 15 31) 16 34) 17 37) 18 41)))) :: (a, .inr (14, rg 107 g172)) :: Y172) A H192 := hZ192
  clear hZ191 hS191
  refine lv_dup hx hb d_15_11_859 rfl ?_
  refine lv_bipush (v := iI 19) hx hb d_15_11_860 (by decide) ?_
  refine lv_bipush (v := iI 45) hx hb d_15_11_862 (by decide) ?_
  refine zxiast hx hb hK hZ192 hS192 0 0 rfl rfl (by decide) (by decide) (Nat.le_of_ble_eq_true rfl) d_15_11_864 (fun H193 locs193 hZ193 hS193 => ?_)
  replace hZ193 : zHx D ca ad15 lnM K15.2 L15 F56 B56 ((q173, .inl (ca 0, 89, .inl (zAr (zup (zup (zup (zup (zup (zup (zup (zup (zup (zup (zup (zup (zup (zup (zup (zup (zup (zup (zup (zup (fun _ => 0) 0 7) 1 8) 2 9) 3 10) 4 11) 5 12) 6 13) 7 14) 8 16) 9 17) 10 19) 11 21) 12 23) 13 25) 14 28) 15 31) 16 34) 17 37) 18 41) 19 45)))) :: (a, .inr (14, rg 107 g172)) :: Y172) A H193 := hZ193
  clear hZ192 hS192
  refine lv_dup hx hb d_15_11_865 rfl ?_
  refine lv_bipush (v := iI 20) hx hb d_15_11_866 (by decide) ?_
  refine lv_bipush (v := iI 50) hx hb d_15_11_868 (by decide) ?_
  refine zxiast hx hb hK hZ193 hS193 0 0 rfl rfl (by decide) (by decide) (Nat.le_of_ble_eq_true rfl) d_15_11_870 (fun H194 locs194 hZ194 hS194 => ?_)
  replace hZ194 : zHx D ca ad15 lnM K15.2 L15 F56 B56 ((q173, .inl (ca 0, 89, .inl (zAr (zup (zup (zup (zup (zup (zup (zup (zup (zup (zup (zup (zup (zup (zup (zup (zup (zup (zup (zup (zup (zup (fun _ => 0) 0 7) 1 8) 2 9) 3 10) 4 11) 5 12) 6 13) 7 14) 8 16) 9 17) 10 19) 11 21) 12 23) 13 25) 14 28) 15 31) 16 34) 17 37) 18 41) 19 45) 20 50)))) :: (a, .inr (14, rg 107 g172)) :: Y172) A H194 := hZ194
  clear hZ193 hS193
  refine lv_dup hx hb d_15_11_871 rfl ?_
  refine lv_bipush (v := iI 21) hx hb d_15_11_872 (by decide) ?_
  refine lv_bipush (v := iI 55) hx hb d_15_11_874 (by decide) ?_
  refine zxiast hx hb hK hZ194 hS194 0 0 rfl rfl (by decide) (by decide) (Nat.le_of_ble_eq_true rfl) d_15_11_876 (fun H195 locs195 hZ195 hS195 => ?_)
  replace hZ195 : zHx D ca ad15 lnM K15.2 L15 F56 B56 ((q173, .inl (ca 0, 89, .inl (zAr (zup (zup (zup (zup (zup (zup (zup (zup (zup (zup (zup (zup (zup (zup (zup (zup (zup (zup (zup (zup (zup (zup (fun _ => 0) 0 7) 1 8) 2 9) 3 10) 4 11) 5 12) 6 13) 7 14) 8 16) 9 17) 10 19) 11 21) 12 23) 13 25) 14 28) 15 31) 16 34) 17 37) 18 41) 19 45) 20 50) 21 55)))) :: (a, .inr (14, rg 107 g172)) :: Y172) A H195 := hZ195
  clear hZ194 hS194
  refine lv_dup hx hb d_15_11_877 rfl ?_
  refine lv_bipush (v := iI 22) hx hb d_15_11_878 (by decide) ?_
  refine lv_bipush (v := iI 60) hx hb d_15_11_880 (by decide) ?_
  refine zxiast hx hb hK hZ195 hS195 0 0 rfl rfl (by decide) (by decide) (Nat.le_of_ble_eq_true rfl) d_15_11_882 (fun H196 locs196 hZ196 hS196 => ?_)
  replace hZ196 : zHx D ca ad15 lnM K15.2 L15 F56 B56 ((q173, .inl (ca 0, 89, .inl (zAr (zup (zup (zup (zup (zup (zup (zup (zup (zup (zup (zup (zup (zup (zup (zup (zup (zup (zup (zup (zup (zup (zup (zup (fun _ => 0) 0 7) 1 8) 2 9) 3 10) 4 11) 5 12) 6 13) 7 14) 8 16) 9 17) 10 19) 11 21) 12 23) 13 25) 14 28) 15 31) 16 34) 17 37) 18 41) 19 45) 20 50) 21 55) 22 60)))) :: (a, .inr (14, rg 107 g172)) :: Y172) A H196 := hZ196
  clear hZ195 hS195
  refine lv_dup hx hb d_15_11_883 rfl ?_
  refine lv_bipush (v := iI 23) hx hb d_15_11_884 (by decide) ?_
  refine lv_bipush (v := iI 66) hx hb d_15_11_886 (by decide) ?_
  refine zxiast hx hb hK hZ196 hS196 0 0 rfl rfl (by decide) (by decide) (Nat.le_of_ble_eq_true rfl) d_15_11_888 (fun H197 locs197 hZ197 hS197 => ?_)
  replace hZ197 : zHx D ca ad15 lnM K15.2 L15 F56 B56 ((q173, .inl (ca 0, 89, .inl (zAr (zup (zup (zup (zup (zup (zup (zup (zup (zup (zup (zup (zup (zup (zup (zup (zup (zup (zup (zup (zup (zup (zup (zup (zup (fun _ => 0) 0 7) 1 8) 2 9) 3 10) 4 11) 5 12) 6 13) 7 14) 8 16) 9 17) 10 19) 11 21) 12 23) 13 25) 14 28) 15 31) 16 34) 17 37) 18 41) 19 45) 20 50) 21 55) 22 60) 23 66)))) :: (a, .inr (14, rg 107 g172)) :: Y172) A H197 := hZ197
  clear hZ196 hS196
  refine lv_dup hx hb d_15_11_889 rfl ?_
  refine lv_bipush (v := iI 24) hx hb d_15_11_890 (by decide) ?_
  refine lv_bipush (v := iI 73) hx hb d_15_11_892 (by decide) ?_
  refine zxiast hx hb hK hZ197 hS197 0 0 rfl rfl (by decide) (by decide) (Nat.le_of_ble_eq_true rfl) d_15_11_894 (fun H198 locs198 hZ198 hS198 => ?_)
  replace hZ198 : zHx D ca ad15 lnM K15.2 L15 F56 B56 ((q173, .inl (ca 0, 89, .inl (zAr (zup (zup (zup (zup (zup (zup (zup (zup (zup (zup (zup (zup (zup (zup (zup (zup (zup (zup (zup (zup (zup (zup (zup (zup (zup (fun _ => 0) 0 7) 1 8) 2 9) 3 10) 4 11) 5 12) 6 13) 7 14) 8 16) 9 17) 10 19) 11 21) 12 23) 13 25) 14 28) 15 31) 16 34) 17 37) 18 41) 19 45) 20 50) 21 55) 22 60) 23 66) 24 73)))) :: (a, .inr (14, rg 107 g172)) :: Y172) A H198 := hZ198
  clear hZ197 hS197
  refine lv_dup hx hb d_15_11_895 rfl ?_
  refine lv_bipush (v := iI 25) hx hb d_15_11_896 (by decide) ?_
  refine lv_bipush (v := iI 80) hx hb d_15_11_898 (by decide) ?_
  refine zxiast hx hb hK hZ198 hS198 0 0 rfl rfl (by decide) (by decide) (Nat.le_of_ble_eq_true rfl) d_15_11_900 (fun H199 locs199 hZ199 hS199 => ?_)
  replace hZ199 : zHx D ca ad15 lnM K15.2 L15 F56 B56 ((q173, .inl (ca 0, 89, .inl (zAr (zup (zup (zup (zup (zup (zup (zup (zup (zup (zup (zup (zup (zup (zup (zup (zup (zup (zup (zup (zup (zup (zup (zup (zup (zup (zup (fun _ => 0) 0 7) 1 8) 2 9) 3 10) 4 11) 5 12) 6 13) 7 14) 8 16) 9 17) 10 19) 11 21) 12 23) 13 25) 14 28) 15 31) 16 34) 17 37) 18 41) 19 45) 20 50) 21 55) 22 60) 23 66) 24 73) 25 80)))) :: (a, .inr (14, rg 107 g172)) :: Y172) A H199 := hZ199
  clear hZ198 hS198
  refine lv_dup hx hb d_15_11_901 rfl ?_
  refine lv_bipush (v := iI 26) hx hb d_15_11_902 (by decide) ?_
  refine lv_bipush (v := iI 88) hx hb d_15_11_904 (by decide) ?_
  refine zxiast hx hb hK hZ199 hS199 0 0 rfl rfl (by decide) (by decide) (Nat.le_of_ble_eq_true rfl) d_15_11_906 (fun H200 locs200 hZ200 hS200 => ?_)
  replace hZ200 : zHx D ca ad15 lnM K15.2 L15 F56 B56 ((q173, .inl (ca 0, 89, .inl (zAr (zup (zup (zup (zup (zup (zup (zup (zup (zup (zup (zup (zup (zup (zup (zup (zup (zup (zup (zup (zup (zup (zup (zup (zup (zup (zup (zup (fun _ => 0) 0 7) 1 8) 2 9) 3 10) 4 11) 5 12) 6 13) 7 14) 8 16) 9 17) 10 19) 11 21) 12 23) 13 25) 14 28) 15 31) 16 34) 17 37) 18 41) 19 45) 20 50) 21 55) 22 60) 23 66) 24 73) 25 80) 26 88)))) :: (a, .inr (14, rg 107 g172)) :: Y172) A H200 := hZ200
  clear hZ199 hS199
  refine lv_dup hx hb d_15_11_907 rfl ?_
  refine lv_bipush (v := iI 27) hx hb d_15_11_908 (by decide) ?_
  refine lv_bipush (v := iI 97) hx hb d_15_11_910 (by decide) ?_
  refine zxiast hx hb hK hZ200 hS200 0 0 rfl rfl (by decide) (by decide) (Nat.le_of_ble_eq_true rfl) d_15_11_912 (fun H201 locs201 hZ201 hS201 => ?_)
  replace hZ201 : zHx D ca ad15 lnM K15.2 L15 F56 B56 ((q173, .inl (ca 0, 89, .inl (zAr (zup (zup (zup (zup (zup (zup (zup (zup (zup (zup (zup (zup (zup (zup (zup (zup (zup (zup (zup (zup (zup (zup (zup (zup (zup (zup (zup (zup (fun _ => 0) 0 7) 1 8) 2 9) 3 10) 4 11) 5 12) 6 13) 7 14) 8 16) 9 17) 10 19) 11 21) 12 23) 13 25) 14 28) 15 31) 16 34) 17 37) 18 41) 19 45) 20 50) 21 55) 22 60) 23 66) 24 73) 25 80) 26 88) 27 97)))) :: (a, .inr (14, rg 107 g172)) :: Y172) A H201 := hZ201
  clear hZ200 hS200
  refine lv_dup hx hb d_15_11_913 rfl ?_
  refine lv_bipush (v := iI 28) hx hb d_15_11_914 (by decide) ?_
  refine lv_bipush (v := iI 107) hx hb d_15_11_916 (by decide) ?_
  refine zxiast hx hb hK hZ201 hS201 0 0 rfl rfl (by decide) (by decide) (Nat.le_of_ble_eq_true rfl) d_15_11_918 (fun H202 locs202 hZ202 hS202 => ?_)
  replace hZ202 : zHx D ca ad15 lnM K15.2 L15 F56 B56 ((q173, .inl (ca 0, 89, .inl (zAr (zup (zup (zup (zup (zup (zup (zup (zup (zup (zup (zup (zup (zup (zup (zup (zup (zup (zup (zup (zup (zup (zup (zup (zup (zup (zup (zup (zup (zup (fun _ => 0) 0 7) 1 8) 2 9) 3 10) 4 11) 5 12) 6 13) 7 14) 8 16) 9 17) 10 19) 11 21) 12 23) 13 25) 14 28) 15 31) 16 34) 17 37) 18 41) 19 45) 20 50) 21 55) 22 60) 23 66) 24 73) 25 80) 26 88) 27 97) 28 107)))) :: (a, .inr (14, rg 107 g172)) :: Y172) A H202 := hZ202
  clear hZ201 hS201
  refine lv_dup hx hb d_15_11_919 rfl ?_
  refine lv_bipush (v := iI 29) hx hb d_15_11_920 (by decide) ?_
  refine lv_bipush (v := iI 118) hx hb d_15_11_922 (by decide) ?_
  refine zxiast hx hb hK hZ202 hS202 0 0 rfl rfl (by decide) (by decide) (Nat.le_of_ble_eq_true rfl) d_15_11_924 (fun H203 locs203 hZ203 hS203 => ?_)
  replace hZ203 : zHx D ca ad15 lnM K15.2 L15 F56 B56 ((q173, .inl (ca 0, 89, .inl (zAr (zup (zup (zup (zup (zup (zup (zup (zup (zup (zup (zup (zup (zup (zup (zup (zup (zup (zup (zup (zup (zup (zup (zup (zup (zup (zup (zup (zup (zup (zup (fun _ => 0) 0 7) 1 8) 2 9) 3 10) 4 11) 5 12) 6 13) 7 14) 8 16) 9 17) 10 19) 11 21) 12 23) 13 25) 14 28) 15 31) 16 34) 17 37) 18 41) 19 45) 20 50) 21 55) 22 60) 23 66) 24 73) 25 80) 26 88) 27 97) 28 107) 29 118)))) :: (a, .inr (14, rg 107 g172)) :: Y172) A H203 := hZ203
  clear hZ202 hS202
  refine lv_dup hx hb d_15_11_925 rfl ?_
  refine lv_bipush (v := iI 30) hx hb d_15_11_926 (by decide) ?_
  refine lv_sipush (v := iI 130) hx hb d_15_11_928 (by decide) ?_
  refine zxiast hx hb hK hZ203 hS203 0 0 rfl rfl (by decide) (by decide) (Nat.le_of_ble_eq_true rfl) d_15_11_931 (fun H204 locs204 hZ204 hS204 => ?_)
  replace hZ204 : zHx D ca ad15 lnM K15.2 L15 F56 B56 ((q173, .inl (ca 0, 89, .inl (zAr (zup (zup (zup (zup (zup (zup (zup (zup (zup (zup (zup (zup (zup (zup (zup (zup (zup (zup (zup (zup (zup (zup (zup (zup (zup (zup (zup (zup (zup (zup (zup (fun _ => 0) 0 7) 1 8) 2 9) 3 10) 4 11) 5 12) 6 13) 7 14) 8 16) 9 17) 10 19) 11 21) 12 23) 13 25) 14 28) 15 31) 16 34) 17 37) 18 41) 19 45) 20 50) 21 55) 22 60) 23 66) 24 73) 25 80) 26 88) 27 97) 28 107) 29 118) 30 130)))) :: (a, .inr (14, rg 107 g172)) :: Y172) A H204 := hZ204
  clear hZ203 hS203
  refine lv_dup hx hb d_15_11_932 rfl ?_
  refine lv_bipush (v := iI 31) hx hb d_15_11_933 (by decide) ?_
  refine lv_sipush (v := iI 143) hx hb d_15_11_935 (by decide) ?_
  refine zxiast hx hb hK hZ204 hS204 0 0 rfl rfl (by decide) (by decide) (Nat.le_of_ble_eq_true rfl) d_15_11_938 (fun H205 locs205 hZ205 hS205 => ?_)
  replace hZ205 : zHx D ca ad15 lnM K15.2 L15 F56 B56 ((q173, .inl (ca 0, 89, .inl (zAr (zup (zup (zup (zup (zup (zup (zup (zup (zup (zup (zup (zup (zup (zup (zup (zup (zup (zup (zup (zup (zup (zup (zup (zup (zup (zup (zup (zup (zup (zup (zup (zup (fun _ => 0) 0 7) 1 8) 2 9) 3 10) 4 11) 5 12) 6 13) 7 14) 8 16) 9 17) 10 19) 11 21) 12 23) 13 25) 14 28) 15 31) 16 34) 17 37) 18 41) 19 45) 20 50) 21 55) 22 60) 23 66) 24 73) 25 80) 26 88) 27 97) 28 107) 29 118) 30 130) 31 143)))) :: (a, .inr (14, rg 107 g172)) :: Y172) A H205 := hZ205
  clear hZ204 hS204
  refine lv_dup hx hb d_15_11_939 rfl ?_
  refine lv_bipush (v := iI 32) hx hb d_15_11_940 (by decide) ?_
  refine lv_sipush (v := iI 157) hx hb d_15_11_942 (by decide) ?_
  refine zxiast hx hb hK hZ205 hS205 0 0 rfl rfl (by decide) (by decide) (Nat.le_of_ble_eq_true rfl) d_15_11_945 (fun H206 locs206 hZ206 hS206 => ?_)
  replace hZ206 : zHx D ca ad15 lnM K15.2 L15 F56 B56 ((q173, .inl (ca 0, 89, .inl (zAr (zup (zup (zup (zup (zup (zup (zup (zup (zup (zup (zup (zup (zup (zup (zup (zup (zup (zup (zup (zup (zup (zup (zup (zup (zup (zup (zup (zup (zup (zup (zup (zup (zup (fun _ => 0) 0 7) 1 8) 2 9) 3 10) 4 11) 5 12) 6 13) 7 14) 8 16) 9 17) 10 19) 11 21) 12 23) 13 25) 14 28) 15 31) 16 34) 17 37) 18 41) 19 45) 20 50) 21 55) 22 60) 23 66) 24 73) 25 80) 26 88) 27 97) 28 107) 29 118) 30 130) 31 143) 32 157)))) :: (a, .inr (14, rg 107 g172)) :: Y172) A H206 := hZ206
  clear hZ205 hS205
  refine lv_dup hx hb d_15_11_946 rfl ?_
  refine lv_bipush (v := iI 33) hx hb d_15_11_947 (by decide) ?_
  refine lv_sipush (v := iI 173) hx hb d_15_11_949 (by decide) ?_
  refine zxiast hx hb hK hZ206 hS206 0 0 rfl rfl (by decide) (by decide) (Nat.le_of_ble_eq_true rfl) d_15_11_952 (fun H207 locs207 hZ207 hS207 => ?_)
  replace hZ207 : zHx D ca ad15 lnM K15.2 L15 F56 B56 ((q173, .inl (ca 0, 89, .inl (zAr (zup (zup (zup (zup (zup (zup (zup (zup (zup (zup (zup (zup (zup (zup (zup (zup (zup (zup (zup (zup (zup (zup (zup (zup (zup (zup (zup (zup (zup (zup (zup (zup (zup (zup (fun _ => 0) 0 7) 1 8) 2 9) 3 10) 4 11) 5 12) 6 13) 7 14) 8 16) 9 17) 10 19) 11 21) 12 23) 13 25) 14 28) 15 31) 16 34) 17 37) 18 41) 19 45) 20 50) 21 55) 22 60) 23 66) 24 73) 25 80) 26 88) 27 97) 28 107) 29 118) 30 130) 31 143) 32 157) 33 173)))) :: (a, .inr (14, rg 107 g172)) :: Y172) A H207 := hZ207
  clear hZ206 hS206
  refine lv_dup hx hb d_15_11_953 rfl ?_
  refine lv_bipush (v := iI 34) hx hb d_15_11_954 (by decide) ?_
  refine lv_sipush (v := iI 190) hx hb d_15_11_956 (by decide) ?_
  refine zxiast hx hb hK hZ207 hS207 0 0 rfl rfl (by decide) (by decide) (Nat.le_of_ble_eq_true rfl) d_15_11_959 (fun H208 locs208 hZ208 hS208 => ?_)
  replace hZ208 : zHx D ca ad15 lnM K15.2 L15 F56 B56 ((q173, .inl (ca 0, 89, .inl (zAr (zup (zup (zup (zup (zup (zup (zup (zup (zup (zup (zup (zup (zup (zup (zup (zup (zup (zup (zup (zup (zup (zup (zup (zup (zup (zup (zup (zup (zup (zup (zup (zup (zup (zup (zup (fun _ => 0) 0 7) 1 8) 2 9) 3 10) 4 11) 5 12) 6 13) 7 14) 8 16) 9 17) 10 19) 11 21) 12 23) 13 25) 14 28) 15 31) 16 34) 17 37) 18 41) 19 45) 20 50) 21 55) 22 60) 23 66) 24 73) 25 80) 26 88) 27 97) 28 107) 29 118) 30 130) 31 143) 32 157) 33 173) 34 190)))) :: (a, .inr (14, rg 107 g172)) :: Y172) A H208 := hZ208
  clear hZ207 hS207
  refine lv_dup hx hb d_15_11_960 rfl ?_
  refine lv_bipush (v := iI 35) hx hb d_15_11_961 (by decide) ?_
  refine lv_sipush (v := iI 209) hx hb d_15_11_963 (by decide) ?_
  refine zxiast hx hb hK hZ208 hS208 0 0 rfl rfl (by decide) (by decide) (Nat.le_of_ble_eq_true rfl) d_15_11_966 (fun H209 locs209 hZ209 hS209 => ?_)
  replace hZ209 : zHx D ca ad15 lnM K15.2 L15 F56 B56 ((q173, .inl (ca 0, 89, .inl (zAr (zup (zup (zup (zup (zup (zup (zup (zup (zup (zup (zup (zup (zup (zup (zup (zup (zup (zup (zup (zup (zup (zup (zup (zup (zup (zup (zup (zup (zup (zup (zup (zup (zup (zup (zup (zup (fun _ => 0) 0 7) 1 8) 2 9) 3 10) 4 11) 5 12) 6 13) 7 14) 8 16) 9 17) 10 19) 11 21) 12 23) 13 25) 14 28) 15 31) 16 34) 17 37) 18 41) 19 45) 20 50) 21 55) 22 60) 23 66) 24 73) 25 80) 26 88) 27 97) 28 107) 29 118) 30 130) 31 143) 32 157) 33 173) 34 190) 35 209)))) :: (a, .inr (14, rg 107 g172)) :: Y172) A H209 := hZ209
  clear hZ208 hS208
  refine lv_dup hx hb d_15_11_967 rfl ?_
  refine lv_bipush (v := iI 36) hx hb d_15_11_968 (by decide) ?_
  refine lv_sipush (v := iI 230) hx hb d_15_11_970 (by decide) ?_
  refine zxiast hx hb hK hZ209 hS209 0 0 rfl rfl (by decide) (by decide) (Nat.le_of_ble_eq_true rfl) d_15_11_973 (fun H210 locs210 hZ210 hS210 => ?_)
  replace hZ210 : zHx D ca ad15 lnM K15.2 L15 F56 B56 ((q173, .inl (ca 0, 89, .inl (zAr (zup (zup (zup (zup (zup (zup (zup (zup (zup (zup (zup (zup (zup (zup (zup (zup (zup (zup (zup (zup (zup (zup (zup (zup (zup (zup (zup (zup (zup (zup (zup (zup (zup (zup (zup (zup (zup (fun _ => 0) 0 7) 1 8) 2 9) 3 10) 4 11) 5 12) 6 13) 7 14) 8 16) 9 17) 10 19) 11 21) 12 23) 13 25) 14 28) 15 31) 16 34) 17 37) 18 41) 19 45) 20 50) 21 55) 22 60) 23 66) 24 73) 25 80) 26 88) 27 97) 28 107) 29 118) 30 130) 31 143) 32 157) 33 173) 34 190) 35 209) 36 230)))) :: (a, .inr (14, rg 107 g172)) :: Y172) A H210 := hZ210
  clear hZ209 hS209
  refine lv_dup hx hb d_15_11_974 rfl ?_
  refine lv_bipush (v := iI 37) hx hb d_15_11_975 (by decide) ?_
  refine lv_sipush (v := iI 253) hx hb d_15_11_977 (by decide) ?_
  refine zxiast hx hb hK hZ210 hS210 0 0 rfl rfl (by decide) (by decide) (Nat.le_of_ble_eq_true rfl) d_15_11_980 (fun H211 locs211 hZ211 hS211 => ?_)
  replace hZ211 : zHx D ca ad15 lnM K15.2 L15 F56 B56 ((q173, .inl (ca 0, 89, .inl (zAr (zup (zup (zup (zup (zup (zup (zup (zup (zup (zup (zup (zup (zup (zup (zup (zup (zup (zup (zup (zup (zup (zup (zup (zup (zup (zup (zup (zup (zup (zup (zup (zup (zup (zup (zup (zup (zup (zup (fun _ => 0) 0 7) 1 8) 2 9) 3 10) 4 11) 5 12) 6 13) 7 14) 8 16) 9 17) 10 19) 11 21) 12 23) 13 25) 14 28) 15 31) 16 34) 17 37) 18 41) 19 45) 20 50) 21 55) 22 60) 23 66) 24 73) 25 80) 26 88) 27 97) 28 107) 29 118) 30 130) 31 143) 32 157) 33 173) 34 190) 35 209) 36 230) 37 253)))) :: (a, .inr (14, rg 107 g172)) :: Y172) A H211 := hZ211
  clear hZ210 hS210
  refine lv_dup hx hb d_15_11_981 rfl ?_
  refine lv_bipush (v := iI 38) hx hb d_15_11_982 (by decide) ?_
  refine lv_sipush (v := iI 279) hx hb d_15_11_984 (by decide) ?_
  refine zxiast hx hb hK hZ211 hS211 0 0 rfl rfl (by decide) (by decide) (Nat.le_of_ble_eq_true rfl) d_15_11_987 (fun H212 locs212 hZ212 hS212 => ?_)
  replace hZ212 : zHx D ca ad15 lnM K15.2 L15 F56 B56 ((q173, .inl (ca 0, 89, .inl (zAr (zup (zup (zup (zup (zup (zup (zup (zup (zup (zup (zup (zup (zup (zup (zup (zup (zup (zup (zup (zup (zup (zup (zup (zup (zup (zup (zup (zup (zup (zup (zup (zup (zup (zup (zup (zup (zup (zup (zup (fun _ => 0) 0 7) 1 8) 2 9) 3 10) 4 11) 5 12) 6 13) 7 14) 8 16) 9 17) 10 19) 11 21) 12 23) 13 25) 14 28) 15 31) 16 34) 17 37) 18 41) 19 45) 20 50) 21 55) 22 60) 23 66) 24 73) 25 80) 26 88) 27 97) 28 107) 29 118) 30 130) 31 143) 32 157) 33 173) 34 190) 35 209) 36 230) 37 253) 38 279)))) :: (a, .inr (14, rg 107 g172)) :: Y172) A H212 := hZ212
  clear hZ211 hS211
  refine lv_dup hx hb d_15_11_988 rfl ?_
  refine lv_bipush (v := iI 39) hx hb d_15_11_989 (by decide) ?_
  refine lv_sipush (v := iI 307) hx hb d_15_11_991 (by decide) ?_
  refine zxiast hx hb hK hZ212 hS212 0 0 rfl rfl (by decide) (by decide) (Nat.le_of_ble_eq_true rfl) d_15_11_994 (fun H213 locs213 hZ213 hS213 => ?_)
  replace hZ213 : zHx D ca ad15 lnM K15.2 L15 F56 B56 ((q173, .inl (ca 0, 89, .inl (zAr (zup (zup (zup (zup (zup (zup (zup (zup (zup (zup (zup (zup (zup (zup (zup (zup (zup (zup (zup (zup (zup (zup (zup (zup (zup (zup (zup (zup (zup (zup (zup (zup (zup (zup (zup (zup (zup (zup (zup (zup (fun _ => 0) 0 7) 1 8) 2 9) 3 10) 4 11) 5 12) 6 13) 7 14) 8 16) 9 17) 10 19) 11 21) 12 23) 13 25) 14 28) 15 31) 16 34) 17 37) 18 41) 19 45) 20 50) 21 55) 22 60) 23 66) 24 73) 25 80) 26 88) 27 97) 28 107) 29 118) 30 130) 31 143) 32 157) 33 173) 34 190) 35 209) 36 230) 37 253) 38 279) 39 307)))) :: (a, .inr (14, rg 107 g172)) :: Y172) A H213 := hZ213
  clear hZ212 hS212
  refine lv_dup hx hb d_15_11_995 rfl ?_
  refine lv_bipush (v := iI 40) hx hb d_15_11_996 (by decide) ?_
  refine lv_sipush (v := iI 337) hx hb d_15_11_998 (by decide) ?_
  refine zxiast hx hb hK hZ213 hS213 0 0 rfl rfl (by decide) (by decide) (Nat.le_of_ble_eq_true rfl) d_15_11_1001 (fun H214 locs214 hZ214 hS214 => ?_)
  replace hZ214 : zHx D ca ad15 lnM K15.2 L15 F56 B56 ((q173, .inl (ca 0, 89, .inl (zAr (zup (zup (zup (zup (zup (zup (zup (zup (zup (zup (zup (zup (zup (zup (zup (zup (zup (zup (zup (zup (zup (zup (zup (zup (zup (zup (zup (zup (zup (zup (zup (zup (zup (zup (zup (zup (zup (zup (zup (zup (zup (fun _ => 0) 0 7) 1 8) 2 9) 3 10) 4 11) 5 12) 6 13) 7 14) 8 16) 9 17) 10 19) 11 21) 12 23) 13 25) 14 28) 15 31) 16 34) 17 37) 18 41) 19 45) 20 50) 21 55) 22 60) 23 66) 24 73) 25 80) 26 88) 27 97) 28 107) 29 118) 30 130) 31 143) 32 157) 33 173) 34 190) 35 209) 36 230) 37 253) 38 279) 39 307) 40 337)))) :: (a, .inr (14, rg 107 g172)) :: Y172) A H214 := hZ214
  clear hZ213 hS213
  refine lv_dup hx hb d_15_11_1002 rfl ?_
  refine lv_bipush (v := iI 41) hx hb d_15_11_1003 (by decide) ?_
  refine lv_sipush (v := iI 371) hx hb d_15_11_1005 (by decide) ?_
  refine zxiast hx hb hK hZ214 hS214 0 0 rfl rfl (by decide) (by decide) (Nat.le_of_ble_eq_true rfl) d_15_11_1008 (fun H215 locs215 hZ215 hS215 => ?_)
  replace hZ215 : zHx D ca ad15 lnM K15.2 L15 F56 B56 ((q173, .inl (ca 0, 89, .inl (zAr (zup (zup (zup (zup (zup (zup (zup (zup (zup (zup (zup (zup (zup (zup (zup (zup (zup (zup (zup (zup (zup (zup (zup (zup (zup (zup (zup (zup (zup (zup (zup (zup (zup (zup (zup (zup (zup (zup (zup (zup (zup (zup (fun _ => 0) 0 7) 1 8) 2 9) 3 10) 4 11) 5 12) 6 13) 7 14) 8 16) 9 17) 10 19) 11 21) 12 23) 13 25) 14 28) 15 31) 16 34) 17 37) 18 41) 19 45) 20 50) 21 55) 22 60) 23 66) 24 73) 25 80) 26 88) 27 97) 28 107) 29 118) 30 130) 31 143) 32 157) 33 173) 34 190) 35 209) 36 230) 37 253) 38 279) 39 307) 40 337) 41 371)))) :: (a, .inr (14, rg 107 g172)) :: Y172) A H215 := hZ215
  clear hZ214 hS214
  refine lv_dup hx hb d_15_11_1009 rfl ?_
  refine lv_bipush (v := iI 42) hx hb d_15_11_1010 (by decide) ?_
  refine lv_sipush (v := iI 408) hx hb d_15_11_1012 (by decide) ?_
  refine zxiast hx hb hK hZ215 hS215 0 0 rfl rfl (by decide) (by decide) (Nat.le_of_ble_eq_true rfl) d_15_11_1015 (fun H216 locs216 hZ216 hS216 => ?_)
  replace hZ216 : zHx D ca ad15 lnM K15.2 L15 F56 B56 ((q173, .inl (ca 0, 89, .inl (zAr (zup (zup (zup (zup (zup (zup (zup (zup (zup (zup (zup (zup (zup (zup (zup (zup (zup (zup (zup (zup (zup (zup (zup (zup (zup (zup (zup (zup (zup (zup (zup (zup (zup (zup (zup (zup (zup (zup (zup (zup (zup (zup (zup (fun _ => 0) 0 7) 1 8) 2 9) 3 10) 4 11) 5 12) 6 13) 7 14) 8 16) 9 17) 10 19) 11 21) 12 23) 13 25) 14 28) 15 31) 16 34) 17 37) 18 41) 19 45) 20 50) 21 55) 22 60) 23 66) 24 73) 25 80) 26 88) 27 97) 28 107) 29 118) 30 130) 31 143) 32 157) 33 173) 34 190) 35 209) 36 230) 37 253) 38 279) 39 307) 40 337) 41 371) 42 408)))) :: (a, .inr (14, rg 107 g172)) :: Y172) A H216 := hZ216
  clear hZ215 hS215
  refine lv_dup hx hb d_15_11_1016 rfl ?_
  refine lv_bipush (v := iI 43) hx hb d_15_11_1017 (by decide) ?_
  refine lv_sipush (v := iI 449) hx hb d_15_11_1019 (by decide) ?_
  refine zxiast hx hb hK hZ216 hS216 0 0 rfl rfl (by decide) (by decide) (Nat.le_of_ble_eq_true rfl) d_15_11_1022 (fun H217 locs217 hZ217 hS217 => ?_)
  replace hZ217 : zHx D ca ad15 lnM K15.2 L15 F56 B56 ((q173, .inl (ca 0, 89, .inl (zAr (zup (zup (zup (zup (zup (zup (zup (zup (zup (zup (zup (zup (zup (zup (zup (zup (zup (zup (zup (zup (zup (zup (zup (zup (zup (zup (zup (zup (zup (zup (zup (zup (zup (zup (zup (zup (zup (zup (zup (zup (zup (zup (zup (zup (fun _ => 0) 0 7) 1 8) 2 9) 3 10) 4 11) 5 12) 6 13) 7 14) 8 16) 9 17) 10 19) 11 21) 12 23) 13 25) 14 28) 15 31) 16 34) 17 37) 18 41) 19 45) 20 50) 21 55) 22 60) 23 66) 24 73) 25 80) 26 88) 27 97) 28 107) 29 118) 30 130) 31 143) 32 157) 33 173) 34 190) 35 209) 36 230) 37 253) 38 279) 39 307) 40 337) 41 371) 42 408) 43 449)))) :: (a, .inr (14, rg 107 g172)) :: Y172) A H217 := hZ217
  clear hZ216 hS216
  refine lv_dup hx hb d_15_11_1023 rfl ?_
  refine lv_bipush (v := iI 44) hx hb d_15_11_1024 (by decide) ?_
  refine lv_sipush (v := iI 494) hx hb d_15_11_1026 (by decide) ?_
  refine zxiast hx hb hK hZ217 hS217 0 0 rfl rfl (by decide) (by decide) (Nat.le_of_ble_eq_true rfl) d_15_11_1029 (fun H218 locs218 hZ218 hS218 => ?_)
  replace hZ218 : zHx D ca ad15 lnM K15.2 L15 F56 B56 ((q173, .inl (ca 0, 89, .inl (zAr (zup (zup (zup (zup (zup (zup (zup (zup (zup (zup (zup (zup (zup (zup (zup (zup (zup (zup (zup (zup (zup (zup (zup (zup (zup (zup (zup (zup (zup (zup (zup (zup (zup (zup (zup (zup (zup (zup (zup (zup (zup (zup (zup (zup (zup (fun _ => 0) 0 7) 1 8) 2 9) 3 10) 4 11) 5 12) 6 13) 7 14) 8 16) 9 17) 10 19) 11 21) 12 23) 13 25) 14 28) 15 31) 16 34) 17 37) 18 41) 19 45) 20 50) 21 55) 22 60) 23 66) 24 73) 25 80) 26 88) 27 97) 28 107) 29 118) 30 130) 31 143) 32 157) 33 173) 34 190) 35 209) 36 230) 37 253) 38 279) 39 307) 40 337) 41 371) 42 408) 43 449) 44 494)))) :: (a, .inr (14, rg 107 g172)) :: Y172) A H218 := hZ218
  clear hZ217 hS217
  refine lv_dup hx hb d_15_11_1030 rfl ?_
  refine lv_bipush (v := iI 45) hx hb d_15_11_1031 (by decide) ?_
  refine lv_sipush (v := iI 544) hx hb d_15_11_1033 (by decide) ?_
  refine zxiast hx hb hK hZ218 hS218 0 0 rfl rfl (by decide) (by decide) (Nat.le_of_ble_eq_true rfl) d_15_11_1036 (fun H219 locs219 hZ219 hS219 => ?_)
  replace hZ219 : zHx D ca ad15 lnM K15.2 L15 F56 B56 ((q173, .inl (ca 0, 89, .inl (zAr (zup (zup (zup (zup (zup (zup (zup (zup (zup (zup (zup (zup (zup (zup (zup (zup (zup (zup (zup (zup (zup (zup (zup (zup (zup (zup (zup (zup (zup (zup (zup (zup (zup (zup (zup (zup (zup (zup (zup (zup (zup (zup (zup (zup (zup (zup (fun _ => 0) 0 7) 1 8) 2 9) 3 10) 4 11) 5 12) 6 13) 7 14) 8 16) 9 17) 10 19) 11 21) 12 23) 13 25) 14 28) 15 31) 16 34) 17 37) 18 41) 19 45) 20 50) 21 55) 22 60) 23 66) 24 73) 25 80) 26 88) 27 97) 28 107) 29 118) 30 130) 31 143) 32 157) 33 173) 34 190) 35 209) 36 230) 37 253) 38 279) 39 307) 40 337) 41 371) 42 408) 43 449) 44 494) 45 544)))) :: (a, .inr (14, rg 107 g172)) :: Y172) A H219 := hZ219
  clear hZ218 hS218
  refine lv_dup hx hb d_15_11_1037 rfl ?_
  refine lv_bipush (v := iI 46) hx hb d_15_11_1038 (by decide) ?_
  refine lv_sipush (v := iI 598) hx hb d_15_11_1040 (by decide) ?_
  refine zxiast hx hb hK hZ219 hS219 0 0 rfl rfl (by decide) (by decide) (Nat.le_of_ble_eq_true rfl) d_15_11_1043 (fun H220 locs220 hZ220 hS220 => ?_)
  replace hZ220 : zHx D ca ad15 lnM K15.2 L15 F56 B56 ((q173, .inl (ca 0, 89, .inl (zAr (zup (zup (zup (zup (zup (zup (zup (zup (zup (zup (zup (zup (zup (zup (zup (zup (zup (zup (zup (zup (zup (zup (zup (zup (zup (zup (zup (zup (zup (zup (zup (zup (zup (zup (zup (zup (zup (zup (zup (zup (zup (zup (zup (zup (zup (zup (zup (fun _ => 0) 0 7) 1 8) 2 9) 3 10) 4 11) 5 12) 6 13) 7 14) 8 16) 9 17) 10 19) 11 21) 12 23) 13 25) 14 28) 15 31) 16 34) 17 37) 18 41) 19 45) 20 50) 21 55) 22 60) 23 66) 24 73) 25 80) 26 88) 27 97) 28 107) 29 118) 30 130) 31 143) 32 157) 33 173) 34 190) 35 209) 36 230) 37 253) 38 279) 39 307) 40 337) 41 371) 42 408) 43 449) 44 494) 45 544) 46 598)))) :: (a, .inr (14, rg 107 g172)) :: Y172) A H220 := hZ220
  clear hZ219 hS219
  refine lv_dup hx hb d_15_11_1044 rfl ?_
  refine lv_bipush (v := iI 47) hx hb d_15_11_1045 (by decide) ?_
  refine lv_sipush (v := iI 658) hx hb d_15_11_1047 (by decide) ?_
  refine zxiast hx hb hK hZ220 hS220 0 0 rfl rfl (by decide) (by decide) (Nat.le_of_ble_eq_true rfl) d_15_11_1050 (fun H221 locs221 hZ221 hS221 => ?_)
  replace hZ221 : zHx D ca ad15 lnM K15.2 L15 F56 B56 ((q173, .inl (ca 0, 89, .inl (zAr (zup (zup (zup (zup (zup (zup (zup (zup (zup (zup (zup (zup (zup (zup (zup (zup (zup (zup (zup (zup (zup (zup (zup (zup (zup (zup (zup (zup (zup (zup (zup (zup (zup (zup (zup (zup (zup (zup (zup (zup (zup (zup (zup (zup (zup (zup (zup (zup (fun _ => 0) 0 7) 1 8) 2 9) 3 10) 4 11) 5 12) 6 13) 7 14) 8 16) 9 17) 10 19) 11 21) 12 23) 13 25) 14 28) 15 31) 16 34) 17 37) 18 41) 19 45) 20 50) 21 55) 22 60) 23 66) 24 73) 25 80) 26 88) 27 97) 28 107) 29 118) 30 130) 31 143) 32 157) 33 173) 34 190) 35 209) 36 230) 37 253) 38 279) 39 307) 40 337) 41 371) 42 408) 43 449) 44 494) 45 544) 46 598) 47 658)))) :: (a, .inr (14, rg 107 g172)) :: Y172) A H221 := hZ221
  clear hZ220 hS220
  refine lv_dup hx hb d_15_11_1051 rfl ?_
  refine lv_bipush (v := iI 48) hx hb d_15_11_1052 (by decide) ?_
  refine lv_sipush (v := iI 724) hx hb d_15_11_1054 (by decide) ?_
  refine zxiast hx hb hK hZ221 hS221 0 0 rfl rfl (by decide) (by decide) (Nat.le_of_ble_eq_true rfl) d_15_11_1057 (fun H222 locs222 hZ222 hS222 => ?_)
  replace hZ222 : zHx D ca ad15 lnM K15.2 L15 F56 B56 ((q173, .inl (ca 0, 89, .inl (zAr (zup (zup (zup (zup (zup (zup (zup (zup (zup (zup (zup (zup (zup (zup (zup (zup (zup (zup (zup (zup (zup (zup (zup (zup (zup (zup (zup (zup (zup (zup (zup (zup (zup (zup (zup (zup (zup (zup (zup (zup (zup (zup (zup (zup (zup (zup (zup (zup (zup (fun _ => 0) 0 7) 1 8) 2 9) 3 10) 4 11) 5 12) 6 13) 7 14) 8 16) 9 17) 10 19) 11 21) 12 23) 13 25) 14 28) 15 31) 16 34) 17 37) 18 41) 19 45) 20 50) 21 55) 22 60) 23 66) 24 73) 25 80) 26 88) 27 97) 28 107) 29 118) 30 130) 31 143) 32 157) 33 173) 34 190) 35 209) 36 230) 37 253) 38 279) 39 307) 40 337) 41 371) 42 408) 43 449) 44 494) 45 544) 46 598) 47 658) 48 724)))) :: (a, .inr (14, rg 107 g172)) :: Y172) A H222 := hZ222
  clear hZ221 hS221
  refine lv_dup hx hb d_15_11_1058 rfl ?_
  refine lv_bipush (v := iI 49) hx hb d_15_11_1059 (by decide) ?_
  refine lv_sipush (v := iI 796) hx hb d_15_11_1061 (by decide) ?_
  refine zxiast hx hb hK hZ222 hS222 0 0 rfl rfl (by decide) (by decide) (Nat.le_of_ble_eq_true rfl) d_15_11_1064 (fun H223 locs223 hZ223 hS223 => ?_)
  replace hZ223 : zHx D ca ad15 lnM K15.2 L15 F56 B56 ((q173, .inl (ca 0, 89, .inl (zAr (zup (zup (zup (zup (zup (zup (zup (zup (zup (zup (zup (zup (zup (zup (zup (zup (zup (zup (zup (zup (zup (zup (zup (zup (zup (zup (zup (zup (zup (zup (zup (zup (zup (zup (zup (zup (zup (zup (zup (zup (zup (zup (zup (zup (zup (zup (zup (zup (zup (zup (fun _ => 0) 0 7) 1 8) 2 9) 3 10) 4 11) 5 12) 6 13) 7 14) 8 16) 9 17) 10 19) 11 21) 12 23) 13 25) 14 28) 15 31) 16 34) 17 37) 18 41) 19 45) 20 50) 21 55) 22 60) 23 66) 24 73) 25 80) 26 88) 27 97) 28 107) 29 118) 30 130) 31 143) 32 157) 33 173) 34 190) 35 209) 36 230) 37 253) 38 279) 39 307) 40 337) 41 371) 42 408) 43 449) 44 494) 45 544) 46 598) 47 658) 48 724) 49 796)))) :: (a, .inr (14, rg 107 g172)) :: Y172) A H223 := hZ223
  clear hZ222 hS222
  refine lv_dup hx hb d_15_11_1065 rfl ?_
  refine lv_bipush (v := iI 50) hx hb d_15_11_1066 (by decide) ?_
  refine lv_sipush (v := iI 876) hx hb d_15_11_1068 (by decide) ?_
  refine zxiast hx hb hK hZ223 hS223 0 0 rfl rfl (by decide) (by decide) (Nat.le_of_ble_eq_true rfl) d_15_11_1071 (fun H224 locs224 hZ224 hS224 => ?_)
  replace hZ224 : zHx D ca ad15 lnM K15.2 L15 F56 B56 ((q173, .inl (ca 0, 89, .inl (zAr (zup (zup (zup (zup (zup (zup (zup (zup (zup (zup (zup (zup (zup (zup (zup (zup (zup (zup (zup (zup (zup (zup (zup (zup (zup (zup (zup (zup (zup (zup (zup (zup (zup (zup (zup (zup (zup (zup (zup (zup (zup (zup (zup (zup (zup (zup (zup (zup (zup (zup (zup (fun _ => 0) 0 7) 1 8) 2 9) 3 10) 4 11) 5 12) 6 13) 7 14) 8 16) 9 17) 10 19) 11 21) 12 23) 13 25) 14 28) 15 31) 16 34) 17 37) 18 41) 19 45) 20 50) 21 55) 22 60) 23 66) 24 73) 25 80) 26 88) 27 97) 28 107) 29 118) 30 130) 31 143) 32 157) 33 173) 34 190) 35 209) 36 230) 37 253) 38 279) 39 307) 40 337) 41 371) 42 408) 43 449) 44 494) 45 544) 46 598) 47 658) 48 724) 49 796) 50 876)))) :: (a, .inr (14, rg 107 g172)) :: Y172) A H224 := hZ224
  clear hZ223 hS223
  refine lv_dup hx hb d_15_11_1072 rfl ?_
  refine lv_bipush (v := iI 51) hx hb d_15_11_1073 (by decide) ?_
  refine lv_sipush (v := iI 963) hx hb d_15_11_1075 (by decide) ?_
  refine zxiast hx hb hK hZ224 hS224 0 0 rfl rfl (by decide) (by decide) (Nat.le_of_ble_eq_true rfl) d_15_11_1078 (fun H225 locs225 hZ225 hS225 => ?_)
  replace hZ225 : zHx D ca ad15 lnM K15.2 L15 F56 B56 ((q173, .inl (ca 0, 89, .inl (zAr (zup (zup (zup (zup (zup (zup (zup (zup (zup (zup (zup (zup (zup (zup (zup (zup (zup (zup (zup (zup (zup (zup (zup (zup (zup (zup (zup (zup (zup (zup (zup (zup (zup (zup (zup (zup (zup (zup (zup (zup (zup (zup (zup (zup (zup (zup (zup (zup (zup (zup (zup (zup (fun _ => 0) 0 7) 1 8) 2 9) 3 10) 4 11) 5 12) 6 13) 7 14) 8 16) 9 17) 10 19) 11 21) 12 23) 13 25) 14 28) 15 31) 16 34) 17 37) 18 41) 19 45) 20 50) 21 55) 22 60) 23 66) 24 73) 25 80) 26 88) 27 97) 28 107) 29 118) 30 130) 31 143) 32 157) 33 173) 34 190) 35 209) 36 230) 37 253) 38 279) 39 307) 40 337) 41 371) 42 408) 43 449) 44 494) 45 544) 46 598) 47 658) 48 724) 49 796) 50 876) 51 963)))) :: (a, .inr (14, rg 107 g172)) :: Y172) A H225 := hZ225
  clear hZ224 hS224
  refine lv_dup hx hb d_15_11_1079 rfl ?_
  refine lv_bipush (v := iI 52) hx hb d_15_11_1080 (by decide) ?_
  refine lv_sipush (v := iI 1060) hx hb d_15_11_1082 (by decide) ?_
  refine zxiast hx hb hK hZ225 hS225 0 0 rfl rfl (by decide) (by decide) (Nat.le_of_ble_eq_true rfl) d_15_11_1085 (fun H226 locs226 hZ226 hS226 => ?_)
  replace hZ226 : zHx D ca ad15 lnM K15.2 L15 F56 B56 ((q173, .inl (ca 0, 89, .inl (zAr (zup (zup (zup (zup (zup (zup (zup (zup (zup (zup (zup (zup (zup (zup (zup (zup (zup (zup (zup (zup (zup (zup (zup (zup (zup (zup (zup (zup (zup (zup (zup (zup (zup (zup (zup (zup (zup (zup (zup (zup (zup (zup (zup (zup (zup (zup (zup (zup (zup (zup (zup (zup (zup (fun _ => 0) 0 7) 1 8) 2 9) 3 10) 4 11) 5 12) 6 13) 7 14) 8 16) 9 17) 10 19) 11 21) 12 23) 13 25) 14 28) 15 31) 16 34) 17 37) 18 41) 19 45) 20 50) 21 55) 22 60) 23 66) 24 73) 25 80) 26 88) 27 97) 28 107) 29 118) 30 130) 31 143) 32 157) 33 173) 34 190) 35 209) 36 230) 37 253) 38 279) 39 307) 40 337) 41 371) 42 408) 43 449) 44 494) 45 544) 46 598) 47 658) 48 724) 49 796) 50 876) 51 963) 52 1060)))) :: (a, .inr (14, rg 107 g172)) :: Y172) A H226 := hZ226
  clear hZ225 hS225
  refine lv_dup hx hb d_15_11_1086 rfl ?_
  refine lv_bipush (v := iI 53) hx hb d_15_11_1087 (by decide) ?_
  refine lv_sipush (v := iI 1166) hx hb d_15_11_1089 (by decide) ?_
  refine zxiast hx hb hK hZ226 hS226 0 0 rfl rfl (by decide) (by decide) (Nat.le_of_ble_eq_true rfl) d_15_11_1092 (fun H227 locs227 hZ227 hS227 => ?_)
  replace hZ227 : zHx D ca ad15 lnM K15.2 L15 F56 B56 ((q173, .inl (ca 0, 89, .inl (zAr (zup (zup (zup (zup (zup (zup (zup (zup (zup (zup (zup (zup (zup (zup (zup (zup (zup (zup (zup (zup (zup (zup (zup (zup (zup (zup (zup (zup (zup (zup (zup (zup (zup (zup (zup (zup (zup (zup (zup (zup (zup (zup (zup (zup (zup (zup (zup (zup (zup (zup (zup (zup (zup (zup (fun _ => 0) 0 7) 1 8) 2 9) 3 10) 4 11) 5 12) 6 13) 7 14) 8 16) 9 17) 10 19) 11 21) 12 23) 13 25) 14 28) 15 31) 16 34) 17 37) 18 41) 19 45) 20 50) 21 55) 22 60) 23 66) 24 73) 25 80) 26 88) 27 97) 28 107) 29 118) 30 130) 31 143) 32 157) 33 173) 34 190) 35 209) 36 230) 37 253) 38 279) 39 307) 40 337) 41 371) 42 408) 43 449) 44 494) 45 544) 46 598) 47 658) 48 724) 49 796) 50 876) 51 963) 52 1060) 53 1166)))) :: (a, .inr (14, rg 107 g172)) :: Y172) A H227 := hZ227
  clear hZ226 hS226
  refine lv_dup hx hb d_15_11_1093 rfl ?_
  refine lv_bipush (v := iI 54) hx hb d_15_11_1094 (by decide) ?_
  refine lv_sipush (v := iI 1282) hx hb d_15_11_1096 (by decide) ?_
  refine zxiast hx hb hK hZ227 hS227 0 0 rfl rfl (by decide) (by decide) (Nat.le_of_ble_eq_true rfl) d_15_11_1099 (fun H228 locs228 hZ228 hS228 => ?_)
  replace hZ228 : zHx D ca ad15 lnM K15.2 L15 F56 B56 ((q173, .inl (ca 0, 89, .inl (zAr (zup (zup (zup (zup (zup (zup (zup (zup (zup (zup (zup (zup (zup (zup (zup (zup (zup (zup (zup (zup (zup (zup (zup (zup (zup (zup (zup (zup (zup (zup (zup (zup (zup (zup (zup (zup (zup (zup (zup (zup (zup (zup (zup (zup (zup (zup (zup (zup (zup (zup (zup (zup (zup (zup (zup (fun _ => 0) 0 7) 1 8) 2 9) 3 10) 4 11) 5 12) 6 13) 7 14) 8 16) 9 17) 10 19) 11 21) 12 23) 13 25) 14 28) 15 31) 16 34) 17 37) 18 41) 19 45) 20 50) 21 55) 22 60) 23 66) 24 73) 25 80) 26 88) 27 97) 28 107) 29 118) 30 130) 31 143) 32 157) 33 173) 34 190) 35 209) 36 230) 37 253) 38 279) 39 307) 40 337) 41 371) 42 408) 43 449) 44 494) 45 544) 46 598) 47 658) 48 724) 49 796) 50 876) 51 963) 52 1060) 53 1166) 54 1282)))) :: (a, .inr (14, rg 107 g172)) :: Y172) A H228 := hZ228
  clear hZ227 hS227
  refine lv_dup hx hb d_15_11_1100 rfl ?_
  refine lv_bipush (v := iI 55) hx hb d_15_11_1101 (by decide) ?_
  refine lv_sipush (v := iI 1411) hx hb d_15_11_1103 (by decide) ?_
  refine zxiast hx hb hK hZ228 hS228 0 0 rfl rfl (by decide) (by decide) (Nat.le_of_ble_eq_true rfl) d_15_11_1106 (fun H229 locs229 hZ229 hS229 => ?_)
  replace hZ229 : zHx D ca ad15 lnM K15.2 L15 F56 B56 ((q173, .inl (ca 0, 89, .inl (zAr (zup (zup (zup (zup (zup (zup (zup (zup (zup (zup (zup (zup (zup (zup (zup (zup (zup (zup (zup (zup (zup (zup (zup (zup (zup (zup (zup (zup (zup (zup (zup (zup (zup (zup (zup (zup (zup (zup (zup (zup (zup (zup (zup (zup (zup (zup (zup (zup (zup (zup (zup (zup (zup (zup (zup (zup (fun _ => 0) 0 7) 1 8) 2 9) 3 10) 4 11) 5 12) 6 13) 7 14) 8 16) 9 17) 10 19) 11 21) 12 23) 13 25) 14 28) 15 31) 16 34) 17 37) 18 41) 19 45) 20 50) 21 55) 22 60) 23 66) 24 73) 25 80) 26 88) 27 97) 28 107) 29 118) 30 130) 31 143) 32 157) 33 173) 34 190) 35 209) 36 230) 37 253) 38 279) 39 307) 40 337) 41 371) 42 408) 43 449) 44 494) 45 544) 46 598) 47 658) 48 724) 49 796) 50 876) 51 963) 52 1060) 53 1166) 54 1282) 55 1411)))) :: (a, .inr (14, rg 107 g172)) :: Y172) A H229 := hZ229
  clear hZ228 hS228
  refine lv_dup hx hb d_15_11_1107 rfl ?_
  refine lv_bipush (v := iI 56) hx hb d_15_11_1108 (by decide) ?_
  refine lv_sipush (v := iI 1552) hx hb d_15_11_1110 (by decide) ?_
  refine zxiast hx hb hK hZ229 hS229 0 0 rfl rfl (by decide) (by decide) (Nat.le_of_ble_eq_true rfl) d_15_11_1113 (fun H230 locs230 hZ230 hS230 => ?_)
  replace hZ230 : zHx D ca ad15 lnM K15.2 L15 F56 B56 ((q173, .inl (ca 0, 89, .inl (zAr (zup (zup (zup (zup (zup (zup (zup (zup (zup (zup (zup (zup (zup (zup (zup (zup (zup (zup (zup (zup (zup (zup (zup (zup (zup (zup (zup (zup (zup (zup (zup (zup (zup (zup (zup (zup (zup (zup (zup (zup (zup (zup (zup (zup (zup (zup (zup (zup (zup (zup (zup (zup (zup (zup (zup (zup (zup (fun _ => 0) 0 7) 1 8) 2 9) 3 10) 4 11) 5 12) 6 13) 7 14) 8 16) 9 17) 10 19) 11 21) 12 23) 13 25) 14 28) 15 31) 16 34) 17 37) 18 41) 19 45) 20 50) 21 55) 22 60) 23 66) 24 73) 25 80) 26 88) 27 97) 28 107) 29 118) 30 130) 31 143) 32 157) 33 173) 34 190) 35 209) 36 230) 37 253) 38 279) 39 307) 40 337) 41 371) 42 408) 43 449) 44 494) 45 544) 46 598) 47 658) 48 724) 49 796) 50 876) 51 963) 52 1060) 53 1166) 54 1282) 55 1411) 56 1552)))) :: (a, .inr (14, rg 107 g172)) :: Y172) A H230 := hZ230
  clear hZ229 hS229
  refine lv_dup hx hb d_15_11_1114 rfl ?_
  refine lv_bipush (v := iI 57) hx hb d_15_11_1115 (by decide) ?_
  refine lv_sipush (v := iI 1707) hx hb d_15_11_1117 (by decide) ?_
  refine zxiast hx hb hK hZ230 hS230 0 0 rfl rfl (by decide) (by decide) (Nat.le_of_ble_eq_true rfl) d_15_11_1120 (fun H231 locs231 hZ231 hS231 => ?_)
  replace hZ231 : zHx D ca ad15 lnM K15.2 L15 F56 B56 ((q173, .inl (ca 0, 89, .inl (zAr (zup (zup (zup (zup (zup (zup (zup (zup (zup (zup (zup (zup (zup (zup (zup (zup (zup (zup (zup (zup (zup (zup (zup (zup (zup (zup (zup (zup (zup (zup (zup (zup (zup (zup (zup (zup (zup (zup (zup (zup (zup (zup (zup (zup (zup (zup (zup (zup (zup (zup (zup (zup (zup (zup (zup (zup (zup (zup (fun _ => 0) 0 7) 1 8) 2 9) 3 10) 4 11) 5 12) 6 13) 7 14) 8 16) 9 17) 10 19) 11 21) 12 23) 13 25) 14 28) 15 31) 16 34) 17 37) 18 41) 19 45) 20 50) 21 55) 22 60) 23 66) 24 73) 25 80) 26 88) 27 97) 28 107) 29 118) 30 130) 31 143) 32 157) 33 173) 34 190) 35 209) 36 230) 37 253) 38 279) 39 307) 40 337) 41 371) 42 408) 43 449) 44 494) 45 544) 46 598) 47 658) 48 724) 49 796) 50 876) 51 963) 52 1060) 53 1166) 54 1282) 55 1411) 56 1552) 57 1707)))) :: (a, .inr (14, rg 107 g172)) :: Y172) A H231 := hZ231
  clear hZ230 hS230
  refine lv_dup hx hb d_15_11_1121 rfl ?_
  refine lv_bipush (v := iI 58) hx hb d_15_11_1122 (by decide) ?_
  refine lv_sipush (v := iI 1878) hx hb d_15_11_1124 (by decide) ?_
  refine zxiast hx hb hK hZ231 hS231 0 0 rfl rfl (by decide) (by decide) (Nat.le_of_ble_eq_true rfl) d_15_11_1127 (fun H232 locs232 hZ232 hS232 => ?_)
  replace hZ232 : zHx D ca ad15 lnM K15.2 L15 F56 B56 ((q173, .inl (ca 0, 89, .inl (zAr (zup (zup (zup (zup (zup (zup (zup (zup (zup (zup (zup (zup (zup (zup (zup (zup (zup (zup (zup (zup (zup (zup (zup (zup (zup (zup (zup (zup (zup (zup (zup (zup (zup (zup (zup (zup (zup (zup (zup (zup (zup (zup (zup (zup (zup (zup (zup (zup (zup (zup (zup (zup (zup (zup (zup (zup (zup (zup (zup (fun _ => 0) 0 7) 1 8) 2 9) 3 10) 4 11) 5 12) 6 13) 7 14) 8 16) 9 17) 10 19) 11 21) 12 23) 13 25) 14 28) 15 31) 16 34) 17 37) 18 41) 19 45) 20 50) 21 55) 22 60) 23 66) 24 73) 25 80) 26 88) 27 97) 28 107) 29 118) 30 130) 31 143) 32 157) 33 173) 34 190) 35 209) 36 230) 37 253) 38 279) 39 307) 40 337) 41 371) 42 408) 43 449) 44 494) 45 544) 46 598) 47 658) 48 724) 49 796) 50 876) 51 963) 52 1060) 53 1166) 54 1282) 55 1411) 56 1552) 57 1707) 58 1878)))) :: (a, .inr (14, rg 107 g172)) :: Y172) A H232 := hZ232
  clear hZ231 hS231
  refine lv_dup hx hb d_15_11_1128 rfl ?_
  refine lv_bipush (v := iI 59) hx hb d_15_11_1129 (by decide) ?_
  refine lv_sipush (v := iI 2066) hx hb d_15_11_1131 (by decide) ?_
  refine zxiast hx hb hK hZ232 hS232 0 0 rfl rfl (by decide) (by decide) (Nat.le_of_ble_eq_true rfl) d_15_11_1134 (fun H233 locs233 hZ233 hS233 => ?_)
  replace hZ233 : zHx D ca ad15 lnM K15.2 L15 F56 B56 ((q173, .inl (ca 0, 89, .inl (zAr (zup (zup (zup (zup (zup (zup (zup (zup (zup (zup (zup (zup (zup (zup (zup (zup (zup (zup (zup (zup (zup (zup (zup (zup (zup (zup (zup (zup (zup (zup (zup (zup (zup (zup (zup (zup (zup (zup (zup (zup (zup (zup (zup (zup (zup (zup (zup (zup (zup (zup (zup (zup (zup (zup (zup (zup (zup (zup (zup (zup (fun _ => 0) 0 7) 1 8) 2 9) 3 10) 4 11) 5 12) 6 13) 7 14) 8 16) 9 17) 10 19) 11 21) 12 23) 13 25) 14 28) 15 31) 16 34) 17 37) 18 41) 19 45) 20 50) 21 55) 22 60) 23 66) 24 73) 25 80) 26 88) 27 97) 28 107) 29 118) 30 130) 31 143) 32 157) 33 173) 34 190) 35 209) 36 230) 37 253) 38 279) 39 307) 40 337) 41 371) 42 408) 43 449) 44 494) 45 544) 46 598) 47 658) 48 724) 49 796) 50 876) 51 963) 52 1060) 53 1166) 54 1282) 55 1411) 56 1552) 57 1707) 58 1878) 59 2066)))) :: (a, .inr (14, rg 107 g172)) :: Y172) A H233 := hZ233
  clear hZ232 hS232
  refine lv_dup hx hb d_15_11_1135 rfl ?_
  refine lv_bipush (v := iI 60) hx hb d_15_11_1136 (by decide) ?_
  refine lv_sipush (v := iI 2272) hx hb d_15_11_1138 (by decide) ?_
  refine zxiast hx hb hK hZ233 hS233 0 0 rfl rfl (by decide) (by decide) (Nat.le_of_ble_eq_true rfl) d_15_11_1141 (fun H234 locs234 hZ234 hS234 => ?_)
  replace hZ234 : zHx D ca ad15 lnM K15.2 L15 F56 B56 ((q173, .inl (ca 0, 89, .inl (zAr (zup (zup (zup (zup (zup (zup (zup (zup (zup (zup (zup (zup (zup (zup (zup (zup (zup (zup (zup (zup (zup (zup (zup (zup (zup (zup (zup (zup (zup (zup (zup (zup (zup (zup (zup (zup (zup (zup (zup (zup (zup (zup (zup (zup (zup (zup (zup (zup (zup (zup (zup (zup (zup (zup (zup (zup (zup (zup (zup (zup (zup (fun _ => 0) 0 7) 1 8) 2 9) 3 10) 4 11) 5 12) 6 13) 7 14) 8 16) 9 17) 10 19) 11 21) 12 23) 13 25) 14 28) 15 31) 16 34) 17 37) 18 41) 19 45) 20 50) 21 55) 22 60) 23 66) 24 73) 25 80) 26 88) 27 97) 28 107) 29 118) 30 130) 31 143) 32 157) 33 173) 34 190) 35 209) 36 230) 37 253) 38 279) 39 307) 40 337) 41 371) 42 408) 43 449) 44 494) 45 544) 46 598) 47 658) 48 724) 49 796) 50 876) 51 963) 52 1060) 53 1166) 54 1282) 55 1411) 56 1552) 57 1707) 58 1878) 59 2066) 60 2272)))) :: (a, .inr (14, rg 107 g172)) :: Y172) A H234 := hZ234
  clear hZ233 hS233
  refine lv_dup hx hb d_15_11_1142 rfl ?_
  refine lv_bipush (v := iI 61) hx hb d_15_11_1143 (by decide) ?_
  refine lv_sipush (v := iI 2499) hx hb d_15_11_1145 (by decide) ?_
  refine zxiast hx hb hK hZ234 hS234 0 0 rfl rfl (by decide) (by decide) (Nat.le_of_ble_eq_true rfl) d_15_11_1148 (fun H235 locs235 hZ235 hS235 => ?_)
  replace hZ235 : zHx D ca ad15 lnM K15.2 L15 F56 B56 ((q173, .inl (ca 0, 89, .inl (zAr (zup (zup (zup (zup (zup (zup (zup (zup (zup (zup (zup (zup (zup (zup (zup (zup (zup (zup (zup (zup (zup (zup (zup (zup (zup (zup (zup (zup (zup (zup (zup (zup (zup (zup (zup (zup (zup (zup (zup (zup (zup (zup (zup (zup (zup (zup (zup (zup (zup (zup (zup (zup (zup (zup (zup (zup (zup (zup (zup (zup (zup (zup (fun _ => 0) 0 7) 1 8) 2 9) 3 10) 4 11) 5 12) 6 13) 7 14) 8 16) 9 17) 10 19) 11 21) 12 23) 13 25) 14 28) 15 31) 16 34) 17 37) 18 41) 19 45) 20 50) 21 55) 22 60) 23 66) 24 73) 25 80) 26 88) 27 97) 28 107) 29 118) 30 130) 31 143) 32 157) 33 173) 34 190) 35 209) 36 230) 37 253) 38 279) 39 307) 40 337) 41 371) 42 408) 43 449) 44 494) 45 544) 46 598) 47 658) 48 724) 49 796) 50 876) 51 963) 52 1060) 53 1166) 54 1282) 55 1411) 56 1552) 57 1707) 58 1878) 59 2066) 60 2272) 61 2499)))) :: (a, .inr (14, rg 107 g172)) :: Y172) A H235 := hZ235
  clear hZ234 hS234
  refine lv_dup hx hb d_15_11_1149 rfl ?_
  refine lv_bipush (v := iI 62) hx hb d_15_11_1150 (by decide) ?_
  refine lv_sipush (v := iI 2749) hx hb d_15_11_1152 (by decide) ?_
  refine zxiast hx hb hK hZ235 hS235 0 0 rfl rfl (by decide) (by decide) (Nat.le_of_ble_eq_true rfl) d_15_11_1155 (fun H236 locs236 hZ236 hS236 => ?_)
  replace hZ236 : zHx D ca ad15 lnM K15.2 L15 F56 B56 ((q173, .inl (ca 0, 89, .inl (zAr (zup (zup (zup (zup (zup (zup (zup (zup (zup (zup (zup (zup (zup (zup (zup (zup (zup (zup (zup (zup (zup (zup (zup (zup (zup (zup (zup (zup (zup (zup (zup (zup (zup (zup (zup (zup (zup (zup (zup (zup (zup (zup (zup (zup (zup (zup (zup (zup (zup (zup (zup (zup (zup (zup (zup (zup (zup (zup (zup (zup (zup (zup (zup (fun _ => 0) 0 7) 1 8) 2 9) 3 10) 4 11) 5 12) 6 13) 7 14) 8 16) 9 17) 10 19) 11 21) 12 23) 13 25) 14 28) 15 31) 16 34) 17 37) 18 41) 19 45) 20 50) 21 55) 22 60) 23 66) 24 73) 25 80) 26 88) 27 97) 28 107) 29 118) 30 130) 31 143) 32 157) 33 173) 34 190) 35 209) 36 230) 37 253) 38 279) 39 307) 40 337) 41 371) 42 408) 43 449) 44 494) 45 544) 46 598) 47 658) 48 724) 49 796) 50 876) 51 963) 52 1060) 53 1166) 54 1282) 55 1411) 56 1552) 57 1707) 58 1878) 59 2066) 60 2272) 61 2499) 62 2749)))) :: (a, .inr (14, rg 107 g172)) :: Y172) A H236 := hZ236
  clear hZ235 hS235
  refine lv_dup hx hb d_15_11_1156 rfl ?_
  refine lv_bipush (v := iI 63) hx hb d_15_11_1157 (by decide) ?_
  refine lv_sipush (v := iI 3024) hx hb d_15_11_1159 (by decide) ?_
  refine zxiast hx hb hK hZ236 hS236 0 0 rfl rfl (by decide) (by decide) (Nat.le_of_ble_eq_true rfl) d_15_11_1162 (fun H237 locs237 hZ237 hS237 => ?_)
  replace hZ237 : zHx D ca ad15 lnM K15.2 L15 F56 B56 ((q173, .inl (ca 0, 89, .inl (zAr (zup (zup (zup (zup (zup (zup (zup (zup (zup (zup (zup (zup (zup (zup (zup (zup (zup (zup (zup (zup (zup (zup (zup (zup (zup (zup (zup (zup (zup (zup (zup (zup (zup (zup (zup (zup (zup (zup (zup (zup (zup (zup (zup (zup (zup (zup (zup (zup (zup (zup (zup (zup (zup (zup (zup (zup (zup (zup (zup (zup (zup (zup (zup (zup (fun _ => 0) 0 7) 1 8) 2 9) 3 10) 4 11) 5 12) 6 13) 7 14) 8 16) 9 17) 10 19) 11 21) 12 23) 13 25) 14 28) 15 31) 16 34) 17 37) 18 41) 19 45) 20 50) 21 55) 22 60) 23 66) 24 73) 25 80) 26 88) 27 97) 28 107) 29 118) 30 130) 31 143) 32 157) 33 173) 34 190) 35 209) 36 230) 37 253) 38 279) 39 307) 40 337) 41 371) 42 408) 43 449) 44 494) 45 544) 46 598) 47 658) 48 724) 49 796) 50 876) 51 963) 52 1060) 53 1166) 54 1282) 55 1411) 56 1552) 57 1707) 58 1878) 59 2066) 60 2272) 61 2499) 62 2749) 63 3024)))) :: (a, .inr (14, rg 107 g172)) :: Y172) A H237 := hZ237
  clear hZ236 hS236
  refine lv_dup hx hb d_15_11_1163 rfl ?_
  refine lv_bipush (v := iI 64) hx hb d_15_11_1164 (by decide) ?_
  refine lv_sipush (v := iI 3327) hx hb d_15_11_1166 (by decide) ?_
  refine zxiast hx hb hK hZ237 hS237 0 0 rfl rfl (by decide) (by decide) (Nat.le_of_ble_eq_true rfl) d_15_11_1169 (fun H238 locs238 hZ238 hS238 => ?_)
  replace hZ238 : zHx D ca ad15 lnM K15.2 L15 F56 B56 ((q173, .inl (ca 0, 89, .inl (zAr (zup (zup (zup (zup (zup (zup (zup (zup (zup (zup (zup (zup (zup (zup (zup (zup (zup (zup (zup (zup (zup (zup (zup (zup (zup (zup (zup (zup (zup (zup (zup (zup (zup (zup (zup (zup (zup (zup (zup (zup (zup (zup (zup (zup (zup (zup (zup (zup (zup (zup (zup (zup (zup (zup (zup (zup (zup (zup (zup (zup (zup (zup (zup (zup (zup (fun _ => 0) 0 7) 1 8) 2 9) 3 10) 4 11) 5 12) 6 13) 7 14) 8 16) 9 17) 10 19) 11 21) 12 23) 13 25) 14 28) 15 31) 16 34) 17 37) 18 41) 19 45) 20 50) 21 55) 22 60) 23 66) 24 73) 25 80) 26 88) 27 97) 28 107) 29 118) 30 130) 31 143) 32 157) 33 173) 34 190) 35 209) 36 230) 37 253) 38 279) 39 307) 40 337) 41 371) 42 408) 43 449) 44 494) 45 544) 46 598) 47 658) 48 724) 49 796) 50 876) 51 963) 52 1060) 53 1166) 54 1282) 55 1411) 56 1552) 57 1707) 58 1878) 59 2066) 60 2272) 61 2499) 62 2749) 63 3024) 64 3327)))) :: (a, .inr (14, rg 107 g172)) :: Y172) A H238 := hZ238
  clear hZ237 hS237
  refine lv_dup hx hb d_15_11_1170 rfl ?_
  refine lv_bipush (v := iI 65) hx hb d_15_11_1171 (by decide) ?_
  refine lv_sipush (v := iI 3660) hx hb d_15_11_1173 (by decide) ?_
  refine zxiast hx hb hK hZ238 hS238 0 0 rfl rfl (by decide) (by decide) (Nat.le_of_ble_eq_true rfl) d_15_11_1176 (fun H239 locs239 hZ239 hS239 => ?_)
  replace hZ239 : zHx D ca ad15 lnM K15.2 L15 F56 B56 ((q173, .inl (ca 0, 89, .inl (zAr (zup (zup (zup (zup (zup (zup (zup (zup (zup (zup (zup (zup (zup (zup (zup (zup (zup (zup (zup (zup (zup (zup (zup (zup (zup (zup (zup (zup (zup (zup (zup (zup (zup (zup (zup (zup (zup (zup (zup (zup (zup (zup (zup (zup (zup (zup (zup (zup (zup (zup (zup (zup (zup (zup (zup (zup (zup (zup (zup (zup (zup (zup (zup (zup (zup (zup (fun _ => 0) 0 7) 1 8) 2 9) 3 10) 4 11) 5 12) 6 13) 7 14) 8 16) 9 17) 10 19) 11 21) 12 23) 13 25) 14 28) 15 31) 16 34) 17 37) 18 41) 19 45) 20 50) 21 55) 22 60) 23 66) 24 73) 25 80) 26 88) 27 97) 28 107) 29 118) 30 130) 31 143) 32 157) 33 173) 34 190) 35 209) 36 230) 37 253) 38 279) 39 307) 40 337) 41 371) 42 408) 43 449) 44 494) 45 544) 46 598) 47 658) 48 724) 49 796) 50 876) 51 963) 52 1060) 53 1166) 54 1282) 55 1411) 56 1552) 57 1707) 58 1878) 59 2066) 60 2272) 61 2499) 62 2749) 63 3024) 64 3327) 65 3660)))) :: (a, .inr (14, rg 107 g172)) :: Y172) A H239 := hZ239
  clear hZ238 hS238
  refine lv_dup hx hb d_15_11_1177 rfl ?_
  refine lv_bipush (v := iI 66) hx hb d_15_11_1178 (by decide) ?_
  refine lv_sipush (v := iI 4026) hx hb d_15_11_1180 (by decide) ?_
  refine zxiast hx hb hK hZ239 hS239 0 0 rfl rfl (by decide) (by decide) (Nat.le_of_ble_eq_true rfl) d_15_11_1183 (fun H240 locs240 hZ240 hS240 => ?_)
  replace hZ240 : zHx D ca ad15 lnM K15.2 L15 F56 B56 ((q173, .inl (ca 0, 89, .inl (zAr (zup (zup (zup (zup (zup (zup (zup (zup (zup (zup (zup (zup (zup (zup (zup (zup (zup (zup (zup (zup (zup (zup (zup (zup (zup (zup (zup (zup (zup (zup (zup (zup (zup (zup (zup (zup (zup (zup (zup (zup (zup (zup (zup (zup (zup (zup (zup (zup (zup (zup (zup (zup (zup (zup (zup (zup (zup (zup (zup (zup (zup (zup (zup (zup (zup (zup (zup (fun _ => 0) 0 7) 1 8) 2 9) 3 10) 4 11) 5 12) 6 13) 7 14) 8 16) 9 17) 10 19) 11 21) 12 23) 13 25) 14 28) 15 31) 16 34) 17 37) 18 41) 19 45) 20 50) 21 55) 22 60) 23 66) 24 73) 25 80) 26 88) 27 97) 28 107) 29 118) 30 130) 31 143) 32 157) 33 173) 34 190) 35 209) 36 230) 37 253) 38 279) 39 307) 40 337) 41 371) 42 408) 43 449) 44 494) 45 544) 46 598) 47 658) 48 724) 49 796) 50 876) 51 963) 52 1060) 53 1166) 54 1282) 55 1411) 56 1552) 57 1707) 58 1878) 59 2066) 60 2272) 61 2499) 62 2749) 63 3024) 64 3327) 65 3660) 66 4026)))) :: (a, .inr (14, rg 107 g172)) :: Y172) A H240 := hZ240
  clear hZ239 hS239
  refine lv_dup hx hb d_15_11_1184 rfl ?_
  refine lv_bipush (v := iI 67) hx hb d_15_11_1185 (by decide) ?_
  refine lv_sipush (v := iI 4428) hx hb d_15_11_1187 (by decide) ?_
  refine zxiast hx hb hK hZ240 hS240 0 0 rfl rfl (by decide) (by decide) (Nat.le_of_ble_eq_true rfl) d_15_11_1190 (fun H241 locs241 hZ241 hS241 => ?_)
  replace hZ241 : zHx D ca ad15 lnM K15.2 L15 F56 B56 ((q173, .inl (ca 0, 89, .inl (zAr (zup (zup (zup (zup (zup (zup (zup (zup (zup (zup (zup (zup (zup (zup (zup (zup (zup (zup (zup (zup (zup (zup (zup (zup (zup (zup (zup (zup (zup (zup (zup (zup (zup (zup (zup (zup (zup (zup (zup (zup (zup (zup (zup (zup (zup (zup (zup (zup (zup (zup (zup (zup (zup (zup (zup (zup (zup (zup (zup (zup (zup (zup (zup (zup (zup (zup (zup (zup (fun _ => 0) 0 7) 1 8) 2 9) 3 10) 4 11) 5 12) 6 13) 7 14) 8 16) 9 17) 10 19) 11 21) 12 23) 13 25) 14 28) 15 31) 16 34) 17 37) 18 41) 19 45) 20 50) 21 55) 22 60) 23 66) 24 73) 25 80) 26 88) 27 97) 28 107) 29 118) 30 130) 31 143) 32 157) 33 173) 34 190) 35 209) 36 230) 37 253) 38 279) 39 307) 40 337) 41 371) 42 408) 43 449) 44 494) 45 544) 46 598) 47 658) 48 724) 49 796) 50 876) 51 963) 52 1060) 53 1166) 54 1282) 55 1411) 56 1552) 57 1707) 58 1878) 59 2066) 60 2272) 61 2499) 62 2749) 63 3024) 64 3327) 65 3660) 66 4026) 67 4428)))) :: (a, .inr (14, rg 107 g172)) :: Y172) A H241 := hZ241
  clear hZ240 hS240
  refine lv_dup hx hb d_15_11_1191 rfl ?_
  refine lv_bipush (v := iI 68) hx hb d_15_11_1192 (by decide) ?_
  refine lv_sipush (v := iI 4871) hx hb d_15_11_1194 (by decide) ?_
  refine zxiast hx hb hK hZ241 hS241 0 0 rfl rfl (by decide) (by decide) (Nat.le_of_ble_eq_true rfl) d_15_11_1197 (fun H242 locs242 hZ242 hS242 => ?_)
  replace hZ242 : zHx D ca ad15 lnM K15.2 L15 F56 B56 ((q173, .inl (ca 0, 89, .inl (zAr (zup (zup (zup (zup (zup (zup (zup (zup (zup (zup (zup (zup (zup (zup (zup (zup (zup (zup (zup (zup (zup (zup (zup (zup (zup (zup (zup (zup (zup (zup (zup (zup (zup (zup (zup (zup (zup (zup (zup (zup (zup (zup (zup (zup (zup (zup (zup (zup (zup (zup (zup (zup (zup (zup (zup (zup (zup (zup (zup (zup (zup (zup (zup (zup (zup (zup (zup (zup (zup (fun _ => 0) 0 7) 1 8) 2 9) 3 10) 4 11) 5 12) 6 13) 7 14) 8 16) 9 17) 10 19) 11 21) 12 23) 13 25) 14 28) 15 31) 16 34) 17 37) 18 41) 19 45) 20 50) 21 55) 22 60) 23 66) 24 73) 25 80) 26 88) 27 97) 28 107) 29 118) 30 130) 31 143) 32 157) 33 173) 34 190) 35 209) 36 230) 37 253) 38 279) 39 307) 40 337) 41 371) 42 408) 43 449) 44 494) 45 544) 46 598) 47 658) 48 724) 49 796) 50 876) 51 963) 52 1060) 53 1166) 54 1282) 55 1411) 56 1552) 57 1707) 58 1878) 59 2066) 60 2272) 61 2499) 62 2749) 63 3024) 64 3327) 65 3660) 66 4026) 67 4428) 68 4871)))) :: (a, .inr (14, rg 107 g172)) :: Y172) A H242 := hZ242
  clear hZ241 hS241
  refine lv_dup hx hb d_15_11_1198 rfl ?_
  refine lv_bipush (v := iI 69) hx hb d_15_11_1199 (by decide) ?_
  refine lv_sipush (v := iI 5358) hx hb d_15_11_1201 (by decide) ?_
  refine zxiast hx hb hK hZ242 hS242 0 0 rfl rfl (by decide) (by decide) (Nat.le_of_ble_eq_true rfl) d_15_11_1204 (fun H243 locs243 hZ243 hS243 => ?_)
  replace hZ243 : zHx D ca ad15 lnM K15.2 L15 F56 B56 ((q173, .inl (ca 0, 89, .inl (zAr (zup (zup (zup (zup (zup (zup (zup (zup (zup (zup (zup (zup (zup (zup (zup (zup (zup (zup (zup (zup (zup (zup (zup (zup (zup (zup (zup (zup (zup (zup (zup (zup (zup (zup (zup (zup (zup (zup (zup (zup (zup (zup (zup (zup (zup (zup (zup (zup (zup (zup (zup (zup (zup (zup (zup (zup (zup (zup (zup (zup (zup (zup (zup (zup (zup (zup (zup (zup (zup (zup (fun _ => 0) 0 7) 1 8) 2 9) 3 10) 4 11) 5 12) 6 13) 7 14) 8 16) 9 17) 10 19) 11 21) 12 23) 13 25) 14 28) 15 31) 16 34) 17 37) 18 41) 19 45) 20 50) 21 55) 22 60) 23 66) 24 73) 25 80) 26 88) 27 97) 28 107) 29 118) 30 130) 31 143) 32 157) 33 173) 34 190) 35 209) 36 230) 37 253) 38 279) 39 307) 40 337) 41 371) 42 408) 43 449) 44 494) 45 544) 46 598) 47 658) 48 724) 49 796) 50 876) 51 963) 52 1060) 53 1166) 54 1282) 55 1411) 56 1552) 57 1707) 58 1878) 59 2066) 60 2272) 61 2499) 62 2749) 63 3024) 64 3327) 65 3660) 66 4026) 67 4428) 68 4871) 69 5358)))) :: (a, .inr (14, rg 107 g172)) :: Y172) A H243 := hZ243
  clear hZ242 hS242
  refine lv_dup hx hb d_15_11_1205 rfl ?_
  refine lv_bipush (v := iI 70) hx hb d_15_11_1206 (by decide) ?_
  refine lv_sipush (v := iI 5894) hx hb d_15_11_1208 (by decide) ?_
  refine zxiast hx hb hK hZ243 hS243 0 0 rfl rfl (by decide) (by decide) (Nat.le_of_ble_eq_true rfl) d_15_11_1211 (fun H244 locs244 hZ244 hS244 => ?_)
  replace hZ244 : zHx D ca ad15 lnM K15.2 L15 F56 B56 ((q173, .inl (ca 0, 89, .inl (zAr (zup (zup (zup (zup (zup (zup (zup (zup (zup (zup (zup (zup (zup (zup (zup (zup (zup (zup (zup (zup (zup (zup (zup (zup (zup (zup (zup (zup (zup (zup (zup (zup (zup (zup (zup (zup (zup (zup (zup (zup (zup (zup (zup (zup (zup (zup (zup (zup (zup (zup (zup (zup (zup (zup (zup (zup (zup (zup (zup (zup (zup (zup (zup (zup (zup (zup (zup (zup (zup (zup (zup (fun _ => 0) 0 7) 1 8) 2 9) 3 10) 4 11) 5 12) 6 13) 7 14) 8 16) 9 17) 10 19) 11 21) 12 23) 13 25) 14 28) 15 31) 16 34) 17 37) 18 41) 19 45) 20 50) 21 55) 22 60) 23 66) 24 73) 25 80) 26 88) 27 97) 28 107) 29 118) 30 130) 31 143) 32 157) 33 173) 34 190) 35 209) 36 230) 37 253) 38 279) 39 307) 40 337) 41 371) 42 408) 43 449) 44 494) 45 544) 46 598) 47 658) 48 724) 49 796) 50 876) 51 963) 52 1060) 53 1166) 54 1282) 55 1411) 56 1552) 57 1707) 58 1878) 59 2066) 60 2272) 61 2499) 62 2749) 63 3024) 64 3327) 65 3660) 66 4026) 67 4428) 68 4871) 69 5358) 70 5894)))) :: (a, .inr (14, rg 107 g172)) :: Y172) A H244 := hZ244
  clear hZ243 hS243
  refine lv_dup hx hb d_15_11_1212 rfl ?_
  refine lv_bipush (v := iI 71) hx hb d_15_11_1213 (by decide) ?_
  refine lv_sipush (v := iI 6484) hx hb d_15_11_1215 (by decide) ?_
  refine zxiast hx hb hK hZ244 hS244 0 0 rfl rfl (by decide) (by decide) (Nat.le_of_ble_eq_true rfl) d_15_11_1218 (fun H245 locs245 hZ245 hS245 => ?_)
  replace hZ245 : zHx D ca ad15 lnM K15.2 L15 F56 B56 ((q173, .inl (ca 0, 89, .inl (zAr (zup (zup (zup (zup (zup (zup (zup (zup (zup (zup (zup (zup (zup (zup (zup (zup (zup (zup (zup (zup (zup (zup (zup (zup (zup (zup (zup (zup (zup (zup (zup (zup (zup (zup (zup (zup (zup (zup (zup (zup (zup (zup (zup (zup (zup (zup (zup (zup (zup (zup (zup (zup (zup (zup (zup (zup (zup (zup (zup (zup (zup (zup (zup (zup (zup (zup (zup (zup (zup (zup (zup (zup (fun _ => 0) 0 7) 1 8) 2 9) 3 10) 4 11) 5 12) 6 13) 7 14) 8 16) 9 17) 10 19) 11 21) 12 23) 13 25) 14 28) 15 31) 16 34) 17 37) 18 41) 19 45) 20 50) 21 55) 22 60) 23 66) 24 73) 25 80) 26 88) 27 97) 28 107) 29 118) 30 130) 31 143) 32 157) 33 173) 34 190) 35 209) 36 230) 37 253) 38 279) 39 307) 40 337) 41 371) 42 408) 43 449) 44 494) 45 544) 46 598) 47 658) 48 724) 49 796) 50 876) 51 963) 52 1060) 53 1166) 54 1282) 55 1411) 56 1552) 57 1707) 58 1878) 59 2066) 60 2272) 61 2499) 62 2749) 63 3024) 64 3327) 65 3660) 66 4026) 67 4428) 68 4871) 69 5358) 70 5894) 71 6484)))) :: (a, .inr (14, rg 107 g172)) :: Y172) A H245 := hZ245
  clear hZ244 hS244
  refine lv_dup hx hb d_15_11_1219 rfl ?_
  refine lv_bipush (v := iI 72) hx hb d_15_11_1220 (by decide) ?_
  refine lv_sipush (v := iI 7132) hx hb d_15_11_1222 (by decide) ?_
  refine zxiast hx hb hK hZ245 hS245 0 0 rfl rfl (by decide) (by decide) (Nat.le_of_ble_eq_true rfl) d_15_11_1225 (fun H246 locs246 hZ246 hS246 => ?_)
  replace hZ246 : zHx D ca ad15 lnM K15.2 L15 F56 B56 ((q173, .inl (ca 0, 89, .inl (zAr (zup (zup (zup (zup (zup (zup (zup (zup (zup (zup (zup (zup (zup (zup (zup (zup (zup (zup (zup (zup (zup (zup (zup (zup (zup (zup (zup (zup (zup (zup (zup (zup (zup (zup (zup (zup (zup (zup (zup (zup (zup (zup (zup (zup (zup (zup (zup (zup (zup (zup (zup (zup (zup (zup (zup (zup (zup (zup (zup (zup (zup (zup (zup (zup (zup (zup (zup (zup (zup (zup (zup (zup (zup (fun _ => 0) 0 7) 1 8) 2 9) 3 10) 4 11) 5 12) 6 13) 7 14) 8 16) 9 17) 10 19) 11 21) 12 23) 13 25) 14 28) 15 31) 16 34) 17 37) 18 41) 19 45) 20 50) 21 55) 22 60) 23 66) 24 73) 25 80) 26 88) 27 97) 28 107) 29 118) 30 130) 31 143) 32 157) 33 173) 34 190) 35 209) 36 230) 37 253) 38 279) 39 307) 40 337) 41 371) 42 408) 43 449) 44 494) 45 544) 46 598) 47 658) 48 724) 49 796) 50 876) 51 963) 52 1060) 53 1166) 54 1282) 55 1411) 56 1552) 57 1707) 58 1878) 59 2066) 60 2272) 61 2499) 62 2749) 63 3024) 64 3327) 65 3660) 66 4026) 67 4428) 68 4871) 69 5358) 70 5894) 71 6484) 72 7132)))) :: (a, .inr (14, rg 107 g172)) :: Y172) A H246 := hZ246
  clear hZ245 hS245
  refine lv_dup hx hb d_15_11_1226 rfl ?_
  refine lv_bipush (v := iI 73) hx hb d_15_11_1227 (by decide) ?_
  refine lv_sipush (v := iI 7845) hx hb d_15_11_1229 (by decide) ?_
  refine zxiast hx hb hK hZ246 hS246 0 0 rfl rfl (by decide) (by decide) (Nat.le_of_ble_eq_true rfl) d_15_11_1232 (fun H247 locs247 hZ247 hS247 => ?_)
  replace hZ247 : zHx D ca ad15 lnM K15.2 L15 F56 B56 ((q173, .inl (ca 0, 89, .inl (zAr (zup (zup (zup (zup (zup (zup (zup (zup (zup (zup (zup (zup (zup (zup (zup (zup (zup (zup (zup (zup (zup (zup (zup (zup (zup (zup (zup (zup (zup (zup (zup (zup (zup (zup (zup (zup (zup (zup (zup (zup (zup (zup (zup (zup (zup (zup (zup (zup (zup (zup (zup (zup (zup (zup (zup (zup (zup (zup (zup (zup (zup (zup (zup (zup (zup (zup (zup (zup (zup (zup (zup (zup (zup (zup (fun _ => 0) 0 7) 1 8) 2 9) 3 10) 4 11) 5 12) 6 13) 7 14) 8 16) 9 17) 10 19) 11 21) 12 23) 13 25) 14 28) 15 31) 16 34) 17 37) 18 41) 19 45) 20 50) 21 55) 22 60) 23 66) 24 73) 25 80) 26 88) 27 97) 28 107) 29 118) 30 130) 31 143) 32 157) 33 173) 34 190) 35 209) 36 230) 37 253) 38 279) 39 307) 40 337) 41 371) 42 408) 43 449) 44 494) 45 544) 46 598) 47 658) 48 724) 49 796) 50 876) 51 963) 52 1060) 53 1166) 54 1282) 55 1411) 56 1552) 57 1707) 58 1878) 59 2066) 60 2272) 61 2499) 62 2749) 63 3024) 64 3327) 65 3660) 66 4026) 67 4428) 68 4871) 69 5358) 70 5894) 71 6484) 72 7132) 73 7845)))) :: (a, .inr (14, rg 107 g172)) :: Y172) A H247 := hZ247
  clear hZ246 hS246
  refine lv_dup hx hb d_15_11_1233 rfl ?_
  refine lv_bipush (v := iI 74) hx hb d_15_11_1234 (by decide) ?_
  refine lv_sipush (v := iI 8630) hx hb d_15_11_1236 (by decide) ?_
  refine zxiast hx hb hK hZ247 hS247 0 0 rfl rfl (by decide) (by decide) (Nat.le_of_ble_eq_true rfl) d_15_11_1239 (fun H248 locs248 hZ248 hS248 => ?_)
  replace hZ248 : zHx D ca ad15 lnM K15.2 L15 F56 B56 ((q173, .inl (ca 0, 89, .inl (zAr (zup (zup (zup (zup (zup (zup (zup (zup (zup (zup (zup (zup (zup (zup (zup (zup (zup (zup (zup (zup (zup (zup (zup (zup (zup (zup (zup (zup (zup (zup (zup (zup (zup (zup (zup (zup (zup (zup (zup (zup (zup (zup (zup (zup (zup (zup (zup (zup (zup (zup (zup (zup (zup (zup (zup (zup (zup (zup (zup (zup (zup (zup (zup (zup (zup (zup (zup (zup (zup (zup (zup (zup (zup (zup (zup (fun _ => 0) 0 7) 1 8) 2 9) 3 10) 4 11) 5 12) 6 13) 7 14) 8 16) 9 17) 10 19) 11 21) 12 23) 13 25) 14 28) 15 31) 16 34) 17 37) 18 41) 19 45) 20 50) 21 55) 22 60) 23 66) 24 73) 25 80) 26 88) 27 97) 28 107) 29 118) 30 130) 31 143) 32 157) 33 173) 34 190) 35 209) 36 230) 37 253) 38 279) 39 307) 40 337) 41 371) 42 408) 43 449) 44 494) 45 544) 46 598) 47 658) 48 724) 49 796) 50 876) 51 963) 52 1060) 53 1166) 54 1282) 55 1411) 56 1552) 57 1707) 58 1878) 59 2066) 60 2272) 61 2499) 62 2749) 63 3024) 64 3327) 65 3660) 66 4026) 67 4428) 68 4871) 69 5358) 70 5894) 71 6484) 72 7132) 73 7845) 74 8630)))) :: (a, .inr (14, rg 107 g172)) :: Y172) A H248 := hZ248
  clear hZ247 hS247
  refine lv_dup hx hb d_15_11_1240 rfl ?_
  refine lv_bipush (v := iI 75) hx hb d_15_11_1241 (by decide) ?_
  refine lv_sipush (v := iI 9493) hx hb d_15_11_1243 (by decide) ?_
  refine zxiast hx hb hK hZ248 hS248 0 0 rfl rfl (by decide) (by decide) (Nat.le_of_ble_eq_true rfl) d_15_11_1246 (fun H249 locs249 hZ249 hS249 => ?_)
  replace hZ249 : zHx D ca ad15 lnM K15.2 L15 F56 B56 ((q173, .inl (ca 0, 89, .inl (zAr (zup (zup (zup (zup (zup (zup (zup (zup (zup (zup (zup (zup (zup (zup (zup (zup (zup (zup (zup (zup (zup (zup (zup (zup (zup (zup (zup (zup (zup (zup (zup (zup (zup (zup (zup (zup (zup (zup (zup (zup (zup (zup (zup (zup (zup (zup (zup (zup (zup (zup (zup (zup (zup (zup (zup (zup (zup (zup (zup (zup (zup (zup (zup (zup (zup (zup (zup (zup (zup (zup (zup (zup (zup (zup (zup (zup (fun _ => 0) 0 7) 1 8) 2 9) 3 10) 4 11) 5 12) 6 13) 7 14) 8 16) 9 17) 10 19) 11 21) 12 23) 13 25) 14 28) 15 31) 16 34) 17 37) 18 41) 19 45) 20 50) 21 55) 22 60) 23 66) 24 73) 25 80) 26 88) 27 97) 28 107) 29 118) 30 130) 31 143) 32 157) 33 173) 34 190) 35 209) 36 230) 37 253) 38 279) 39 307) 40 337) 41 371) 42 408) 43 449) 44 494) 45 544) 46 598) 47 658) 48 724) 49 796) 50 876) 51 963) 52 1060) 53 1166) 54 1282) 55 1411) 56 1552) 57 1707) 58 1878) 59 2066) 60 2272) 61 2499) 62 2749) 63 3024) 64 3327) 65 3660) 66 4026) 67 4428) 68 4871) 69 5358) 70 5894) 71 6484) 72 7132) 73 7845) 74 8630) 75 9493)))) :: (a, .inr (14, rg 107 g172)) :: Y172) A H249 := hZ249
  clear hZ248 hS248
  refine lv_dup hx hb d_15_11_1247 rfl ?_
  refine lv_bipush (v := iI 76) hx hb d_15_11_1248 (by decide) ?_
  refine lv_sipush (v := iI 10442) hx hb d_15_11_1250 (by decide) ?_
  refine zxiast hx hb hK hZ249 hS249 0 0 rfl rfl (by decide) (by decide) (Nat.le_of_ble_eq_true rfl) d_15_11_1253 (fun H250 locs250 hZ250 hS250 => ?_)
  replace hZ250 : zHx D ca ad15 lnM K15.2 L15 F56 B56 ((q173, .inl (ca 0, 89, .inl (zAr (zup (zup (zup (zup (zup (zup (zup (zup (zup (zup (zup (zup (zup (zup (zup (zup (zup (zup (zup (zup (zup (zup (zup (zup (zup (zup (zup (zup (zup (zup (zup (zup (zup (zup (zup (zup (zup (zup (zup (zup (zup (zup (zup (zup (zup (zup (zup (zup (zup (zup (zup (zup (zup (zup (zup (zup (zup (zup (zup (zup (zup (zup (zup (zup (zup (zup (zup (zup (zup (zup (zup (zup (zup (zup (zup (zup (zup (fun _ => 0) 0 7) 1 8) 2 9) 3 10) 4 11) 5 12) 6 13) 7 14) 8 16) 9 17) 10 19) 11 21) 12 23) 13 25) 14 28) 15 31) 16 34) 17 37) 18 41) 19 45) 20 50) 21 55) 22 60) 23 66) 24 73) 25 80) 26 88) 27 97) 28 107) 29 118) 30 130) 31 143) 32 157) 33 173) 34 190) 35 209) 36 230) 37 253) 38 279) 39 307) 40 337) 41 371) 42 408) 43 449) 44 494) 45 544) 46 598) 47 658) 48 724) 49 796) 50 876) 51 963) 52 1060) 53 1166) 54 1282) 55 1411) 56 1552) 57 1707) 58 1878) 59 2066) 60 2272) 61 2499) 62 2749) 63 3024) 64 3327) 65 3660) 66 4026) 67 4428) 68 4871) 69 5358) 70 5894) 71 6484) 72 7132) 73 7845) 74 8630) 75 9493) 76 10442)))) :: (a, .inr (14, rg 107 g172)) :: Y172) A H250 := hZ250
  clear hZ249 hS249
  refine lv_dup hx hb d_15_11_1254 rfl ?_
  refine lv_bipush (v := iI 77) hx hb d_15_11_1255 (by decide) ?_
  refine lv_sipush (v := iI 11487) hx hb d_15_11_1257 (by decide) ?_
  refine zxiast hx hb hK hZ250 hS250 0 0 rfl rfl (by decide) (by decide) (Nat.le_of_ble_eq_true rfl) d_15_11_1260 (fun H251 locs251 hZ251 hS251 => ?_)
  replace hZ251 : zHx D ca ad15 lnM K15.2 L15 F56 B56 ((q173, .inl (ca 0, 89, .inl (zAr (zup (zup (zup (zup (zup (zup (zup (zup (zup (zup (zup (zup (zup (zup (zup (zup (zup (zup (zup (zup (zup (zup (zup (zup (zup (zup (zup (zup (zup (zup (zup (zup (zup (zup (zup (zup (zup (zup (zup (zup (zup (zup (zup (zup (zup (zup (zup (zup (zup (zup (zup (zup (zup (zup (zup (zup (zup (zup (zup (zup (zup (zup (zup (zup (zup (zup (zup (zup (zup (zup (zup (zup (zup (zup (zup (zup (zup (zup (fun _ => 0) 0 7) 1 8) 2 9) 3 10) 4 11) 5 12) 6 13) 7 14) 8 16) 9 17) 10 19) 11 21) 12 23) 13 25) 14 28) 15 31) 16 34) 17 37) 18 41) 19 45) 20 50) 21 55) 22 60) 23 66) 24 73) 25 80) 26 88) 27 97) 28 107) 29 118) 30 130) 31 143) 32 157) 33 173) 34 190) 35 209) 36 230) 37 253) 38 279) 39 307) 40 337) 41 371) 42 408) 43 449) 44 494) 45 544) 46 598) 47 658) 48 724) 49 796) 50 876) 51 963) 52 1060) 53 1166) 54 1282) 55 1411) 56 1552) 57 1707) 58 1878) 59 2066) 60 2272) 61 2499) 62 2749) 63 3024) 64 3327) 65 3660) 66 4026) 67 4428) 68 4871) 69 5358) 70 5894) 71 6484) 72 7132) 73 7845) 74 8630) 75 9493) 76 10442) 77 11487)))) :: (a, .inr (14, rg 107 g172)) :: Y172) A H251 := hZ251
  clear hZ250 hS250
  refine lv_dup hx hb d_15_11_1261 rfl ?_
  refine lv_bipush (v := iI 78) hx hb d_15_11_1262 (by decide) ?_
  refine lv_sipush (v := iI 12635) hx hb d_15_11_1264 (by decide) ?_
  refine zxiast hx hb hK hZ251 hS251 0 0 rfl rfl (by decide) (by decide) (Nat.le_of_ble_eq_true rfl) d_15_11_1267 (fun H252 locs252 hZ252 hS252 => ?_)
  replace hZ252 : zHx D ca ad15 lnM K15.2 L15 F56 B56 ((q173, .inl (ca 0, 89, .inl (zAr (zup (zup (zup (zup (zup (zup (zup (zup (zup (zup (zup (zup (zup (zup (zup (zup (zup (zup (zup (zup (zup (zup (zup (zup (zup (zup (zup (zup (zup (zup (zup (zup (zup (zup (zup (zup (zup (zup (zup (zup (zup (zup (zup (zup (zup (zup (zup (zup (zup (zup (zup (zup (zup (zup (zup (zup (zup (zup (zup (zup (zup (zup (zup (zup (zup (zup (zup (zup (zup (zup (zup (zup (zup (zup (zup (zup (zup (zup (zup (fun _ => 0) 0 7) 1 8) 2 9) 3 10) 4 11) 5 12) 6 13) 7 14) 8 16) 9 17) 10 19) 11 21) 12 23) 13 25) 14 28) 15 31) 16 34) 17 37) 18 41) 19 45) 20 50) 21 55) 22 60) 23 66) 24 73) 25 80) 26 88) 27 97) 28 107) 29 118) 30 130) 31 143) 32 157) 33 173) 34 190) 35 209) 36 230) 37 253) 38 279) 39 307) 40 337) 41 371) 42 408) 43 449) 44 494) 45 544) 46 598) 47 658) 48 724) 49 796) 50 876) 51 963) 52 1060) 53 1166) 54 1282) 55 1411) 56 1552) 57 1707) 58 1878) 59 2066) 60 2272) 61 2499) 62 2749) 63 3024) 64 3327) 65 3660) 66 4026) 67 4428) 68 4871) 69 5358) 70 5894) 71 6484) 72 7132) 73 7845) 74 8630) 75 9493) 76 10442) 77 11487) 78 12635)))) :: (a, .inr (14, rg 107 g172)) :: Y172) A H252 := hZ252
  clear hZ251 hS251
  refine lv_dup hx hb d_15_11_1268 rfl ?_
  refine lv_bipush (v := iI 79) hx hb d_15_11_1269 (by decide) ?_
  refine lv_sipush (v := iI 13899) hx hb d_15_11_1271 (by decide) ?_
  refine zxiast hx hb hK hZ252 hS252 0 0 rfl rfl (by decide) (by decide) (Nat.le_of_ble_eq_true rfl) d_15_11_1274 (fun H253 locs253 hZ253 hS253 => ?_)
  replace hZ253 : zHx D ca ad15 lnM K15.2 L15 F56 B56 ((q173, .inl (ca 0, 89, .inl (zAr (zup (zup (zup (zup (zup (zup (zup (zup (zup (zup (zup (zup (zup (zup (zup (zup (zup (zup (zup (zup (zup (zup (zup (zup (zup (zup (zup (zup (zup (zup (zup (zup (zup (zup (zup (zup (zup (zup (zup (zup (zup (zup (zup (zup (zup (zup (zup (zup (zup (zup (zup (zup (zup (zup (zup (zup (zup (zup (zup (zup (zup (zup (zup (zup (zup (zup (zup (zup (zup (zup (zup (zup (zup (zup (zup (zup (zup (zup (zup (zup (fun _ => 0) 0 7) 1 8) 2 9) 3 10) 4 11) 5 12) 6 13) 7 14) 8 16) 9 17) 10 19) 11 21) 12 23) 13 25) 14 28) 15 31) 16 34) 17 37) 18 41) 19 45) 20 50) 21 55) 22 60) 23 66) 24 73) 25 80) 26 88) 27 97) 28 107) 29 118) 30 130) 31 143) 32 157) 33 173) 34 190) 35 209) 36 230) 37 253) 38 279) 39 307) 40 337) 41 371) 42 408) 43 449) 44 494) 45 544) 46 598) 47 658) 48 724) 49 796) 50 876) 51 963) 52 1060) 53 1166) 54 1282) 55 1411) 56 1552) 57 1707) 58 1878) 59 2066) 60 2272) 61 2499) 62 2749) 63 3024) 64 3327) 65 3660) 66 4026) 67 4428) 68 4871) 69 5358) 70 5894) 71 6484) 72 7132) 73 7845) 74 8630) 75 9493) 76 10442) 77 11487) 78 12635) 79 13899)))) :: (a, .inr (14, rg 107 g172)) :: Y172) A H253 := hZ253
  clear hZ252 hS252
  refine lv_dup hx hb d_15_11_1275 rfl ?_
  refine lv_bipush (v := iI 80) hx hb d_15_11_1276 (by decide) ?_
  refine lv_sipush (v := iI 15289) hx hb d_15_11_1278 (by decide) ?_
  refine zxiast hx hb hK hZ253 hS253 0 0 rfl rfl (by decide) (by decide) (Nat.le_of_ble_eq_true rfl) d_15_11_1281 (fun H254 locs254 hZ254 hS254 => ?_)
  replace hZ254 : zHx D ca ad15 lnM K15.2 L15 F56 B56 ((q173, .inl (ca 0, 89, .inl (zAr (zup (zup (zup (zup (zup (zup (zup (zup (zup (zup (zup (zup (zup (zup (zup (zup (zup (zup (zup (zup (zup (zup (zup (zup (zup (zup (zup (zup (zup (zup (zup (zup (zup (zup (zup (zup (zup (zup (zup (zup (zup (zup (zup (zup (zup (zup (zup (zup (zup (zup (zup (zup (zup (zup (zup (zup (zup (zup (zup (zup (zup (zup (zup (zup (zup (zup (zup (zup (zup (zup (zup (zup (zup (zup (zup (zup (zup (zup (zup (zup (zup (fun _ => 0) 0 7) 1 8) 2 9) 3 10) 4 11) 5 12) 6 13) 7 14) 8 16) 9 17) 10 19) 11 21) 12 23) 13 25) 14 28) 15 31) 16 34) 17 37) 18 41) 19 45) 20 50) 21 55) 22 60) 23 66) 24 73) 25 80) 26 88) 27 97) 28 107) 29 118) 30 130) 31 143) 32 157) 33 173) 34 190) 35 209) 36 230) 37 253) 38 279) 39 307) 40 337) 41 371) 42 408) 43 449) 44 494) 45 544) 46 598) 47 658) 48 724) 49 796) 50 876) 51 963) 52 1060) 53 1166) 54 1282) 55 1411) 56 1552) 57 1707) 58 1878) 59 2066) 60 2272) 61 2499) 62 2749) 63 3024) 64 3327) 65 3660) 66 4026) 67 4428) 68 4871) 69 5358) 70 5894) 71 6484) 72 7132) 73 7845) 74 8630) 75 9493) 76 10442) 77 11487) 78 12635) 79 13899) 80 15289)))) :: (a, .inr (14, rg 107 g172)) :: Y172) A H254 := hZ254
  clear hZ253 hS253
  refine lv_dup hx hb d_15_11_1282 rfl ?_
  refine lv_bipush (v := iI 81) hx hb d_15_11_1283 (by decide) ?_
  refine lv_sipush (v := iI 16818) hx hb d_15_11_1285 (by decide) ?_
  refine zxiast hx hb hK hZ254 hS254 0 0 rfl rfl (by decide) (by decide) (Nat.le_of_ble_eq_true rfl) d_15_11_1288 (fun H255 locs255 hZ255 hS255 => ?_)
  replace hZ255 : zHx D ca ad15 lnM K15.2 L15 F56 B56 ((q173, .inl (ca 0, 89, .inl (zAr (zup (zup (zup (zup (zup (zup (zup (zup (zup (zup (zup (zup (zup (zup (zup (zup (zup (zup (zup (zup (zup (zup (zup (zup (zup (zup (zup (zup (zup (zup (zup (zup (zup (zup (zup (zup (zup (zup (zup (zup (zup (zup (zup (zup (zup (zup (zup (zup (zup (zup (zup (zup (zup (zup (zup (zup (zup (zup (zup (zup (zup (zup (zup (zup (zup (zup (zup (zup (zup (zup (zup (zup (zup (zup (zup (zup (zup (zup (zup (zup (zup (zup (fun _ => 0) 0 7) 1 8) 2 9) 3 10) 4 11) 5 12) 6 13) 7 14) 8 16) 9 17) 10 19) 11 21) 12 23) 13 25) 14 28) 15 31) 16 34) 17 37) 18 41) 19 45) 20 50) 21 55) 22 60) 23 66) 24 73) 25 80) 26 88) 27 97) 28 107) 29 118) 30 130) 31 143) 32 157) 33 173) 34 190) 35 209) 36 230) 37 253) 38 279) 39 307) 40 337) 41 371) 42 408) 43 449) 44 494) 45 544) 46 598) 47 658) 48 724) 49 796) 50 876) 51 963) 52 1060) 53 1166) 54 1282) 55 1411) 56 1552) 57 1707) 58 1878) 59 2066) 60 2272) 61 2499) 62 2749) 63 3024) 64 3327) 65 3660) 66 4026) 67 4428) 68 4871) 69 5358) 70 5894) 71 6484) 72 7132) 73 7845) 74 8630) 75 9493) 76 10442) 77 11487) 78 12635) 79 13899) 80 15289) 81 16818)))) :: (a, .inr (14, rg 107 g172)) :: Y172) A H255 := hZ255
  clear hZ254 hS254
  refine lv_dup hx hb d_15_11_1289 rfl ?_
  refine lv_bipush (v := iI 82) hx hb d_15_11_1290 (by decide) ?_
  refine lv_sipush (v := iI 18500) hx hb d_15_11_1292 (by decide) ?_
  refine zxiast hx hb hK hZ255 hS255 0 0 rfl rfl (by decide) (by decide) (Nat.le_of_ble_eq_true rfl) d_15_11_1295 (fun H256 locs256 hZ256 hS256 => ?_)
  replace hZ256 : zHx D ca ad15 lnM K15.2 L15 F56 B56 ((q173, .inl (ca 0, 89, .inl (zAr (zup (zup (zup (zup (zup (zup (zup (zup (zup (zup (zup (zup (zup (zup (zup (zup (zup (zup (zup (zup (zup (zup (zup (zup (zup (zup (zup (zup (zup (zup (zup (zup (zup (zup (zup (zup (zup (zup (zup (zup (zup (zup (zup (zup (zup (zup (zup (zup (zup (zup (zup (zup (zup (zup (zup (zup (zup (zup (zup (zup (zup (zup (zup (zup (zup (zup (zup (zup (zup (zup (zup (zup (zup (zup (zup (zup (zup (zup (zup (zup (zup (zup (zup (fun _ => 0) 0 7) 1 8) 2 9) 3 10) 4 11) 5 12) 6 13) 7 14) 8 16) 9 17) 10 19) 11 21) 12 23) 13 25) 14 28) 15 31) 16 34) 17 37) 18 41) 19 45) 20 50) 21 55) 22 60) 23 66) 24 73) 25 80) 26 88) 27 97) 28 107) 29 118) 30 130) 31 143) 32 157) 33 173) 34 190) 35 209) 36 230) 37 253) 38 279) 39 307) 40 337) 41 371) 42 408) 43 449) 44 494) 45 544) 46 598) 47 658) 48 724) 49 796) 50 876) 51 963) 52 1060) 53 1166) 54 1282) 55 1411) 56 1552) 57 1707) 58 1878) 59 2066) 60 2272) 61 2499) 62 2749) 63 3024) 64 3327) 65 3660) 66 4026) 67 4428) 68 4871) 69 5358) 70 5894) 71 6484) 72 7132) 73 7845) 74 8630) 75 9493) 76 10442) 77 11487) 78 12635) 79 13899) 80 15289) 81 16818) 82 18500)))) :: (a, .inr (14, rg 107 g172)) :: Y172) A H256 := hZ256
  clear hZ255 hS255
  refine lv_dup hx hb d_15_11_1296 rfl ?_
  refine lv_bipush (v := iI 83) hx hb d_15_11_1297 (by decide) ?_
  refine lv_sipush (v := iI 20350) hx hb d_15_11_1299 (by decide) ?_
  refine zxiast hx hb hK hZ256 hS256 0 0 rfl rfl (by decide) (by decide) (Nat.le_of_ble_eq_true rfl) d_15_11_1302 (fun H257 locs257 hZ257 hS257 => ?_)
  replace hZ257 : zHx D ca ad15 lnM K15.2 L15 F56 B56 ((q173, .inl (ca 0, 89, .inl (zAr (zup (zup (zup (zup (zup (zup (zup (zup (zup (zup (zup (zup (zup (zup (zup (zup (zup (zup (zup (zup (zup (zup (zup (zup (zup (zup (zup (zup (zup (zup (zup (zup (zup (zup (zup (zup (zup (zup (zup (zup (zup (zup (zup (zup (zup (zup (zup (zup (zup (zup (zup (zup (zup (zup (zup (zup (zup (zup (zup (zup (zup (zup (zup (zup (zup (zup (zup (zup (zup (zup (zup (zup (zup (zup (zup (zup (zup (zup (zup (zup (zup (zup (zup (zup (fun _ => 0) 0 7) 1 8) 2 9) 3 10) 4 11) 5 12) 6 13) 7 14) 8 16) 9 17) 10 19) 11 21) 12 23) 13 25) 14 28) 15 31) 16 34) 17 37) 18 41) 19 45) 20 50) 21 55) 22 60) 23 66) 24 73) 25 80) 26 88) 27 97) 28 107) 29 118) 30 130) 31 143) 32 157) 33 173) 34 190) 35 209) 36 230) 37 253) 38 279) 39 307) 40 337) 41 371) 42 408) 43 449) 44 494) 45 544) 46 598) 47 658) 48 724) 49 796) 50 876) 51 963) 52 1060) 53 1166) 54 1282) 55 1411) 56 1552) 57 1707) 58 1878) 59 2066) 60 2272) 61 2499) 62 2749) 63 3024) 64 3327) 65 3660) 66 4026) 67 4428) 68 4871) 69 5358) 70 5894) 71 6484) 72 7132) 73 7845) 74 8630) 75 9493) 76 10442) 77 11487) 78 12635) 79 13899) 80 15289) 81 16818) 82 18500) 83 20350)))) :: (a, .inr (14, rg 107 g172)) :: Y172) A H257 := hZ257
  clear hZ256 hS256
  refine lv_dup hx hb d_15_11_1303 rfl ?_
  refine lv_bipush (v := iI 84) hx hb d_15_11_1304 (by decide) ?_
  refine lv_sipush (v := iI 22385) hx hb d_15_11_1306 (by decide) ?_
  refine zxiast hx hb hK hZ257 hS257 0 0 rfl rfl (by decide) (by decide) (Nat.le_of_ble_eq_true rfl) d_15_11_1309 (fun H258 locs258 hZ258 hS258 => ?_)
  replace hZ258 : zHx D ca ad15 lnM K15.2 L15 F56 B56 ((q173, .inl (ca 0, 89, .inl (zAr (zup (zup (zup (zup (zup (zup (zup (zup (zup (zup (zup (zup (zup (zup (zup (zup (zup (zup (zup (zup (zup (zup (zup (zup (zup (zup (zup (zup (zup (zup (zup (zup (zup (zup (zup (zup (zup (zup (zup (zup (zup (zup (zup (zup (zup (zup (zup (zup (zup (zup (zup (zup (zup (zup (zup (zup (zup (zup (zup (zup (zup (zup (zup (zup (zup (zup (zup (zup (zup (zup (zup (zup (zup (zup (zup (zup (zup (zup (zup (zup (zup (zup (zup (zup (zup (fun _ => 0) 0 7) 1 8) 2 9) 3 10) 4 11) 5 12) 6 13) 7 14) 8 16) 9 17) 10 19) 11 21) 12 23) 13 25) 14 28) 15 31) 16 34) 17 37) 18 41) 19 45) 20 50) 21 55) 22 60) 23 66) 24 73) 25 80) 26 88) 27 97) 28 107) 29 118) 30 130) 31 143) 32 157) 33 173) 34 190) 35 209) 36 230) 37 253) 38 279) 39 307) 40 337) 41 371) 42 408) 43 449) 44 494) 45 544) 46 598) 47 658) 48 724) 49 796) 50 876) 51 963) 52 1060) 53 1166) 54 1282) 55 1411) 56 1552) 57 1707) 58 1878) 59 2066) 60 2272) 61 2499) 62 2749) 63 3024) 64 3327) 65 3660) 66 4026) 67 4428) 68 4871) 69 5358) 70 5894) 71 6484) 72 7132) 73 7845) 74 8630) 75 9493) 76 10442) 77 11487) 78 12635) 79 13899) 80 15289) 81 16818) 82 18500) 83 20350) 84 22385)))) :: (a, .inr (14, rg 107 g172)) :: Y172) A H258 := hZ258
  clear hZ257 hS257
  refine lv_dup hx hb d_15_11_1310 rfl ?_
  refine lv_bipush (v := iI 85) hx hb d_15_11_1311 (by decide) ?_
  refine lv_sipush (v := iI 24623) hx hb d_15_11_1313 (by decide) ?_
  refine zxiast hx hb hK hZ258 hS258 0 0 rfl rfl (by decide) (by decide) (Nat.le_of_ble_eq_true rfl) d_15_11_1316 (fun H259 locs259 hZ259 hS259 => ?_)
  replace hZ259 : zHx D ca ad15 lnM K15.2 L15 F56 B56 ((q173, .inl (ca 0, 89, .inl (zAr (zup (zup (zup (zup (zup (zup (zup (zup (zup (zup (zup (zup (zup (zup (zup (zup (zup (zup (zup (zup (zup (zup (zup (zup (zup (zup (zup (zup (zup (zup (zup (zup (zup (zup (zup (zup (zup (zup (zup (zup (zup (zup (zup (zup (zup (zup (zup (zup (zup (zup (zup (zup (zup (zup (zup (zup (zup (zup (zup (zup (zup (zup (zup (zup (zup (zup (zup (zup (zup (zup (zup (zup (zup (zup (zup (zup (zup (zup (zup (zup (zup (zup (zup (zup (zup (zup (fun _ => 0) 0 7) 1 8) 2 9) 3 10) 4 11) 5 12) 6 13) 7 14) 8 16) 9 17) 10 19) 11 21) 12 23) 13 25) 14 28) 15 31) 16 34) 17 37) 18 41) 19 45) 20 50) 21 55) 22 60) 23 66) 24 73) 25 80) 26 88) 27 97) 28 107) 29 118) 30 130) 31 143) 32 157) 33 173) 34 190) 35 209) 36 230) 37 253) 38 279) 39 307) 40 337) 41 371) 42 408) 43 449) 44 494) 45 544) 46 598) 47 658) 48 724) 49 796) 50 876) 51 963) 52 1060) 53 1166) 54 1282) 55 1411) 56 1552) 57 1707) 58 1878) 59 2066) 60 2272) 61 2499) 62 2749) 63 3024) 64 3327) 65 3660) 66 4026) 67 4428) 68 4871) 69 5358) 70 5894) 71 6484) 72 7132) 73 7845) 74 8630) 75 9493) 76 10442) 77 11487) 78 12635) 79 13899) 80 15289) 81 16818) 82 18500) 83 20350) 84 22385) 85 24623)))) :: (a, .inr (14, rg 107 g172)) :: Y172) A H259 := hZ259
  clear hZ258 hS258
  refine lv_dup hx hb d_15_11_1317 rfl ?_
  refine lv_bipush (v := iI 86) hx hb d_15_11_1318 (by decide) ?_
  refine lv_sipush (v := iI 27086) hx hb d_15_11_1320 (by decide) ?_
  refine zxiast hx hb hK hZ259 hS259 0 0 rfl rfl (by decide) (by decide) (Nat.le_of_ble_eq_true rfl) d_15_11_1323 (fun H260 locs260 hZ260 hS260 => ?_)
  replace hZ260 : zHx D ca ad15 lnM K15.2 L15 F56 B56 ((q173, .inl (ca 0, 89, .inl (zAr (zup (zup (zup (zup (zup (zup (zup (zup (zup (zup (zup (zup (zup (zup (zup (zup (zup (zup (zup (zup (zup (zup (zup (zup (zup (zup (zup (zup (zup (zup (zup (zup (zup (zup (zup (zup (zup (zup (zup (zup (zup (zup (zup (zup (zup (zup (zup (zup (zup (zup (zup (zup (zup (zup (zup (zup (zup (zup (zup (zup (zup (zup (zup (zup (zup (zup (zup (zup (zup (zup (zup (zup (zup (zup (zup (zup (zup (zup (zup (zup (zup (zup (zup (zup (zup (zup (zup (fun _ => 0) 0 7) 1 8) 2 9) 3 10) 4 11) 5 12) 6 13) 7 14) 8 16) 9 17) 10 19) 11 21) 12 23) 13 25) 14 28) 15 31) 16 34) 17 37) 18 41) 19 45) 20 50) 21 55) 22 60) 23 66) 24 73) 25 80) 26 88) 27 97) 28 107) 29 118) 30 130) 31 143) 32 157) 33 173) 34 190) 35 209) 36 230) 37 253) 38 279) 39 307) 40 337) 41 371) 42 408) 43 449) 44 494) 45 544) 46 598) 47 658) 48 724) 49 796) 50 876) 51 963) 52 1060) 53 1166) 54 1282) 55 1411) 56 1552) 57 1707) 58 1878) 59 2066) 60 2272) 61 2499) 62 2749) 63 3024) 64 3327) 65 3660) 66 4026) 67 4428) 68 4871) 69 5358) 70 5894) 71 6484) 72 7132) 73 7845) 74 8630) 75 9493) 76 10442) 77 11487) 78 12635) 79 13899) 80 15289) 81 16818) 82 18500) 83 20350) 84 22385) 85 24623) 86 27086)))) :: (a, .inr (14, rg 107 g172)) :: Y172) A H260 := hZ260
  clear hZ259 hS259
  refine lv_dup hx hb d_15_11_1324 rfl ?_
  refine lv_bipush (v := iI 87) hx hb d_15_11_1325 (by decide) ?_
  refine lv_sipush (v := iI 29794) hx hb d_15_11_1327 (by decide) ?_
  refine zxiast hx hb hK hZ260 hS260 0 0 rfl rfl (by decide) (by decide) (Nat.le_of_ble_eq_true rfl) d_15_11_1330 (fun H261 locs261 hZ261 hS261 => ?_)
  replace hZ261 : zHx D ca ad15 lnM K15.2 L15 F56 B56 ((q173, .inl (ca 0, 89, .inl (zAr (zup (zup (zup (zup (zup (zup (zup (zup (zup (zup (zup (zup (zup (zup (zup (zup (zup (zup (zup (zup (zup (zup (zup (zup (zup (zup (zup (zup (zup (zup (zup (zup (zup (zup (zup (zup (zup (zup (zup (zup (zup (zup (zup (zup (zup (zup (zup (zup (zup (zup (zup (zup (zup (zup (zup (zup (zup (zup (zup (zup (zup (zup (zup (zup (zup (zup (zup (zup (zup (zup (zup (zup (zup (zup (zup (zup (zup (zup (zup (zup (zup (zup (zup (zup (zup (zup (zup (zup (fun _ => 0) 0 7) 1 8) 2 9) 3 10) 4 11) 5 12) 6 13) 7 14) 8 16) 9 17) 10 19) 11 21) 12 23) 13 25) 14 28) 15 31) 16 34) 17 37) 18 41) 19 45) 20 50) 21 55) 22 60) 23 66) 24 73) 25 80) 26 88) 27 97) 28 107) 29 118) 30 130) 31 143) 32 157) 33 173) 34 190) 35 209) 36 230) 37 253) 38 279) 39 307) 40 337) 41 371) 42 408) 43 449) 44 494) 45 544) 46 598) 47 658) 48 724) 49 796) 50 876) 51 963) 52 1060) 53 1166) 54 1282) 55 1411) 56 1552) 57 1707) 58 1878) 59 2066) 60 2272) 61 2499) 62 2749) 63 3024) 64 3327) 65 3660) 66 4026) 67 4428) 68 4871) 69 5358) 70 5894) 71 6484) 72 7132) 73 7845) 74 8630) 75 9493) 76 10442) 77 11487) 78 12635) 79 13899) 80 15289) 81 16818) 82 18500) 83 20350) 84 22385) 85 24623) 86 27086) 87 29794)))) :: (a, .inr (14, rg 107 g172)) :: Y172) A H261 := hZ261
  clear hZ260 hS260
  refine lv_dup hx hb d_15_11_1331 rfl ?_
  refine lv_bipush (v := iI 88) hx hb d_15_11_1332 (by decide) ?_
  refine lv_sipush (v := iI 32767) hx hb d_15_11_1334 (by decide) ?_
  refine zxiast hx hb hK hZ261 hS261 0 0 rfl rfl (by decide) (by decide) (Nat.le_of_ble_eq_true rfl) d_15_11_1337 (fun H262 locs262 hZ262 hS262 => ?_)
  replace hZ262 : zHx D ca ad15 lnM K15.2 L15 F56 B56 ((q173, .inl (ca 0, 89, .inl (zAr (zup (zup (zup (zup (zup (zup (zup (zup (zup (zup (zup (zup (zup (zup (zup (zup (zup (zup (zup (zup (zup (zup (zup (zup (zup (zup (zup (zup (zup (zup (zup (zup (zup (zup (zup (zup (zup (zup (zup (zup (zup (zup (zup (zup (zup (zup (zup (zup (zup (zup (zup (zup (zup (zup (zup (zup (zup (zup (zup (zup (zup (zup (zup (zup (zup (zup (zup (zup (zup (zup (zup (zup (zup (zup (zup (zup (zup (zup (zup (zup (zup (zup (zup (zup (zup (zup (zup (zup (zup (fun _ => 0) 0 7) 1 8) 2 9) 3 10) 4 11) 5 12) 6 13) 7 14) 8 16) 9 17) 10 19) 11 21) 12 23) 13 25) 14 28) 15 31) 16 34) 17 37) 18 41) 19 45) 20 50) 21 55) 22 60) 23 66) 24 73) 25 80) 26 88) 27 97) 28 107) 29 118) 30 130) 31 143) 32 157) 33 173) 34 190) 35 209) 36 230) 37 253) 38 279) 39 307) 40 337) 41 371) 42 408) 43 449) 44 494) 45 544) 46 598) 47 658) 48 724) 49 796) 50 876) 51 963) 52 1060) 53 1166) 54 1282) 55 1411) 56 1552) 57 1707) 58 1878) 59 2066) 60 2272) 61 2499) 62 2749) 63 3024) 64 3327) 65 3660) 66 4026) 67 4428) 68 4871) 69 5358) 70 5894) 71 6484) 72 7132) 73 7845) 74 8630) 75 9493) 76 10442) 77 11487) 78 12635) 79 13899) 80 15289) 81 16818) 82 18500) 83 20350) 84 22385) 85 24623) 86 27086) 87 29794) 88 32767)))) :: (a, .inr (14, rg 107 g172)) :: Y172) A H262 := hZ262
  clear hZ261 hS261
  obtain ⟨g263, hg263⟩ : ∃ gz : Nat → Value, gz = va_up g172 96 (.ref q173) := ⟨_, rfl⟩
  refine zxputF hx hb hts inW_14 tyX14 tyX14_ok nmX14 hown hK hZ262 hS262 1 rfl rfl (k := 96) (by decide) k_11_94 rfl hnm rfl rfl rfl d_15_11_1338 (fun H263 locs263 hZ263 hS263 => ?_)
  rw [← hg263] at hZ263
  obtain ⟨Y263, hY263⟩ : ∃ Yz : va_W, Yz = (q173, .inl (ca 0, 89, .inl (zAr (zup (zup (zup (zup (zup (zup (zup (zup (zup (zup (zup (zup (zup (zup (zup (zup (zup (zup (zup (zup (zup (zup (zup (zup (zup (zup (zup (zup (zup (zup (zup (zup (zup (zup (zup (zup (zup (zup (zup (zup (zup (zup (zup (zup (zup (zup (zup (zup (zup (zup (zup (zup (zup (zup (zup (zup (zup (zup (zup (zup (zup (zup (zup (zup (zup (zup (zup (zup (zup (zup (zup (zup (zup (zup (zup (zup (zup (zup (zup (zup (zup (zup (zup (zup (zup (zup (zup (zup (zup (fun _ => 0) 0 7) 1 8) 2 9) 3 10) 4 11) 5 12) 6 13) 7 14) 8 16) 9 17) 10 19) 11 21) 12 23) 13 25) 14 28) 15 31) 16 34) 17 37) 18 41) 19 45) 20 50) 21 55) 22 60) 23 66) 24 73) 25 80) 26 88) 27 97) 28 107) 29 118) 30 130) 31 143) 32 157) 33 173) 34 190) 35 209) 36 230) 37 253) 38 279) 39 307) 40 337) 41 371) 42 408) 43 449) 44 494) 45 544) 46 598) 47 658) 48 724) 49 796) 50 876) 51 963) 52 1060) 53 1166) 54 1282) 55 1411) 56 1552) 57 1707) 58 1878) 59 2066) 60 2272) 61 2499) 62 2749) 63 3024) 64 3327) 65 3660) 66 4026) 67 4428) 68 4871) 69 5358) 70 5894) 71 6484) 72 7132) 73 7845) 74 8630) 75 9493) 76 10442) 77 11487) 78 12635) 79 13899) 80 15289) 81 16818) 82 18500) 83 20350) 84 22385) 85 24623) 86 27086) 87 29794) 88 32767)))) :: Y172 := ⟨_, rfl⟩
  replace hZ263 : zHx D ca ad15 lnM K15.2 L15 F56 B56 ((a, .inr (14, rg 107 g263)) :: (q173, .inl (ca 0, 89, .inl (zAr (zup (zup (zup (zup (zup (zup (zup (zup (zup (zup (zup (zup (zup (zup (zup (zup (zup (zup (zup (zup (zup (zup (zup (zup (zup (zup (zup (zup (zup (zup (zup (zup (zup (zup (zup (zup (zup (zup (zup (zup (zup (zup (zup (zup (zup (zup (zup (zup (zup (zup (zup (zup (zup (zup (zup (zup (zup (zup (zup (zup (zup (zup (zup (zup (zup (zup (zup (zup (zup (zup (zup (zup (zup (zup (zup (zup (zup (zup (zup (zup (zup (zup (zup (zup (zup (zup (zup (zup (zup (fun _ => 0) 0 7) 1 8) 2 9) 3 10) 4 11) 5 12) 6 13) 7 14) 8 16) 9 17) 10 19) 11 21) 12 23) 13 25) 14 28) 15 31) 16 34) 17 37) 18 41) 19 45) 20 50) 21 55) 22 60) 23 66) 24 73) 25 80) 26 88) 27 97) 28 107) 29 118) 30 130) 31 143) 32 157) 33 173) 34 190) 35 209) 36 230) 37 253) 38 279) 39 307) 40 337) 41 371) 42 408) 43 449) 44 494) 45 544) 46 598) 47 658) 48 724) 49 796) 50 876) 51 963) 52 1060) 53 1166) 54 1282) 55 1411) 56 1552) 57 1707) 58 1878) 59 2066) 60 2272) 61 2499) 62 2749) 63 3024) 64 3327) 65 3660) 66 4026) 67 4428) 68 4871) 69 5358) 70 5894) 71 6484) 72 7132) 73 7845) 74 8630) 75 9493) 76 10442) 77 11487) 78 12635) 79 13899) 80 15289) 81 16818) 82 18500) 83 20350) 84 22385) 85 24623) 86 27086) 87 29794) 88 32767)))) :: Y172) A H263 := zHx.swp hZ263
  rw [← hY263] at hZ263
  replace hZ263 : zHx D ca ad15 lnM K15.2 L15 F56 B56 ((a, .inr (14, rg 107 g263)) :: Y263) A H263 := hZ263
  clear hZ262 hS262
  refine lv_aload_n hx hb d_15_11_1341 rfl (lv_at hl 0 rfl) ?_
  refine lv_bipush (v := iI 8) hx hb d_15_11_1342 (by decide) ?_
  refine zxnewa (atype := .int) hx hb hts (ty := .int) rfl k_1_57 hK 0 rfl (fun _ _ => gu_int) hZ263 hS263 hA (a0 := (8, .inl (zAr (fun _ => 0)))) (fun _ => rfl) (by decide) (N' := 8) (by decide) (Nat.le_of_ble_eq_true rfl) (Nat.le_of_ble_eq_true rfl) (Nat.le_of_ble_eq_true rfl) d_15_11_1344 (fun q264 H264 hZ264 hS264 => ?_)
  replace hZ264 := zHx.rot hZ264
  replace hZ264 : zHx D ca ad15 lnM K15.2 L15 F56 B56 ((q264, .inl (ca 0, 8, .inl (zAr (fun _ => 0)))) :: (a, .inr (14, rg 107 g263)) :: Y263) A H264 := hZ264
  clear hZ263 hS263
  refine W.widen (k := 243) (n := 654913) (Nat.le_of_ble_eq_true rfl) (Nat.le_of_ble_eq_true rfl) ?_
  refine lv_dup hx hb d_15_11_1346 rfl ?_
  refine lv_iconst (v := iI 0) hx hb d_15_11_1347 rfl ?_
  refine lv_iconst (v := iI (-1)) hx hb d_15_11_1348 rfl ?_
  refine zxiast hx hb hK hZ264 hS264 0 0 rfl rfl (by decide) (by decide) (Nat.le_of_ble_eq_true rfl) d_15_11_1349 (fun H265 locs265 hZ265 hS265 => ?_)
  replace hZ265 : zHx D ca ad15 lnM K15.2 L15 F56 B56 ((q264, .inl (ca 0, 8, .inl (zAr (zup (fun _ => 0) 0 (-1))))) :: (a, .inr (14, rg 107 g263)) :: Y263) A H265 := hZ265
  clear hZ264 hS264
  refine lv_dup hx hb d_15_11_1350 rfl ?_
  refine lv_iconst (v := iI 1) hx hb d_15_11_1351 rfl ?_
  refine lv_iconst (v := iI (-1)) hx hb d_15_11_1352 rfl ?_
  refine zxiast hx hb hK hZ265 hS265 0 0 rfl rfl (by decide) (by decide) (Nat.le_of_ble_eq_true rfl) d_15_11_1353 (fun H266 locs266 hZ266 hS266 => ?_)
  replace hZ266 : zHx D ca ad15 lnM K15.2 L15 F56 B56 ((q264, .inl (ca 0, 8, .inl (zAr (zup (zup (fun _ => 0) 0 (-1)) 1 (-1))))) :: (a, .inr (14, rg 107 g263)) :: Y263) A H266 := hZ266
  clear hZ265 hS265
  refine lv_dup hx hb d_15_11_1354 rfl ?_
  refine lv_iconst (v := iI 2) hx hb d_15_11_1355 rfl ?_
  refine lv_iconst (v := iI (-1)) hx hb d_15_11_1356 rfl ?_
  refine zxiast hx hb hK hZ266 hS266 0 0 rfl rfl (by decide) (by decide) (Nat.le_of_ble_eq_true rfl) d_15_11_1357 (fun H267 locs267 hZ267 hS267 => ?_)
  replace hZ267 : zHx D ca ad15 lnM K15.2 L15 F56 B56 ((q264, .inl (ca 0, 8, .inl (zAr (zup (zup (zup (fun _ => 0) 0 (-1)) 1 (-1)) 2 (-1))))) :: (a, .inr (14, rg 107 g263)) :: Y263) A H267 := hZ267
  clear hZ266 hS266
  refine lv_dup hx hb d_15_11_1358 rfl ?_
  refine lv_iconst (v := iI 3) hx hb d_15_11_1359 rfl ?_
  refine lv_iconst (v := iI (-1)) hx hb d_15_11_1360 rfl ?_
  refine zxiast hx hb hK hZ267 hS267 0 0 rfl rfl (by decide) (by decide) (Nat.le_of_ble_eq_true rfl) d_15_11_1361 (fun H268 locs268 hZ268 hS268 => ?_)
  replace hZ268 : zHx D ca ad15 lnM K15.2 L15 F56 B56 ((q264, .inl (ca 0, 8, .inl (zAr (zup (zup (zup (zup (fun _ => 0) 0 (-1)) 1 (-1)) 2 (-1)) 3 (-1))))) :: (a, .inr (14, rg 107 g263)) :: Y263) A H268 := hZ268
  clear hZ267 hS267
  refine lv_dup hx hb d_15_11_1362 rfl ?_
  refine lv_iconst (v := iI 4) hx hb d_15_11_1363 rfl ?_
  refine lv_iconst (v := iI 2) hx hb d_15_11_1364 rfl ?_
  refine zxiast hx hb hK hZ268 hS268 0 0 rfl rfl (by decide) (by decide) (Nat.le_of_ble_eq_true rfl) d_15_11_1365 (fun H269 locs269 hZ269 hS269 => ?_)
  replace hZ269 : zHx D ca ad15 lnM K15.2 L15 F56 B56 ((q264, .inl (ca 0, 8, .inl (zAr (zup (zup (zup (zup (zup (fun _ => 0) 0 (-1)) 1 (-1)) 2 (-1)) 3 (-1)) 4 2)))) :: (a, .inr (14, rg 107 g263)) :: Y263) A H269 := hZ269
  clear hZ268 hS268
  refine lv_dup hx hb d_15_11_1366 rfl ?_
  refine lv_iconst (v := iI 5) hx hb d_15_11_1367 rfl ?_
  refine lv_iconst (v := iI 4) hx hb d_15_11_1368 rfl ?_
  refine zxiast hx hb hK hZ269 hS269 0 0 rfl rfl (by decide) (by decide) (Nat.le_of_ble_eq_true rfl) d_15_11_1369 (fun H270 locs270 hZ270 hS270 => ?_)
  replace hZ270 : zHx D ca ad15 lnM K15.2 L15 F56 B56 ((q264, .inl (ca 0, 8, .inl (zAr (zup (zup (zup (zup (zup (zup (fun _ => 0) 0 (-1)) 1 (-1)) 2 (-1)) 3 (-1)) 4 2) 5 4)))) :: (a, .inr (14, rg 107 g263)) :: Y263) A H270 := hZ270
  clear hZ269 hS269
  refine lv_dup hx hb d_15_11_1370 rfl ?_
  refine lv_bipush (v := iI 6) hx hb d_15_11_1371 (by decide) ?_
  refine lv_bipush (v := iI 6) hx hb d_15_11_1373 (by decide) ?_
  refine zxiast hx hb hK hZ270 hS270 0 0 rfl rfl (by decide) (by decide) (Nat.le_of_ble_eq_true rfl) d_15_11_1375 (fun H271 locs271 hZ271 hS271 => ?_)
  replace hZ271 : zHx D ca ad15 lnM K15.2 L15 F56 B56 ((q264, .inl (ca 0, 8, .inl (zAr (zup (zup (zup (zup (zup (zup (zup (fun _ => 0) 0 (-1)) 1 (-1)) 2 (-1)) 3 (-1)) 4 2) 5 4) 6 6)))) :: (a, .inr (14, rg 107 g263)) :: Y263) A H271 := hZ271
  clear hZ270 hS270
  refine lv_dup hx hb d_15_11_1376 rfl ?_
  refine lv_bipush (v := iI 7) hx hb d_15_11_1377 (by decide) ?_
  refine lv_bipush (v := iI 8) hx hb d_15_11_1379 (by decide) ?_
  refine zxiast hx hb hK hZ271 hS271 0 0 rfl rfl (by decide) (by decide) (Nat.le_of_ble_eq_true rfl) d_15_11_1381 (fun H272 locs272 hZ272 hS272 => ?_)
  replace hZ272 : zHx D ca ad15 lnM K15.2 L15 F56 B56 ((q264, .inl (ca 0, 8, .inl (zAr (zup (zup (zup (zup (zup (zup (zup (zup (fun _ => 0) 0 (-1)) 1 (-1)) 2 (-1)) 3 (-1)) 4 2) 5 4) 6 6) 7 8)))) :: (a, .inr (14, rg 107 g263)) :: Y263) A H272 := hZ272
  clear hZ271 hS271
  obtain ⟨g273, hg273⟩ : ∃ gz : Nat → Value, gz = va_up g263 97 (.ref q264) := ⟨_, rfl⟩
  refine zxputF hx hb hts inW_14 tyX14 tyX14_ok nmX14 hown hK hZ272 hS272 1 rfl rfl (k := 97) (by decide) k_11_95 rfl hnm rfl rfl rfl d_15_11_1382 (fun H273 locs273 hZ273 hS273 => ?_)
  rw [← hg273] at hZ273
  obtain ⟨Y273, hY273⟩ : ∃ Yz : va_W, Yz = (q264, .inl (ca 0, 8, .inl (zAr (zup (zup (zup (zup (zup (zup (zup (zup (fun _ => 0) 0 (-1)) 1 (-1)) 2 (-1)) 3 (-1)) 4 2) 5 4) 6 6) 7 8)))) :: Y263 := ⟨_, rfl⟩
  replace hZ273 : zHx D ca ad15 lnM K15.2 L15 F56 B56 ((a, .inr (14, rg 107 g273)) :: (q264, .inl (ca 0, 8, .inl (zAr (zup (zup (zup (zup (zup (zup (zup (zup (fun _ => 0) 0 (-1)) 1 (-1)) 2 (-1)) 3 (-1)) 4 2) 5 4) 6 6) 7 8)))) :: Y263) A H273 := zHx.swp hZ273
  rw [← hY273] at hZ273
  replace hZ273 : zHx D ca ad15 lnM K15.2 L15 F56 B56 ((a, .inr (14, rg 107 g273)) :: Y273) A H273 := hZ273
  clear hZ272 hS272
  refine lv_aload_n hx hb d_15_11_1385 rfl (lv_at hl 0 rfl) ?_
  refine lv_bipush (v := iI 24) hx hb d_15_11_1386 (by decide) ?_
  refine zxnewa (atype := .int) hx hb hts (ty := .int) rfl k_1_57 hK 0 rfl (fun _ _ => gu_int) hZ273 hS273 hA (a0 := (24, .inl (zAr (fun _ => 0)))) (fun _ => rfl) (by decide) (N' := 24) (by decide) (Nat.le_of_ble_eq_true rfl) (Nat.le_of_ble_eq_true rfl) (Nat.le_of_ble_eq_true rfl) d_15_11_1388 (fun q274 H274 hZ274 hS274 => ?_)
  replace hZ274 := zHx.rot hZ274
  replace hZ274 : zHx D ca ad15 lnM K15.2 L15 F56 B56 ((q274, .inl (ca 0, 24, .inl (zAr (fun _ => 0)))) :: (a, .inr (14, rg 107 g273)) :: Y273) A H274 := hZ274
  clear hZ273 hS273
  refine W.widen (k := 244) (n := 654937) (Nat.le_of_ble_eq_true rfl) (Nat.le_of_ble_eq_true rfl) ?_
  obtain ⟨g275, hg275⟩ : ∃ gz : Nat → Value, gz = va_up g273 98 (.ref q274) := ⟨_, rfl⟩
  refine zxputF hx hb hts inW_14 tyX14 tyX14_ok nmX14 hown hK hZ274 hS274 1 rfl rfl (k := 98) (by decide) k_11_96 rfl hnm rfl rfl rfl d_15_11_1390 (fun H275 locs275 hZ275 hS275 => ?_)
  rw [← hg275] at hZ275
  obtain ⟨Y275, hY275⟩ : ∃ Yz : va_W, Yz = (q274, .inl (ca 0, 24, .inl (zAr (fun _ => 0)))) :: Y273 := ⟨_, rfl⟩
  replace hZ275 : zHx D ca ad15 lnM K15.2 L15 F56 B56 ((a, .inr (14, rg 107 g275)) :: (q274, .inl (ca 0, 24, .inl (zAr (fun _ => 0)))) :: Y273) A H275 := zHx.swp hZ275
  rw [← hY275] at hZ275
  replace hZ275 : zHx D ca ad15 lnM K15.2 L15 F56 B56 ((a, .inr (14, rg 107 g275)) :: Y275) A H275 := hZ275
  clear hZ274 hS274
  refine lv_aload_n hx hb d_15_11_1393 rfl (lv_at hl 0 rfl) ?_
  refine lv_bipush (v := iI 24) hx hb d_15_11_1394 (by decide) ?_
  refine zxnewa (atype := .int) hx hb hts (ty := .int) rfl k_1_57 hK 0 rfl (fun _ _ => gu_int) hZ275 hS275 hA (a0 := (24, .inl (zAr (fun _ => 0)))) (fun _ => rfl) (by decide) (N' := 24) (by decide) (Nat.le_of_ble_eq_true rfl) (Nat.le_of_ble_eq_true rfl) (Nat.le_of_ble_eq_true rfl) d_15_11_1396 (fun q276 H276 hZ276 hS276 => ?_)
  replace hZ276 := zHx.rot hZ276
  replace hZ276 : zHx D ca ad15 lnM K15.2 L15 F56 B56 ((q276, .inl (ca 0, 24, .inl (zAr (fun _ => 0)))) :: (a, .inr (14, rg 107 g275)) :: Y275) A H276 := hZ276
  clear hZ275 hS275
  refine W.widen (k := 245) (n := 654961) (Nat.le_of_ble_eq_true rfl) (Nat.le_of_ble_eq_true rfl) ?_
  obtain ⟨g277, hg277⟩ : ∃ gz : Nat → Value, gz = va_up g275 99 (.ref q276) := ⟨_, rfl⟩
  refine zxputF hx hb hts inW_14 tyX14 tyX14_ok nmX14 hown hK hZ276 hS276 1 rfl rfl (k := 99) (by decide) k_11_97 rfl hnm rfl rfl rfl d_15_11_1398 (fun H277 locs277 hZ277 hS277 => ?_)
  rw [← hg277] at hZ277
  obtain ⟨Y277, hY277⟩ : ∃ Yz : va_W, Yz = (q276, .inl (ca 0, 24, .inl (zAr (fun _ => 0)))) :: Y275 := ⟨_, rfl⟩
  replace hZ277 : zHx D ca ad15 lnM K15.2 L15 F56 B56 ((a, .inr (14, rg 107 g277)) :: (q276, .inl (ca 0, 24, .inl (zAr (fun _ => 0)))) :: Y275) A H277 := zHx.swp hZ277
  rw [← hY277] at hZ277
  replace hZ277 : zHx D ca ad15 lnM K15.2 L15 F56 B56 ((a, .inr (14, rg 107 g277)) :: Y277) A H277 := hZ277
  clear hZ276 hS276
  refine lv_aload_n hx hb d_15_11_1401 rfl (lv_at hl 0 rfl) ?_
  refine lv_bipush (v := iI 24) hx hb d_15_11_1402 (by decide) ?_
  refine zxnewa (atype := .int) hx hb hts (ty := .int) rfl k_1_57 hK 0 rfl (fun _ _ => gu_int) hZ277 hS277 hA (a0 := (24, .inl (zAr (fun _ => 0)))) (fun _ => rfl) (by decide) (N' := 24) (by decide) (Nat.le_of_ble_eq_true rfl) (Nat.le_of_ble_eq_true rfl) (Nat.le_of_ble_eq_true rfl) d_15_11_1404 (fun q278 H278 hZ278 hS278 => ?_)
  replace hZ278 := zHx.rot hZ278
  replace hZ278 : zHx D ca ad15 lnM K15.2 L15 F56 B56 ((q278, .inl (ca 0, 24, .inl (zAr (fun _ => 0)))) :: (a, .inr (14, rg 107 g277)) :: Y277) A H278 := hZ278
  clear hZ277 hS277
  refine W.widen (k := 246) (n := 654985) (Nat.le_of_ble_eq_true rfl) (Nat.le_of_ble_eq_true rfl) ?_
  refine lv_dup hx hb d_15_11_1406 rfl ?_
  refine lv_iconst (v := iI 0) hx hb d_15_11_1407 rfl ?_
  refine lv_sipush (v := iI 635) hx hb d_15_11_1408 (by decide) ?_
  refine zxiast hx hb hK hZ278 hS278 0 0 rfl rfl (by decide) (by decide) (Nat.le_of_ble_eq_true rfl) d_15_11_1411 (fun H279 locs279 hZ279 hS279 => ?_)
  replace hZ279 : zHx D ca ad15 lnM K15.2 L15 F56 B56 ((q278, .inl (ca 0, 24, .inl (zAr (zup (fun _ => 0) 0 635)))) :: (a, .inr (14, rg 107 g277)) :: Y277) A H279 := hZ279
  clear hZ278 hS278
  refine lv_dup hx hb d_15_11_1412 rfl ?_
  refine lv_iconst (v := iI 1) hx hb d_15_11_1413 rfl ?_
  refine lv_sipush (v := iI 223) hx hb d_15_11_1414 (by decide) ?_
  refine zxiast hx hb hK hZ279 hS279 0 0 rfl rfl (by decide) (by decide) (Nat.le_of_ble_eq_true rfl) d_15_11_1417 (fun H280 locs280 hZ280 hS280 => ?_)
  replace hZ280 : zHx D ca ad15 lnM K15.2 L15 F56 B56 ((q278, .inl (ca 0, 24, .inl (zAr (zup (zup (fun _ => 0) 0 635) 1 223)))) :: (a, .inr (14, rg 107 g277)) :: Y277) A H280 := hZ280
  clear hZ279 hS279
  refine lv_dup hx hb d_15_11_1418 rfl ?_
  refine lv_iconst (v := iI 2) hx hb d_15_11_1419 rfl ?_
  refine lv_sipush (v := iI 348) hx hb d_15_11_1420 (by decide) ?_
  refine zxiast hx hb hK hZ280 hS280 0 0 rfl rfl (by decide) (by decide) (Nat.le_of_ble_eq_true rfl) d_15_11_1423 (fun H281 locs281 hZ281 hS281 => ?_)
  replace hZ281 : zHx D ca ad15 lnM K15.2 L15 F56 B56 ((q278, .inl (ca 0, 24, .inl (zAr (zup (zup (zup (fun _ => 0) 0 635) 1 223) 2 348)))) :: (a, .inr (14, rg 107 g277)) :: Y277) A H281 := hZ281
  clear hZ280 hS280
  refine lv_dup hx hb d_15_11_1424 rfl ?_
  refine lv_iconst (v := iI 3) hx hb d_15_11_1425 rfl ?_
  refine lv_sipush (v := iI 233) hx hb d_15_11_1426 (by decide) ?_
  refine zxiast hx hb hK hZ281 hS281 0 0 rfl rfl (by decide) (by decide) (Nat.le_of_ble_eq_true rfl) d_15_11_1429 (fun H282 locs282 hZ282 hS282 => ?_)
  replace hZ282 : zHx D ca ad15 lnM K15.2 L15 F56 B56 ((q278, .inl (ca 0, 24, .inl (zAr (zup (zup (zup (zup (fun _ => 0) 0 635) 1 223) 2 348) 3 233)))) :: (a, .inr (14, rg 107 g277)) :: Y277) A H282 := hZ282
  clear hZ281 hS281
  refine lv_dup hx hb d_15_11_1430 rfl ?_
  refine lv_iconst (v := iI 4) hx hb d_15_11_1431 rfl ?_
  refine lv_sipush (v := iI 438) hx hb d_15_11_1432 (by decide) ?_
  refine zxiast hx hb hK hZ282 hS282 0 0 rfl rfl (by decide) (by decide) (Nat.le_of_ble_eq_true rfl) d_15_11_1435 (fun H283 locs283 hZ283 hS283 => ?_)
  replace hZ283 : zHx D ca ad15 lnM K15.2 L15 F56 B56 ((q278, .inl (ca 0, 24, .inl (zAr (zup (zup (zup (zup (zup (fun _ => 0) 0 635) 1 223) 2 348) 3 233) 4 438)))) :: (a, .inr (14, rg 107 g277)) :: Y277) A H283 := hZ283
  clear hZ282 hS282
  refine lv_dup hx hb d_15_11_1436 rfl ?_
  refine lv_iconst (v := iI 5) hx hb d_15_11_1437 rfl ?_
  refine lv_sipush (v := iI 409) hx hb d_15_11_1438 (by decide) ?_
  refine zxiast hx hb hK hZ283 hS283 0 0 rfl rfl (by decide) (by decide) (Nat.le_of_ble_eq_true rfl) d_15_11_1441 (fun H284 locs284 hZ284 hS284 => ?_)
  replace hZ284 : zHx D ca ad15 lnM K15.2 L15 F56 B56 ((q278, .inl (ca 0, 24, .inl (zAr (zup (zup (zup (zup (zup (zup (fun _ => 0) 0 635) 1 223) 2 348) 3 233) 4 438) 5 409)))) :: (a, .inr (14, rg 107 g277)) :: Y277) A H284 := hZ284
  clear hZ283 hS283
  refine lv_dup hx hb d_15_11_1442 rfl ?_
  refine lv_bipush (v := iI 6) hx hb d_15_11_1443 (by decide) ?_
  refine lv_sipush (v := iI 252) hx hb d_15_11_1445 (by decide) ?_
  refine zxiast hx hb hK hZ284 hS284 0 0 rfl rfl (by decide) (by decide) (Nat.le_of_ble_eq_true rfl) d_15_11_1448 (fun H285 locs285 hZ285 hS285 => ?_)
  replace hZ285 : zHx D ca ad15 lnM K15.2 L15 F56 B56 ((q278, .inl (ca 0, 24, .inl (zAr (zup (zup (zup (zup (zup (zup (zup (fun _ => 0) 0 635) 1 223) 2 348) 3 233) 4 438) 5 409) 6 252)))) :: (a, .inr (14, rg 107 g277)) :: Y277) A H285 := hZ285
  clear hZ284 hS284
  refine lv_dup hx hb d_15_11_1449 rfl ?_
  refine lv_bipush (v := iI 7) hx hb d_15_11_1450 (by decide) ?_
  refine lv_sipush (v := iI 519) hx hb d_15_11_1452 (by decide) ?_
  refine zxiast hx hb hK hZ285 hS285 0 0 rfl rfl (by decide) (by decide) (Nat.le_of_ble_eq_true rfl) d_15_11_1455 (fun H286 locs286 hZ286 hS286 => ?_)
  replace hZ286 : zHx D ca ad15 lnM K15.2 L15 F56 B56 ((q278, .inl (ca 0, 24, .inl (zAr (zup (zup (zup (zup (zup (zup (zup (zup (fun _ => 0) 0 635) 1 223) 2 348) 3 233) 4 438) 5 409) 6 252) 7 519)))) :: (a, .inr (14, rg 107 g277)) :: Y277) A H286 := hZ286
  clear hZ285 hS285
  refine lv_dup hx hb d_15_11_1456 rfl ?_
  refine lv_bipush (v := iI 8) hx hb d_15_11_1457 (by decide) ?_
  refine lv_sipush (v := iI 239) hx hb d_15_11_1459 (by decide) ?_
  refine zxiast hx hb hK hZ286 hS286 0 0 rfl rfl (by decide) (by decide) (Nat.le_of_ble_eq_true rfl) d_15_11_1462 (fun H287 locs287 hZ287 hS287 => ?_)
  replace hZ287 : zHx D ca ad15 lnM K15.2 L15 F56 B56 ((q278, .inl (ca 0, 24, .inl (zAr (zup (zup (zup (zup (zup (zup (zup (zup (zup (fun _ => 0) 0 635) 1 223) 2 348) 3 233) 4 438) 5 409) 6 252) 7 519) 8 239)))) :: (a, .inr (14, rg 107 g277)) :: Y277) A H287 := hZ287
  clear hZ286 hS286
  refine lv_dup hx hb d_15_11_1463 rfl ?_
  refine lv_bipush (v := iI 9) hx hb d_15_11_1464 (by decide) ?_
  refine lv_sipush (v := iI 366) hx hb d_15_11_1466 (by decide) ?_
  refine zxiast hx hb hK hZ287 hS287 0 0 rfl rfl (by decide) (by decide) (Nat.le_of_ble_eq_true rfl) d_15_11_1469 (fun H288 locs288 hZ288 hS288 => ?_)
  replace hZ288 : zHx D ca ad15 lnM K15.2 L15 F56 B56 ((q278, .inl (ca 0, 24, .inl (zAr (zup (zup (zup (zup (zup (zup (zup (zup (zup (zup (fun _ => 0) 0 635) 1 223) 2 348) 3 233) 4 438) 5 409) 6 252) 7 519) 8 239) 9 366)))) :: (a, .inr (14, rg 107 g277)) :: Y277) A H288 := hZ288
  clear hZ287 hS287
  refine lv_dup hx hb d_15_11_1470 rfl ?_
  refine lv_bipush (v := iI 10) hx hb d_15_11_1471 (by decide) ?_
  refine lv_sipush (v := iI 229) hx hb d_15_11_1473 (by decide) ?_
  refine zxiast hx hb hK hZ288 hS288 0 0 rfl rfl (by decide) (by decide) (Nat.le_of_ble_eq_true rfl) d_15_11_1476 (fun H289 locs289 hZ289 hS289 => ?_)
  replace hZ289 : zHx D ca ad15 lnM K15.2 L15 F56 B56 ((q278, .inl (ca 0, 24, .inl (zAr (zup (zup (zup (zup (zup (zup (zup (zup (zup (zup (zup (fun _ => 0) 0 635) 1 223) 2 348) 3 233) 4 438) 5 409) 6 252) 7 519) 8 239) 9 366) 10 229)))) :: (a, .inr (14, rg 107 g277)) :: Y277) A H289 := hZ289
  clear hZ288 hS288
  refine lv_dup hx hb d_15_11_1477 rfl ?_
  refine lv_bipush (v := iI 11) hx hb d_15_11_1478 (by decide) ?_
  refine lv_sipush (v := iI 288) hx hb d_15_11_1480 (by decide) ?_
  refine zxiast hx hb hK hZ289 hS289 0 0 rfl rfl (by decide) (by decide) (Nat.le_of_ble_eq_true rfl) d_15_11_1483 (fun H290 locs290 hZ290 hS290 => ?_)
  replace hZ290 : zHx D ca ad15 lnM K15.2 L15 F56 B56 ((q278, .inl (ca 0, 24, .inl (zAr (zup (zup (zup (zup (zup (zup (zup (zup (zup (zup (zup (zup (fun _ => 0) 0 635) 1 223) 2 348) 3 233) 4 438) 5 409) 6 252) 7 519) 8 239) 9 366) 10 229) 11 288)))) :: (a, .inr (14, rg 107 g277)) :: Y277) A H290 := hZ290
  clear hZ289 hS289
  refine lv_dup hx hb d_15_11_1484 rfl ?_
  refine lv_bipush (v := iI 12) hx hb d_15_11_1485 (by decide) ?_
  refine lv_sipush (v := iI 633) hx hb d_15_11_1487 (by decide) ?_
  refine zxiast hx hb hK hZ290 hS290 0 0 rfl rfl (by decide) (by decide) (Nat.le_of_ble_eq_true rfl) d_15_11_1490 (fun H291 locs291 hZ291 hS291 => ?_)
  replace hZ291 : zHx D ca ad15 lnM K15.2 L15 F56 B56 ((q278, .inl (ca 0, 24, .inl (zAr (zup (zup (zup (zup (zup (zup (zup (zup (zup (zup (zup (zup (zup (fun _ => 0) 0 635) 1 223) 2 348) 3 233) 4 438) 5 409) 6 252) 7 519) 8 239) 9 366) 10 229) 11 288) 12 633)))) :: (a, .inr (14, rg 107 g277)) :: Y277) A H291 := hZ291
  clear hZ290 hS290
  refine lv_dup hx hb d_15_11_1491 rfl ?_
  refine lv_bipush (v := iI 13) hx hb d_15_11_1492 (by decide) ?_
  refine lv_sipush (v := iI 268) hx hb d_15_11_1494 (by decide) ?_
  refine zxiast hx hb hK hZ291 hS291 0 0 rfl rfl (by decide) (by decide) (Nat.le_of_ble_eq_true rfl) d_15_11_1497 (fun H292 locs292 hZ292 hS292 => ?_)
  replace hZ292 : zHx D ca ad15 lnM K15.2 L15 F56 B56 ((q278, .inl (ca 0, 24, .inl (zAr (zup (zup (zup (zup (zup (zup (zup (zup (zup (zup (zup (zup (zup (zup (fun _ => 0) 0 635) 1 223) 2 348) 3 233) 4 438) 5 409) 6 252) 7 519) 8 239) 9 366) 10 229) 11 288) 12 633) 13 268)))) :: (a, .inr (14, rg 107 g277)) :: Y277) A H292 := hZ292
  clear hZ291 hS291
  refine lv_dup hx hb d_15_11_1498 rfl ?_
  refine lv_bipush (v := iI 14) hx hb d_15_11_1499 (by decide) ?_
  refine lv_sipush (v := iI 352) hx hb d_15_11_1501 (by decide) ?_
  refine zxiast hx hb hK hZ292 hS292 0 0 rfl rfl (by decide) (by decide) (Nat.le_of_ble_eq_true rfl) d_15_11_1504 (fun H293 locs293 hZ293 hS293 => ?_)
  replace hZ293 : zHx D ca ad15 lnM K15.2 L15 F56 B56 ((q278, .inl (ca 0, 24, .inl (zAr (zup (zup (zup (zup (zup (zup (zup (zup (zup (zup (zup (zup (zup (zup (zup (fun _ => 0) 0 635) 1 223) 2 348) 3 233) 4 438) 5 409) 6 252) 7 519) 8 239) 9 366) 10 229) 11 288) 12 633) 13 268) 14 352)))) :: (a, .inr (14, rg 107 g277)) :: Y277) A H293 := hZ293
  clear hZ292 hS292
  refine lv_dup hx hb d_15_11_1505 rfl ?_
  refine lv_bipush (v := iI 15) hx hb d_15_11_1506 (by decide) ?_
  refine lv_sipush (v := iI 538) hx hb d_15_11_1508 (by decide) ?_
  refine zxiast hx hb hK hZ293 hS293 0 0 rfl rfl (by decide) (by decide) (Nat.le_of_ble_eq_true rfl) d_15_11_1511 (fun H294 locs294 hZ294 hS294 => ?_)
  replace hZ294 : zHx D ca ad15 lnM K15.2 L15 F56 B56 ((q278, .inl (ca 0, 24, .inl (zAr (zup (zup (zup (zup (zup (zup (zup (zup (zup (zup (zup (zup (zup (zup (zup (zup (fun _ => 0) 0 635) 1 223) 2 348) 3 233) 4 438) 5 409) 6 252) 7 519) 8 239) 9 366) 10 229) 11 288) 12 633) 13 268) 14 352) 15 538)))) :: (a, .inr (14, rg 107 g277)) :: Y277) A H294 := hZ294
  clear hZ293 hS293
  refine lv_dup hx hb d_15_11_1512 rfl ?_
  refine lv_bipush (v := iI 16) hx hb d_15_11_1513 (by decide) ?_
  refine lv_sipush (v := iI 260) hx hb d_15_11_1515 (by decide) ?_
  refine zxiast hx hb hK hZ294 hS294 0 0 rfl rfl (by decide) (by decide) (Nat.le_of_ble_eq_true rfl) d_15_11_1518 (fun H295 locs295 hZ295 hS295 => ?_)
  replace hZ295 : zHx D ca ad15 lnM K15.2 L15 F56 B56 ((q278, .inl (ca 0, 24, .inl (zAr (zup (zup (zup (zup (zup (zup (zup (zup (zup (zup (zup (zup (zup (zup (zup (zup (zup (fun _ => 0) 0 635) 1 223) 2 348) 3 233) 4 438) 5 409) 6 252) 7 519) 8 239) 9 366) 10 229) 11 288) 12 633) 13 268) 14 352) 15 538) 16 260)))) :: (a, .inr (14, rg 107 g277)) :: Y277) A H295 := hZ295
  clear hZ294 hS294
  refine lv_dup hx hb d_15_11_1519 rfl ?_
  refine lv_bipush (v := iI 17) hx hb d_15_11_1520 (by decide) ?_
  refine lv_sipush (v := iI 353) hx hb d_15_11_1522 (by decide) ?_
  refine zxiast hx hb hK hZ295 hS295 0 0 rfl rfl (by decide) (by decide) (Nat.le_of_ble_eq_true rfl) d_15_11_1525 (fun H296 locs296 hZ296 hS296 => ?_)
  replace hZ296 : zHx D ca ad15 lnM K15.2 L15 F56 B56 ((q278, .inl (ca 0, 24, .inl (zAr (zup (zup (zup (zup (zup (zup (zup (zup (zup (zup (zup (zup (zup (zup (zup (zup (zup (zup (fun _ => 0) 0 635) 1 223) 2 348) 3 233) 4 438) 5 409) 6 252) 7 519) 8 239) 9 366) 10 229) 11 288) 12 633) 13 268) 14 352) 15 538) 16 260) 17 353)))) :: (a, .inr (14, rg 107 g277)) :: Y277) A H296 := hZ296
  clear hZ295 hS295
  refine lv_dup hx hb d_15_11_1526 rfl ?_
  refine lv_bipush (v := iI 18) hx hb d_15_11_1527 (by decide) ?_
  refine lv_sipush (v := iI 254) hx hb d_15_11_1529 (by decide) ?_
  refine zxiast hx hb hK hZ296 hS296 0 0 rfl rfl (by decide) (by decide) (Nat.le_of_ble_eq_true rfl) d_15_11_1532 (fun H297 locs297 hZ297 hS297 => ?_)
  replace hZ297 : zHx D ca ad15 lnM K15.2 L15 F56 B56 ((q278, .inl (ca 0, 24, .inl (zAr (zup (zup (zup (zup (zup (zup (zup (zup (zup (zup (zup (zup (zup (zup (zup (zup (zup (zup (zup (fun _ => 0) 0 635) 1 223) 2 348) 3 233) 4 438) 5 409) 6 252) 7 519) 8 239) 9 366) 10 229) 11 288) 12 633) 13 268) 14 352) 15 538) 16 260) 17 353) 18 254)))) :: (a, .inr (14, rg 107 g277)) :: Y277) A H297 := hZ297
  clear hZ296 hS296
  refine lv_dup hx hb d_15_11_1533 rfl ?_
  refine lv_bipush (v := iI 19) hx hb d_15_11_1534 (by decide) ?_
  refine lv_sipush (v := iI 475) hx hb d_15_11_1536 (by decide) ?_
  refine zxiast hx hb hK hZ297 hS297 0 0 rfl rfl (by decide) (by decide) (Nat.le_of_ble_eq_true rfl) d_15_11_1539 (fun H298 locs298 hZ298 hS298 => ?_)
  replace hZ298 : zHx D ca ad15 lnM K15.2 L15 F56 B56 ((q278, .inl (ca 0, 24, .inl (zAr (zup (zup (zup (zup (zup (zup (zup (zup (zup (zup (zup (zup (zup (zup (zup (zup (zup (zup (zup (zup (fun _ => 0) 0 635) 1 223) 2 348) 3 233) 4 438) 5 409) 6 252) 7 519) 8 239) 9 366) 10 229) 11 288) 12 633) 13 268) 14 352) 15 538) 16 260) 17 353) 18 254) 19 475)))) :: (a, .inr (14, rg 107 g277)) :: Y277) A H298 := hZ298
  clear hZ297 hS297
  refine lv_dup hx hb d_15_11_1540 rfl ?_
  refine lv_bipush (v := iI 20) hx hb d_15_11_1541 (by decide) ?_
  refine lv_sipush (v := iI 398) hx hb d_15_11_1543 (by decide) ?_
  refine zxiast hx hb hK hZ298 hS298 0 0 rfl rfl (by decide) (by decide) (Nat.le_of_ble_eq_true rfl) d_15_11_1546 (fun H299 locs299 hZ299 hS299 => ?_)
  replace hZ299 : zHx D ca ad15 lnM K15.2 L15 F56 B56 ((q278, .inl (ca 0, 24, .inl (zAr (zup (zup (zup (zup (zup (zup (zup (zup (zup (zup (zup (zup (zup (zup (zup (zup (zup (zup (zup (zup (zup (fun _ => 0) 0 635) 1 223) 2 348) 3 233) 4 438) 5 409) 6 252) 7 519) 8 239) 9 366) 10 229) 11 288) 12 633) 13 268) 14 352) 15 538) 16 260) 17 353) 18 254) 19 475) 20 398)))) :: (a, .inr (14, rg 107 g277)) :: Y277) A H299 := hZ299
  clear hZ298 hS298
  refine lv_dup hx hb d_15_11_1547 rfl ?_
  refine lv_bipush (v := iI 21) hx hb d_15_11_1548 (by decide) ?_
  refine lv_sipush (v := iI 269) hx hb d_15_11_1550 (by decide) ?_
  refine zxiast hx hb hK hZ299 hS299 0 0 rfl rfl (by decide) (by decide) (Nat.le_of_ble_eq_true rfl) d_15_11_1553 (fun H300 locs300 hZ300 hS300 => ?_)
  replace hZ300 : zHx D ca ad15 lnM K15.2 L15 F56 B56 ((q278, .inl (ca 0, 24, .inl (zAr (zup (zup (zup (zup (zup (zup (zup (zup (zup (zup (zup (zup (zup (zup (zup (zup (zup (zup (zup (zup (zup (zup (fun _ => 0) 0 635) 1 223) 2 348) 3 233) 4 438) 5 409) 6 252) 7 519) 8 239) 9 366) 10 229) 11 288) 12 633) 13 268) 14 352) 15 538) 16 260) 17 353) 18 254) 19 475) 20 398) 21 269)))) :: (a, .inr (14, rg 107 g277)) :: Y277) A H300 := hZ300
  clear hZ299 hS299
  refine lv_dup hx hb d_15_11_1554 rfl ?_
  refine lv_bipush (v := iI 22) hx hb d_15_11_1555 (by decide) ?_
  refine lv_sipush (v := iI 334) hx hb d_15_11_1557 (by decide) ?_
  refine zxiast hx hb hK hZ300 hS300 0 0 rfl rfl (by decide) (by decide) (Nat.le_of_ble_eq_true rfl) d_15_11_1560 (fun H301 locs301 hZ301 hS301 => ?_)
  replace hZ301 : zHx D ca ad15 lnM K15.2 L15 F56 B56 ((q278, .inl (ca 0, 24, .inl (zAr (zup (zup (zup (zup (zup (zup (zup (zup (zup (zup (zup (zup (zup (zup (zup (zup (zup (zup (zup (zup (zup (zup (zup (fun _ => 0) 0 635) 1 223) 2 348) 3 233) 4 438) 5 409) 6 252) 7 519) 8 239) 9 366) 10 229) 11 288) 12 633) 13 268) 14 352) 15 538) 16 260) 17 353) 18 254) 19 475) 20 398) 21 269) 22 334)))) :: (a, .inr (14, rg 107 g277)) :: Y277) A H301 := hZ301
  clear hZ300 hS300
  refine lv_dup hx hb d_15_11_1561 rfl ?_
  refine lv_bipush (v := iI 23) hx hb d_15_11_1562 (by decide) ?_
  refine lv_sipush (v := iI 317) hx hb d_15_11_1564 (by decide) ?_
  refine zxiast hx hb hK hZ301 hS301 0 0 rfl rfl (by decide) (by decide) (Nat.le_of_ble_eq_true rfl) d_15_11_1567 (fun H302 locs302 hZ302 hS302 => ?_)
  replace hZ302 : zHx D ca ad15 lnM K15.2 L15 F56 B56 ((q278, .inl (ca 0, 24, .inl (zAr (zup (zup (zup (zup (zup (zup (zup (zup (zup (zup (zup (zup (zup (zup (zup (zup (zup (zup (zup (zup (zup (zup (zup (zup (fun _ => 0) 0 635) 1 223) 2 348) 3 233) 4 438) 5 409) 6 252) 7 519) 8 239) 9 366) 10 229) 11 288) 12 633) 13 268) 14 352) 15 538) 16 260) 17 353) 18 254) 19 475) 20 398) 21 269) 22 334) 23 317)))) :: (a, .inr (14, rg 107 g277)) :: Y277) A H302 := hZ302
  clear hZ301 hS301
  obtain ⟨g303, hg303⟩ : ∃ gz : Nat → Value, gz = va_up g277 106 (.ref q278) := ⟨_, rfl⟩
  refine zxputF hx hb hts inW_14 tyX14 tyX14_ok nmX14 hown hK hZ302 hS302 1 rfl rfl (k := 106) (by decide) k_11_104 rfl hnm rfl rfl rfl d_15_11_1568 (fun H303 locs303 hZ303 hS303 => ?_)
  rw [← hg303] at hZ303
  obtain ⟨Y303, hY303⟩ : ∃ Yz : va_W, Yz = (q278, .inl (ca 0, 24, .inl (zAr (zup (zup (zup (zup (zup (zup (zup (zup (zup (zup (zup (zup (zup (zup (zup (zup (zup (zup (zup (zup (zup (zup (zup (zup (fun _ => 0) 0 635) 1 223) 2 348) 3 233) 4 438) 5 409) 6 252) 7 519) 8 239) 9 366) 10 229) 11 288) 12 633) 13 268) 14 352) 15 538) 16 260) 17 353) 18 254) 19 475) 20 398) 21 269) 22 334) 23 317)))) :: Y277 := ⟨_, rfl⟩
  replace hZ303 : zHx D ca ad15 lnM K15.2 L15 F56 B56 ((a, .inr (14, rg 107 g303)) :: (q278, .inl (ca 0, 24, .inl (zAr (zup (zup (zup (zup (zup (zup (zup (zup (zup (zup (zup (zup (zup (zup (zup (zup (zup (zup (zup (zup (zup (zup (zup (zup (fun _ => 0) 0 635) 1 223) 2 348) 3 233) 4 438) 5 409) 6 252) 7 519) 8 239) 9 366) 10 229) 11 288) 12 633) 13 268) 14 352) 15 538) 16 260) 17 353) 18 254) 19 475) 20 398) 21 269) 22 334) 23 317)))) :: Y277) A H303 := zHx.swp hZ303
  rw [← hY303] at hZ303
  replace hZ303 : zHx D ca ad15 lnM K15.2 L15 F56 B56 ((a, .inr (14, rg 107 g303)) :: Y303) A H303 := hZ303
  clear hZ302 hS302
  subst hg1
  subst hg3
  subst hY3
  subst hg5
  subst hY5
  subst hg13
  subst hY13
  subst hg16
  subst hg18
  subst hY18
  subst hg20
  subst hY20
  subst hg22
  subst hY22
  subst hg24
  subst hY24
  subst hg26
  subst hY26
  subst hg40
  subst hY40
  subst hg58
  subst hY58
  subst hg76
  subst hY76
  subst hg78
  subst hY78
  subst hg80
  subst hY80
  subst hg82
  subst hY82
  subst hg84
  subst hY84
  subst hg86
  subst hY86
  subst hg88
  subst hY88
  subst hg90
  subst hY90
  subst hg92
  subst hY92
  subst hg94
  subst hY94
  subst hg96
  subst hY96
  subst hg98
  subst hY98
  subst hg100
  subst hY100
  subst hg102
  subst hY102
  subst hg104
  subst hY104
  subst hg106
  subst hY106
  subst hg108
  subst hY108
  subst hg110
  subst hY110
  subst hg112
  subst hY112
  subst hg122
  subst hY122
  subst hg124
  subst hY124
  subst hg126
  subst hY126
  subst hg128
  subst hY128
  subst hg130
  subst hY130
  subst hg132
  subst hY132
  subst hg134
  subst hY134
  subst hg136
  subst hY136
  subst hg138
  subst hY138
  subst hg140
  subst hY140
  subst hg142
  subst hY142
  subst hg144
  subst hY144
  subst hg146
  subst hY146
  subst hg148
  subst hY148
  subst hg150
  subst hY150
  subst hg152
  subst hY152
  subst hg154
  subst hY154
  subst hg156
  subst hY156
  subst hg158
  subst hY158
  subst hg160
  subst hY160
  subst hg162
  subst hY162
  subst hg164
  subst hY164
  subst hg166
  subst hY166
  subst hg168
  subst hY168
  subst hg170
  subst hY170
  subst hg172
  subst hY172
  subst hg263
  subst hY263
  subst hg273
  subst hY273
  subst hg275
  subst hY275
  subst hg277
  subst hY277
  subst hg303
  subst hY303
  replace hZ303 : zHx D ca ad15 lnM K15.2 L15 F56 B56 [(a, .inr (14, rg 107 (va_up (va_up (va_up (va_up (va_up (va_up (va_up (va_up (va_up (va_up (va_up (va_up (va_up (va_up (va_up (va_up (va_up (va_up (va_up (va_up (va_up (va_up (va_up (va_up (va_up (va_up (va_up (va_up (va_up (va_up (va_up (va_up (va_up (va_up (va_up (va_up (va_up (va_up (va_up (va_up (va_up (va_up (va_up (va_up (va_up (va_up (va_up (va_up (va_up (va_up (va_up (va_up (va_up (va_up (va_up (va_up (va_up (va_up (va_up (va_up (va_up (va_up (fun j => defaultValue (tyX14 j)) 1 (.long (lI 1))) 2 (.ref q2)) 4 (.ref q4)) 5 (.ref q6)) 6 (.ref q15)) 7 (.ref q17)) 8 (.ref q19)) 9 (.ref q21)) 10 (.ref q23)) 11 (.ref q25)) 13 (.ref q27)) 14 (.ref q41)) 15 (.ref q59)) 25 (.ref q77)) 26 (.ref q79)) 28 (.ref q81)) 29 (.ref q83)) 30 (.ref q85)) 31 (.ref q87)) 32 (.ref q89)) 33 (.ref q91)) 34 (.ref q93)) 42 (.ref q95)) 43 (.ref q97)) 44 (.ref q99)) 46 (.ref q101)) 47 (.ref q103)) 51 (.ref q105)) 58 (.ref q107)) 59 (.ref q109)) 60 (.ref q111)) 61 (.ref q113)) 63 (.ref q123)) 64 (.ref q125)) 65 (.ref q127)) 66 (.ref q129)) 67 (.ref q131)) 68 (.ref q133)) 69 (.ref q135)) 70 (.ref q137)) 73 (.ref q139)) 74 (.ref q141)) 75 (.ref q143)) 76 (.ref q145)) 77 (.ref q147)) 78 (.ref q149)) 79 (.ref q151)) 80 (.ref q153)) 81 (.ref q155)) 82 (.ref q157)) 83 (.ref q159)) 84 (.ref q161)) 85 (.ref q163)) 86 (.ref q165)) 87 (.ref q167)) 88 (.ref q169)) 95 (.ref q171)) 96 (.ref q173)) 97 (.ref q264)) 98 (.ref q274)) 99 (.ref q276)) 106 (.ref q278)))), (q278, .inl (ca 0, 24, .inl (zAr (zup (zup (zup (zup (zup (zup (zup (zup (zup (zup (zup (zup (zup (zup (zup (zup (zup (zup (zup (zup (zup (zup (zup (zup (fun _ => 0) 0 635) 1 223) 2 348) 3 233) 4 438) 5 409) 6 252) 7 519) 8 239) 9 366) 10 229) 11 288) 12 633) 13 268) 14 352) 15 538) 16 260) 17 353) 18 254) 19 475) 20 398) 21 269) 22 334) 23 317)))), (q276, .inl (ca 0, 24, .inl (zAr (fun _ => 0)))), (q274, .inl (ca 0, 24, .inl (zAr (fun _ => 0)))), (q264, .inl (ca 0, 8, .inl (zAr (zup (zup (zup (zup (zup (zup (zup (zup (fun _ => 0) 0 (-1)) 1 (-1)) 2 (-1)) 3 (-1)) 4 2) 5 4) 6 6) 7 8)))), (q173, .inl (ca 0, 89, .inl (zAr (zup (zup (zup (zup (zup (zup (zup (zup (zup (zup (zup (zup (zup (zup (zup (zup (zup (zup (zup (zup (zup (zup (zup (zup (zup (zup (zup (zup (zup (zup (zup (zup (zup (zup (zup (zup (zup (zup (zup (zup (zup (zup (zup (zup (zup (zup (zup (zup (zup (zup (zup (zup (zup (zup (zup (zup (zup (zup (zup (zup (zup (zup (zup (zup (zup (zup (zup (zup (zup (zup (zup (zup (zup (zup (zup (zup (zup (zup (zup (zup (zup (zup (zup (zup (zup (zup (zup (zup (zup (fun _ => 0) 0 7) 1 8) 2 9) 3 10) 4 11) 5 12) 6 13) 7 14) 8 16) 9 17) 10 19) 11 21) 12 23) 13 25) 14 28) 15 31) 16 34) 17 37) 18 41) 19 45) 20 50) 21 55) 22 60) 23 66) 24 73) 25 80) 26 88) 27 97) 28 107) 29 118) 30 130) 31 143) 32 157) 33 173) 34 190) 35 209) 36 230) 37 253) 38 279) 39 307) 40 337) 41 371) 42 408) 43 449) 44 494) 45 544) 46 598) 47 658) 48 724) 49 796) 50 876) 51 963) 52 1060) 53 1166) 54 1282) 55 1411) 56 1552) 57 1707) 58 1878) 59 2066) 60 2272) 61 2499) 62 2749) 63 3024) 64 3327) 65 3660) 66 4026) 67 4428) 68 4871) 69 5358) 70 5894) 71 6484) 72 7132) 73 7845) 74 8630) 75 9493) 76 10442) 77 11487) 78 12635) 79 13899) 80 15289) 81 16818) 82 18500) 83 20350) 84 22385) 85 24623) 86 27086) 87 29794) 88 32767)))), (q171, .inl (ca 0, 6, .inl (zAr (fun _ => 0)))), (q169, .inl (ca 0, 8, .inl (zAr (fun _ => 0)))), (q167, .inl (ca 1, 400, .inr (.inl (zLr (fun _ => 0))))), (q165, .inl (ca 1, 400, .inr (.inl (zLr (fun _ => 0))))), (q163, .inl (ca 0, 400, .inl (zAr (fun _ => 0)))), (q161, .inl (ca 0, 400, .inl (zAr (fun _ => 0)))), (q159, .inl (ca 0, 400, .inl (zAr (fun _ => 0)))), (q157, .inl (ca 0, 400, .inl (zAr (fun _ => 0)))), (q155, .inl (ca 0, 8, .inl (zAr (fun _ => 0)))), (q153, .inl (ca 1, 400, .inr (.inl (zLr (fun _ => 0))))), (q151, .inl (ca 1, 400, .inr (.inl (zLr (fun _ => 0))))), (q149, .inl (ca 0, 400, .inl (zAr (fun _ => 0)))), (q147, .inl (ca 0, 400, .inl (zAr (fun _ => 0)))), (q145, .inl (ca 0, 400, .inl (zAr (fun _ => 0)))), (q143, .inl (ca 0, 400, .inl (zAr (fun _ => 0)))), (q141, .inl (ca 0, 8, .inl (zAr (fun _ => 0)))), (q139, .inl (ca 0, 8, .inl (zAr (fun _ => 0)))), (q137, .inl (ca 2, 40000, .inl (zAr (fun _ => 0)))), (q135, .inl (ca 0, 4000, .inl (zAr (fun _ => 0)))), (q133, .inl (ca 0, 2000, .inl (zAr (fun _ => 0)))), (q131, .inl (ca 0, 2000, .inl (zAr (fun _ => 0)))), (q129, .inl (ca 0, 2000, .inl (zAr (fun _ => 0)))), (q127, .inl (ca 0, 2000, .inl (zAr (fun _ => 0)))), (q125, .inl (ca 0, 2000, .inl (zAr (fun _ => 0)))), (q123, .inl (ca 0, 2000, .inl (zAr (fun _ => 0)))), (q113, .inl (ca 0, 8, .inl (zAr (zup (zup (zup (zup (zup (zup (zup (zup (fun _ => 0) 0 20) 1 33) 2 46) 3 59) 4 72) 5 85) 6 98) 7 111)))), (q111, .inl (ca 0, 101, .inl (zAr (fun _ => 0)))), (q109, .inl (ca 1, 101, .inr (.inl (zLr (fun _ => 0))))), (q107, .inl (ca 0, 63, .inl (zAr (fun _ => 0)))), (q105, .inl (ca 0, 8, .inl (zAr (fun _ => 0)))), (q103, .inl (ca 0, 100, .inl (zAr (fun _ => 0)))), (q101, .inl (ca 0, 100, .inl (zAr (fun _ => 0)))), (q99, .inl (ca 0, 100, .inl (zAr (fun _ => 0)))), (q97, .inl (ca 0, 100, .inl (zAr (fun _ => 0)))), (q95, .inl (ca 3, 100, .inl (zAr (fun _ => 0)))), (q93, .inl (ca 0, 3001, .inl (zAr (fun _ => 0)))), (q91, .inl (ca 0, 3001, .inl (zAr (fun _ => 0)))), (q89, .inl (ca 0, 3001, .inl (zAr (fun _ => 0)))), (q87, .inl (ca 0, 3001, .inl (zAr (fun _ => 0)))), (q85, .inl (ca 0, 3001, .inl (zAr (fun _ => 0)))), (q83, .inl (ca 0, 4, .inl (zAr (fun _ => 0)))), (q81, .inl (ca 0, 4, .inl (zAr (fun _ => 0)))), (q79, .inl (ca 0, 6, .inl (zAr (fun _ => 0)))), (q77, .inl (ca 1, 6, .inr (.inl (zLr (fun _ => 0))))), (q59, .inl (ca 1, 15, .inr (.inl (zLr (zup (zup (zup (zup (zup (zup (zup (zup (zup (zup (zup (zup (zup (zup (zup (fun _ => 0) 0 7038329) 1 469785800562) 2 469920280434) 3 1953066341) 4 499917877359) 5 7103860) 6 508675318629) 7 125780002955636) 8 6384756) 9 7697253) 10 1836021349) 11 120299659095922) 12 1650549611) 13 1936486263) 14 114))))), (q41, .inl (ca 1, 8, .inr (.inl (zLr (zup (zup (zup (zup (zup (zup (zup (zup (fun _ => 0) 0 r42) 1 r44) 2 r46) 3 r48) 4 r50) 5 r52) 6 r54) 7 r56))))), (q27, .inl (ca 1, 4, .inr (.inl (zLr (zup (zup (zup (zup (fun _ => 0) 0 r28) 1 r34) 2 r36) 3 r38))))), (q25, .inl (ca 1, 3001, .inr (.inl (zLr (fun _ => 0))))), (q23, .inl (ca 0, 3001, .inl (zAr (fun _ => 0)))), (q21, .inl (ca 0, 3001, .inl (zAr (fun _ => 0)))), (q19, .inl (ca 0, 3001, .inl (zAr (fun _ => 0)))), (q17, .inl (ca 0, 3001, .inl (zAr (fun _ => 0)))), (q6, .inl (ca 5, 2, .inr (.inr (.inr (.inr (va_up (va_up (fun _ => none) 0 (some q7)) 1 (some q10))))))), (q4, .inl (ca 2, 20, .inl (zAr (fun _ => 0)))), (q2, .inl (ca 2, 3000, .inl (zAr (fun _ => 0))))] A H303 := hZ303
  obtain ⟨g305, hf⟩ := gif hf
  obtain ⟨g306, hf⟩ := gif hf
  obtain ⟨g307, hf⟩ := gif hf
  have hZ308 := hZ303.repl (v := (fun j : Nat => zrf ad15 13 ((zup (zup (fun _ => -1) 0 r7) 1 r10) (j : Int)))) 58 rfl (And.intro (zrf_some g29.1 hq7_10_15) (And.intro (zrf_some g30.1 hq10_15) trivial))
  replace hZ308 : zHx D ca ad15 lnM K15.2 L15 F56 B56 [(a, .inr (14, rg 107 (va_up (va_up (va_up (va_up (va_up (va_up (va_up (va_up (va_up (va_up (va_up (va_up (va_up (va_up (va_up (va_up (va_up (va_up (va_up (va_up (va_up (va_up (va_up (va_up (va_up (va_up (va_up (va_up (va_up (va_up (va_up (va_up (va_up (va_up (va_up (va_up (va_up (va_up (va_up (va_up (va_up (va_up (va_up (va_up (va_up (va_up (va_up (va_up (va_up (va_up (va_up (va_up (va_up (va_up (va_up (va_up (va_up (va_up (va_up (va_up (va_up (va_up (fun j => defaultValue (tyX14 j)) 1 (.long (lI 1))) 2 (.ref q2)) 4 (.ref q4)) 5 (.ref q6)) 6 (.ref q15)) 7 (.ref q17)) 8 (.ref q19)) 9 (.ref q21)) 10 (.ref q23)) 11 (.ref q25)) 13 (.ref q27)) 14 (.ref q41)) 15 (.ref q59)) 25 (.ref q77)) 26 (.ref q79)) 28 (.ref q81)) 29 (.ref q83)) 30 (.ref q85)) 31 (.ref q87)) 32 (.ref q89)) 33 (.ref q91)) 34 (.ref q93)) 42 (.ref q95)) 43 (.ref q97)) 44 (.ref q99)) 46 (.ref q101)) 47 (.ref q103)) 51 (.ref q105)) 58 (.ref q107)) 59 (.ref q109)) 60 (.ref q111)) 61 (.ref q113)) 63 (.ref q123)) 64 (.ref q125)) 65 (.ref q127)) 66 (.ref q129)) 67 (.ref q131)) 68 (.ref q133)) 69 (.ref q135)) 70 (.ref q137)) 73 (.ref q139)) 74 (.ref q141)) 75 (.ref q143)) 76 (.ref q145)) 77 (.ref q147)) 78 (.ref q149)) 79 (.ref q151)) 80 (.ref q153)) 81 (.ref q155)) 82 (.ref q157)) 83 (.ref q159)) 84 (.ref q161)) 85 (.ref q163)) 86 (.ref q165)) 87 (.ref q167)) 88 (.ref q169)) 95 (.ref q171)) 96 (.ref q173)) 97 (.ref q264)) 98 (.ref q274)) 99 (.ref q276)) 106 (.ref q278)))), (q278, .inl (ca 0, 24, .inl (zAr (zup (zup (zup (zup (zup (zup (zup (zup (zup (zup (zup (zup (zup (zup (zup (zup (zup (zup (zup (zup (zup (zup (zup (zup (fun _ => 0) 0 635) 1 223) 2 348) 3 233) 4 438) 5 409) 6 252) 7 519) 8 239) 9 366) 10 229) 11 288) 12 633) 13 268) 14 352) 15 538) 16 260) 17 353) 18 254) 19 475) 20 398) 21 269) 22 334) 23 317)))), (q276, .inl (ca 0, 24, .inl (zAr (fun _ => 0)))), (q274, .inl (ca 0, 24, .inl (zAr (fun _ => 0)))), (q264, .inl (ca 0, 8, .inl (zAr (zup (zup (zup (zup (zup (zup (zup (zup (fun _ => 0) 0 (-1)) 1 (-1)) 2 (-1)) 3 (-1)) 4 2) 5 4) 6 6) 7 8)))), (q173, .inl (ca 0, 89, .inl (zAr (zup (zup (zup (zup (zup (zup (zup (zup (zup (zup (zup (zup (zup (zup (zup (zup (zup (zup (zup (zup (zup (zup (zup (zup (zup (zup (zup (zup (zup (zup (zup (zup (zup (zup (zup (zup (zup (zup (zup (zup (zup (zup (zup (zup (zup (zup (zup (zup (zup (zup (zup (zup (zup (zup (zup (zup (zup (zup (zup (zup (zup (zup (zup (zup (zup (zup (zup (zup (zup (zup (zup (zup (zup (zup (zup (zup (zup (zup (zup (zup (zup (zup (zup (zup (zup (zup (zup (zup (zup (fun _ => 0) 0 7) 1 8) 2 9) 3 10) 4 11) 5 12) 6 13) 7 14) 8 16) 9 17) 10 19) 11 21) 12 23) 13 25) 14 28) 15 31) 16 34) 17 37) 18 41) 19 45) 20 50) 21 55) 22 60) 23 66) 24 73) 25 80) 26 88) 27 97) 28 107) 29 118) 30 130) 31 143) 32 157) 33 173) 34 190) 35 209) 36 230) 37 253) 38 279) 39 307) 40 337) 41 371) 42 408) 43 449) 44 494) 45 544) 46 598) 47 658) 48 724) 49 796) 50 876) 51 963) 52 1060) 53 1166) 54 1282) 55 1411) 56 1552) 57 1707) 58 1878) 59 2066) 60 2272) 61 2499) 62 2749) 63 3024) 64 3327) 65 3660) 66 4026) 67 4428) 68 4871) 69 5358) 70 5894) 71 6484) 72 7132) 73 7845) 74 8630) 75 9493) 76 10442) 77 11487) 78 12635) 79 13899) 80 15289) 81 16818) 82 18500) 83 20350) 84 22385) 85 24623) 86 27086) 87 29794) 88 32767)))), (q171, .inl (ca 0, 6, .inl (zAr (fun _ => 0)))), (q169, .inl (ca 0, 8, .inl (zAr (fun _ => 0)))), (q167, .inl (ca 1, 400, .inr (.inl (zLr (fun _ => 0))))), (q165, .inl (ca 1, 400, .inr (.inl (zLr (fun _ => 0))))), (q163, .inl (ca 0, 400, .inl (zAr (fun _ => 0)))), (q161, .inl (ca 0, 400, .inl (zAr (fun _ => 0)))), (q159, .inl (ca 0, 400, .inl (zAr (fun _ => 0)))), (q157, .inl (ca 0, 400, .inl (zAr (fun _ => 0)))), (q155, .inl (ca 0, 8, .inl (zAr (fun _ => 0)))), (q153, .inl (ca 1, 400, .inr (.inl (zLr (fun _ => 0))))), (q151, .inl (ca 1, 400, .inr (.inl (zLr (fun _ => 0))))), (q149, .inl (ca 0, 400, .inl (zAr (fun _ => 0)))), (q147, .inl (ca 0, 400, .inl (zAr (fun _ => 0)))), (q145, .inl (ca 0, 400, .inl (zAr (fun _ => 0)))), (q143, .inl (ca 0, 400, .inl (zAr (fun _ => 0)))), (q141, .inl (ca 0, 8, .inl (zAr (fun _ => 0)))), (q139, .inl (ca 0, 8, .inl (zAr (fun _ => 0)))), (q137, .inl (ca 2, 40000, .inl (zAr (fun _ => 0)))), (q135, .inl (ca 0, 4000, .inl (zAr (fun _ => 0)))), (q133, .inl (ca 0, 2000, .inl (zAr (fun _ => 0)))), (q131, .inl (ca 0, 2000, .inl (zAr (fun _ => 0)))), (q129, .inl (ca 0, 2000, .inl (zAr (fun _ => 0)))), (q127, .inl (ca 0, 2000, .inl (zAr (fun _ => 0)))), (q125, .inl (ca 0, 2000, .inl (zAr (fun _ => 0)))), (q123, .inl (ca 0, 2000, .inl (zAr (fun _ => 0)))), (q113, .inl (ca 0, 8, .inl (zAr (zup (zup (zup (zup (zup (zup (zup (zup (fun _ => 0) 0 20) 1 33) 2 46) 3 59) 4 72) 5 85) 6 98) 7 111)))), (q111, .inl (ca 0, 101, .inl (zAr (fun _ => 0)))), (q109, .inl (ca 1, 101, .inr (.inl (zLr (fun _ => 0))))), (q107, .inl (ca 0, 63, .inl (zAr (fun _ => 0)))), (q105, .inl (ca 0, 8, .inl (zAr (fun _ => 0)))), (q103, .inl (ca 0, 100, .inl (zAr (fun _ => 0)))), (q101, .inl (ca 0, 100, .inl (zAr (fun _ => 0)))), (q99, .inl (ca 0, 100, .inl (zAr (fun _ => 0)))), (q97, .inl (ca 0, 100, .inl (zAr (fun _ => 0)))), (q95, .inl (ca 3, 100, .inl (zAr (fun _ => 0)))), (q93, .inl (ca 0, 3001, .inl (zAr (fun _ => 0)))), (q91, .inl (ca 0, 3001, .inl (zAr (fun _ => 0)))), (q89, .inl (ca 0, 3001, .inl (zAr (fun _ => 0)))), (q87, .inl (ca 0, 3001, .inl (zAr (fun _ => 0)))), (q85, .inl (ca 0, 3001, .inl (zAr (fun _ => 0)))), (q83, .inl (ca 0, 4, .inl (zAr (fun _ => 0)))), (q81, .inl (ca 0, 4, .inl (zAr (fun _ => 0)))), (q79, .inl (ca 0, 6, .inl (zAr (fun _ => 0)))), (q77, .inl (ca 1, 6, .inr (.inl (zLr (fun _ => 0))))), (q59, .inl (ca 1, 15, .inr (.inl (zLr (zup (zup (zup (zup (zup (zup (zup (zup (zup (zup (zup (zup (zup (zup (zup (fun _ => 0) 0 7038329) 1 469785800562) 2 469920280434) 3 1953066341) 4 499917877359) 5 7103860) 6 508675318629) 7 125780002955636) 8 6384756) 9 7697253) 10 1836021349) 11 120299659095922) 12 1650549611) 13 1936486263) 14 114))))), (q41, .inl (ca 1, 8, .inr (.inl (zLr (zup (zup (zup (zup (zup (zup (zup (zup (fun _ => 0) 0 r42) 1 r44) 2 r46) 3 r48) 4 r50) 5 r52) 6 r54) 7 r56))))), (q27, .inl (ca 1, 4, .inr (.inl (zLr (zup (zup (zup (zup (fun _ => 0) 0 r28) 1 r34) 2 r36) 3 r38))))), (q25, .inl (ca 1, 3001, .inr (.inl (zLr (fun _ => 0))))), (q23, .inl (ca 0, 3001, .inl (zAr (fun _ => 0)))), (q21, .inl (ca 0, 3001, .inl (zAr (fun _ => 0)))), (q19, .inl (ca 0, 3001, .inl (zAr (fun _ => 0)))), (q17, .inl (ca 0, 3001, .inl (zAr (fun _ => 0)))), (q6, .inl (ca 5, 2, .inr (.inr (.inr (.inr (fun j : Nat => zrf ad15 13 ((zup (zup (fun _ => -1) 0 r7) 1 r10) (j : Int)))))))), (q4, .inl (ca 2, 20, .inl (zAr (fun _ => 0)))), (q2, .inl (ca 2, 3000, .inl (zAr (fun _ => 0))))] A H303 := hZ308
  obtain ⟨ad304, L304, hZ304, hG304, hq304⟩ : ∃ ad' L', zH D ca ad' lnM (zinN K15.2 14) L' (zinF F56 14 (K15.2 14) [0, 1, 0, 0, 0, 0, r15, 0, 0, 0, 0, 0, 0, 0, 0, 0, 0, 0, 0, 0, 0, 0, 0, 0, 0, 0, 0, 0, 0, 0, 0, 0, 0, 0, 0, 0, 0, 0, 0, 0, 0, 0, 0, 0, 0, 0, 0, 0, 0, 0, 0, 0, 0, 0, 0, 0, 0, 0, 0, 0, 0, 0, 0, 0, 0, 0, 0, 0, 0, 0, 0, 0, 0, 0, 0, 0, 0, 0, 0, 0, 0, 0, 0, 0, 0, 0, 0, 0, 0, 0, 0, 0, 0, 0, 0, 0, 0, 0, 0, 0, 0, 0, 0, 0, 0, 0, 0]) (zinB B56 14 (K15.2 14) (fun k => if k = 5 then (zup (zup (fun _ => -1) 0 r7) 1 r10) else if k = 13 then (zup (zup (zup (zup (fun _ => 0) 0 r28) 1 r34) 2 r36) 3 r38) else if k = 14 then (zup (zup (zup (zup (zup (zup (zup (zup (fun _ => 0) 0 r42) 1 r44) 2 r46) 3 r48) 4 r50) 5 r52) 6 r54) 7 r56) else if k = 15 then (zup (zup (zup (zup (zup (zup (zup (zup (zup (zup (zup (zup (zup (zup (zup (fun _ => 0) 0 7038329) 1 469785800562) 2 469920280434) 3 1953066341) 4 499917877359) 5 7103860) 6 508675318629) 7 125780002955636) 8 6384756) 9 7697253) 10 1836021349) 11 120299659095922) 12 1650549611) 13 1936486263) 14 114) else if k = 61 then (zup (zup (zup (zup (zup (zup (zup (zup (fun _ => 0) 0 20) 1 33) 2 46) 3 59) 4 72) 5 85) 6 98) 7 111) else if k = 96 then (zup (zup (zup (zup (zup (zup (zup (zup (zup (zup (zup (zup (zup (zup (zup (zup (zup (zup (zup (zup (zup (zup (zup (zup (zup (zup (zup (zup (zup (zup (zup (zup (zup (zup (zup (zup (zup (zup (zup (zup (zup (zup (zup (zup (zup (zup (zup (zup (zup (zup (zup (zup (zup (zup (zup (zup (zup (zup (zup (zup (zup (zup (zup (zup (zup (zup (zup (zup (zup (zup (zup (zup (zup (zup (zup (zup (zup (zup (zup (zup (zup (zup (zup (zup (zup (zup (zup (zup (zup (fun _ => 0) 0 7) 1 8) 2 9) 3 10) 4 11) 5 12) 6 13) 7 14) 8 16) 9 17) 10 19) 11 21) 12 23) 13 25) 14 28) 15 31) 16 34) 17 37) 18 41) 19 45) 20 50) 21 55) 22 60) 23 66) 24 73) 25 80) 26 88) 27 97) 28 107) 29 118) 30 130) 31 143) 32 157) 33 173) 34 190) 35 209) 36 230) 37 253) 38 279) 39 307) 40 337) 41 371) 42 408) 43 449) 44 494) 45 544) 46 598) 47 658) 48 724) 49 796) 50 876) 51 963) 52 1060) 53 1166) 54 1282) 55 1411) 56 1552) 57 1707) 58 1878) 59 2066) 60 2272) 61 2499) 62 2749) 63 3024) 64 3327) 65 3660) 66 4026) 67 4428) 68 4871) 69 5358) 70 5894) 71 6484) 72 7132) 73 7845) 74 8630) 75 9493) 76 10442) 77 11487) 78 12635) 79 13899) 80 15289) 81 16818) 82 18500) 83 20350) 84 22385) 85 24623) 86 27086) 87 29794) 88 32767) else if k = 97 then (zup (zup (zup (zup (zup (zup (zup (zup (fun _ => 0) 0 (-1)) 1 (-1)) 2 (-1)) 3 (-1)) 4 2) 5 4) 6 6) 7 8) else if k = 106 then (zup (zup (zup (zup (zup (zup (zup (zup (zup (zup (zup (zup (zup (zup (zup (zup (zup (zup (zup (zup (zup (zup (zup (zup (fun _ => 0) 0 635) 1 223) 2 348) 3 233) 4 438) 5 409) 6 252) 7 519) 8 239) 9 366) 10 229) 11 288) 12 633) 13 268) 14 352) 15 538) 16 260) 17 353) 18 254) 19 475) 20 398) 21 269) 22 334) 23 317) else (fun _ => 0))) A H303 ∧ zG ad Ki.2 ad' (zinN K15.2 14) ∧ ad' 14 (K15.2 14) 0 = a := ⟨_, _, ztake2 (c := 14) (n := 107) (l := [(0, a), (107, q278), (100, q276), (99, q274), (98, q264), (97, q173), (96, q171), (89, q169), (88, q167), (87, q165), (86, q163), (85, q161), (84, q159), (83, q157), (82, q155), (81, q153), (80, q151), (79, q149), (78, q147), (77, q145), (76, q143), (75, q141), (74, q139), (71, q137), (70, q135), (69, q133), (68, q131), (67, q129), (66, q127), (65, q125), (64, q123), (62, q113), (61, q111), (60, q109), (59, q107), (52, q105), (48, q103), (47, q101), (45, q99), (44, q97), (43, q95), (35, q93), (34, q91), (33, q89), (32, q87), (31, q85), (30, q83), (29, q81), (27, q79), (26, q77), (16, q59), (15, q41), (14, q27), (12, q25), (11, q23), (10, q21), (9, q19), (8, q17), (6, q6), (5, q4), (3, q2)]) (fi := [0, 1, 0, 0, 0, 0, r15, 0, 0, 0, 0, 0, 0, 0, 0, 0, 0, 0, 0, 0, 0, 0, 0, 0, 0, 0, 0, 0, 0, 0, 0, 0, 0, 0, 0, 0, 0, 0, 0, 0, 0, 0, 0, 0, 0, 0, 0, 0, 0, 0, 0, 0, 0, 0, 0, 0, 0, 0, 0, 0, 0, 0, 0, 0, 0, 0, 0, 0, 0, 0, 0, 0, 0, 0, 0, 0, 0, 0, 0, 0, 0, 0, 0, 0, 0, 0, 0, 0, 0, 0, 0, 0, 0, 0, 0, 0, 0, 0, 0, 0, 0, 0, 0, 0, 0, 0, 0]) (b := (fun k => if k = 5 then (zup (zup (fun _ => -1) 0 r7) 1 r10) else if k = 13 then (zup (zup (zup (zup (fun _ => 0) 0 r28) 1 r34) 2 r36) 3 r38) else if k = 14 then (zup (zup (zup (zup (zup (zup (zup (zup (fun _ => 0) 0 r42) 1 r44) 2 r46) 3 r48) 4 r50) 5 r52) 6 r54) 7 r56) else if k = 15 then (zup (zup (zup (zup (zup (zup (zup (zup (zup (zup (zup (zup (zup (zup (zup (fun _ => 0) 0 7038329) 1 469785800562) 2 469920280434) 3 1953066341) 4 499917877359) 5 7103860) 6 508675318629) 7 125780002955636) 8 6384756) 9 7697253) 10 1836021349) 11 120299659095922) 12 1650549611) 13 1936486263) 14 114) else if k = 61 then (zup (zup (zup (zup (zup (zup (zup (zup (fun _ => 0) 0 20) 1 33) 2 46) 3 59) 4 72) 5 85) 6 98) 7 111) else if k = 96 then (zup (zup (zup (zup (zup (zup (zup (zup (zup (zup (zup (zup (zup (zup (zup (zup (zup (zup (zup (zup (zup (zup (zup (zup (zup (zup (zup (zup (zup (zup (zup (zup (zup (zup (zup (zup (zup (zup (zup (zup (zup (zup (zup (zup (zup (zup (zup (zup (zup (zup (zup (zup (zup (zup (zup (zup (zup (zup (zup (zup (zup (zup (zup (zup (zup (zup (zup (zup (zup (zup (zup (zup (zup (zup (zup (zup (zup (zup (zup (zup (zup (zup (zup (zup (zup (zup (zup (zup (zup (fun _ => 0) 0 7) 1 8) 2 9) 3 10) 4 11) 5 12) 6 13) 7 14) 8 16) 9 17) 10 19) 11 21) 12 23) 13 25) 14 28) 15 31) 16 34) 17 37) 18 41) 19 45) 20 50) 21 55) 22 60) 23 66) 24 73) 25 80) 26 88) 27 97) 28 107) 29 118) 30 130) 31 143) 32 157) 33 173) 34 190) 35 209) 36 230) 37 253) 38 279) 39 307) 40 337) 41 371) 42 408) 43 449) 44 494) 45 544) 46 598) 47 658) 48 724) 49 796) 50 876) 51 963) 52 1060) 53 1166) 54 1282) 55 1411) 56 1552) 57 1707) 58 1878) 59 2066) 60 2272) 61 2499) 62 2749) 63 3024) 64 3327) 65 3660) 66 4026) 67 4428) 68 4871) 69 5358) 70 5894) 71 6484) 72 7132) 73 7845) 74 8630) 75 9493) 76 10442) 77 11487) 78 12635) 79 13899) 80 15289) 81 16818) 82 18500) 83 20350) 84 22385) 85 24623) 86 27086) 87 29794) 88 32767) else if k = 97 then (zup (zup (zup (zup (zup (zup (zup (zup (fun _ => 0) 0 (-1)) 1 (-1)) 2 (-1)) 3 (-1)) 4 2) 5 4) 6 6) 7 8) else if k = 106 then (zup (zup (zup (zup (zup (zup (zup (zup (zup (zup (zup (zup (zup (zup (zup (zup (zup (zup (zup (zup (zup (zup (zup (zup (fun _ => 0) 0 635) 1 223) 2 348) 3 233) 4 438) 5 409) 6 252) 7 519) 8 239) 9 366) 10 229) 11 288) 12 633) 13 268) 14 352) 15 538) 16 260) 17 353) 18 254) 19 475) 20 398) 21 269) 22 334) 23 317) else (fun _ => 0))) (a := a) (r2 := [(6, 13)]) (r3 := [(2, 2), (4, 2), (5, 23), (7, 0), (8, 0), (9, 0), (10, 0), (11, 1), (13, 1), (14, 1), (15, 1), (25, 1), (26, 0), (28, 0), (29, 0), (30, 0), (31, 0), (32, 0), (33, 0), (34, 0), (42, 3), (43, 0), (44, 0), (46, 0), (47, 0), (51, 0), (58, 0), (59, 1), (60, 0), (61, 0), (63, 0), (64, 0), (65, 0), (66, 0), (67, 0), (68, 0), (69, 0), (70, 2), (73, 0), (74, 0), (75, 0), (76, 0), (77, 0), (78, 0), (79, 1), (80, 1), (81, 0), (82, 0), (83, 0), (84, 0), (85, 0), (86, 1), (87, 1), (88, 0), (95, 0), (96, 0), (97, 0), (98, 0), (99, 0), (106, 0)]) (r4 := []) hZ308 g305 (by decide +kernel) (by decide +kernel) (by decide +kernel) rfl (show 0 ∈ ([0, 107, 100, 99, 98, 97, 96, 89, 88, 87, 86, 85, 84, 83, 82, 81, 80, 79, 78, 77, 76, 75, 74, 71, 70, 69, 68, 67, 66, 65, 64, 62, 61, 60, 59, 52, 48, 47, 45, 44, 43, 35, 34, 33, 32, 31, 30, 29, 27, 26, 16, 15, 14, 12, 11, 10, 9, 8, 6, 5, 3] : List Nat) by decide) (show zAll [(2, 2), (4, 2), (5, 23), (7, 0), (8, 0), (9, 0), (10, 0), (11, 1), (13, 1), (14, 1), (15, 1), (25, 1), (26, 0), (28, 0), (29, 0), (30, 0), (31, 0), (32, 0), (33, 0), (34, 0), (42, 3), (43, 0), (44, 0), (46, 0), (47, 0), (51, 0), (58, 0), (59, 1), (60, 0), (61, 0), (63, 0), (64, 0), (65, 0), (66, 0), (67, 0), (68, 0), (69, 0), (70, 2), (73, 0), (74, 0), (75, 0), (76, 0), (77, 0), (78, 0), (79, 1), (80, 1), (81, 0), (82, 0), (83, 0), (84, 0), (85, 0), (86, 1), (87, 1), (88, 0), (95, 0), (96, 0), (97, 0), (98, 0), (99, 0), (106, 0)] (fun x : Nat × Nat => x.1 + 1 ∈ ([0, 107, 100, 99, 98, 97, 96, 89, 88, 87, 86, 85, 84, 83, 82, 81, 80, 79, 78, 77, 76, 75, 74, 71, 70, 69, 68, 67, 66, 65, 64, 62, 61, 60, 59, 52, 48, 47, 45, 44, 43, 35, 34, 33, 32, 31, 30, 29, 27, 26, 16, 15, 14, 12, 11, 10, 9, 8, 6, 5, 3] : List Nat)) from (And.intro (by decide) (And.intro (by decide) (And.intro (by decide) (And.intro (by decide) (And.intro (by decide) (And.intro (by decide) (And.intro (by decide) (And.intro (by decide) (And.intro (by decide) (And.intro (by decide) (And.intro (by decide) (And.intro (by decide) (And.intro (by decide) (And.intro (by decide) (And.intro (by decide) (And.intro (by decide) (And.intro (by decide) (And.intro (by decide) (And.intro (by decide) (And.intro (by decide) (And.intro (by decide) (And.intro (by decide) (And.intro (by decide) (And.intro (by decide) (And.intro (by decide) (And.intro (by decide) (And.intro (by decide) (And.intro (by decide) (And.intro (by decide) (And.intro (by decide) (And.intro (by decide) (And.intro (by decide) (And.intro (by decide) (And.intro (by decide) (And.intro (by decide) (And.intro (by decide) (And.intro (by decide) (And.intro (by decide) (And.intro (by decide) (And.intro (by decide) (And.intro (by decide) (And.intro (by decide) (And.intro (by decide) (And.intro (by decide) (And.intro (by decide) (And.intro (by decide) (And.intro (by decide) (And.intro (by decide) (And.intro (by decide) (And.intro (by decide) (And.intro (by decide) (And.intro (by decide) (And.intro (by decide) (And.intro (by decide) (And.intro (by decide) (And.intro (by decide) (And.intro (by decide) (And.intro (by decide) (And.intro (by decide) (And.intro (by decide) trivial))))))))))))))))))))))))))))))))))))))))))))))))))))))))))))) (show zAll [] (fun x : Nat × Nat => x.1 + 1 ∈ ([0, 107, 100, 99, 98, 97, 96, 89, 88, 87, 86, 85, 84, 83, 82, 81, 80, 79, 78, 77, 76, 75, 74, 71, 70, 69, 68, 67, 66, 65, 64, 62, 61, 60, 59, 52, 48, 47, 45, 44, 43, 35, 34, 33, 32, 31, 30, 29, 27, 26, 16, 15, 14, 12, 11, 10, 9, 8, 6, 5, 3] : List Nat)) from trivial) rfl rfl (List.mem_of_getElem? (i := 0) rfl) (And.intro rfl (And.intro rfl (And.intro rfl (And.intro rfl (And.intro rfl (And.intro rfl (And.intro (zref_f g31.1 hq15) (And.intro rfl (And.intro rfl (And.intro rfl (And.intro rfl (And.intro rfl (And.intro rfl (And.intro rfl (And.intro rfl (And.intro rfl (And.intro rfl (And.intro rfl (And.intro rfl (And.intro rfl (And.intro rfl (And.intro rfl (And.intro rfl (And.intro rfl (And.intro rfl (And.intro rfl (And.intro rfl (And.intro rfl (And.intro rfl (And.intro rfl (And.intro rfl (And.intro rfl (And.intro rfl (And.intro rfl (And.intro rfl (And.intro rfl (And.intro rfl (And.intro rfl (And.intro rfl (And.intro rfl (And.intro rfl (And.intro rfl (And.intro rfl (And.intro rfl (And.intro rfl (And.intro rfl (And.intro rfl (And.intro rfl (And.intro rfl (And.intro rfl (And.intro rfl (And.intro rfl (And.intro rfl (And.intro rfl (And.intro rfl (And.intro rfl (And.intro rfl (And.intro rfl (And.intro rfl (And.intro rfl (And.intro rfl (And.intro rfl (And.intro rfl (And.intro rfl (And.intro rfl (And.intro rfl (And.intro rfl (And.intro rfl (And.intro rfl (And.intro rfl (And.intro rfl (And.intro rfl (And.intro rfl (And.intro rfl (And.intro rfl (And.intro rfl (And.intro rfl (And.intro rfl (And.intro rfl (And.intro rfl (And.intro rfl (And.intro rfl (And.intro rfl (And.intro rfl (And.intro rfl (And.intro rfl (And.intro rfl (And.intro rfl (And.intro rfl (And.intro rfl (And.intro rfl (And.intro rfl (And.intro rfl (And.intro rfl (And.intro rfl (And.intro rfl (And.intro rfl (And.intro rfl (And.intro rfl (And.intro rfl (And.intro rfl (And.intro rfl (And.intro rfl (And.intro rfl (And.intro rfl (And.intro rfl (And.intro rfl trivial))))))))))))))))))))))))))))))))))))))))))))))))))))))))))))))))))))))))))))))))))))))))))))))))))))))))))) (And.intro (List.mem_of_getElem? (i := 60) rfl) (And.intro (List.mem_of_getElem? (i := 59) rfl) (And.intro (List.mem_of_getElem? (i := 58) rfl) (And.intro (List.mem_of_getElem? (i := 57) rfl) (And.intro (List.mem_of_getElem? (i := 56) rfl) (And.intro (List.mem_of_getElem? (i := 55) rfl) (And.intro (List.mem_of_getElem? (i := 54) rfl) (And.intro (List.mem_of_getElem? (i := 53) rfl) (And.intro (List.mem_of_getElem? (i := 52) rfl) (And.intro (List.mem_of_getElem? (i := 51) rfl) (And.intro (List.mem_of_getElem? (i := 50) rfl) (And.intro (List.mem_of_getElem? (i := 49) rfl) (And.intro (List.mem_of_getElem? (i := 48) rfl) (And.intro (List.mem_of_getElem? (i := 47) rfl) (And.intro (List.mem_of_getElem? (i := 46) rfl) (And.intro (List.mem_of_getElem? (i := 45) rfl) (And.intro (List.mem_of_getElem? (i := 44) rfl) (And.intro (List.mem_of_getElem? (i := 43) rfl) (And.intro (List.mem_of_getElem? (i := 42) rfl) (And.intro (List.mem_of_getElem? (i := 41) rfl) (And.intro (List.mem_of_getElem? (i := 40) rfl) (And.intro (List.mem_of_getElem? (i := 39) rfl) (And.intro (List.mem_of_getElem? (i := 38) rfl) (And.intro (List.mem_of_getElem? (i := 37) rfl) (And.intro (List.mem_of_getElem? (i := 36) rfl) (And.intro (List.mem_of_getElem? (i := 35) rfl) (And.intro (List.mem_of_getElem? (i := 34) rfl) (And.intro (List.mem_of_getElem? (i := 33) rfl) (And.intro (List.mem_of_getElem? (i := 32) rfl) (And.intro (List.mem_of_getElem? (i := 31) rfl) (And.intro (List.mem_of_getElem? (i := 30) rfl) (And.intro (List.mem_of_getElem? (i := 29) rfl) (And.intro (List.mem_of_getElem? (i := 28) rfl) (And.intro (List.mem_of_getElem? (i := 27) rfl) (And.intro (List.mem_of_getElem? (i := 26) rfl) (And.intro (List.mem_of_getElem? (i := 25) rfl) (And.intro (List.mem_of_getElem? (i := 24) rfl) (And.intro (List.mem_of_getElem? (i := 23) rfl) (And.intro (List.mem_of_getElem? (i := 22) rfl) (And.intro (List.mem_of_getElem? (i := 21) rfl) (And.intro (List.mem_of_getElem? (i := 20) rfl) (And.intro (List.mem_of_getElem? (i := 19) rfl) (And.intro (List.mem_of_getElem? (i := 18) rfl) (And.intro (List.mem_of_getElem? (i := 17) rfl) (And.intro (List.mem_of_getElem? (i := 16) rfl) (And.intro (List.mem_of_getElem? (i := 15) rfl) (And.intro (List.mem_of_getElem? (i := 14) rfl) (And.intro (List.mem_of_getElem? (i := 13) rfl) (And.intro (List.mem_of_getElem? (i := 12) rfl) (And.intro (List.mem_of_getElem? (i := 11) rfl) (And.intro (List.mem_of_getElem? (i := 10) rfl) (And.intro (List.mem_of_getElem? (i := 9) rfl) (And.intro (List.mem_of_getElem? (i := 8) rfl) (And.intro (List.mem_of_getElem? (i := 7) rfl) (And.intro (List.mem_of_getElem? (i := 6) rfl) (And.intro (List.mem_of_getElem? (i := 5) rfl) (And.intro (List.mem_of_getElem? (i := 4) rfl) (And.intro (List.mem_of_getElem? (i := 3) rfl) (And.intro (List.mem_of_getElem? (i := 2) rfl) (And.intro (List.mem_of_getElem? (i := 1) rfl) trivial)))))))))))))))))))))))))))))))))))))))))))))))))))))))))))) trivial (And.intro g306 trivial) (And.intro (fun h => absurd h (by decide)) (And.intro (fun h => absurd h (by decide)) (And.intro (fun _ j => zup_lt (zup_lt (fun _ => g307) g29.2) g30.2 j) (And.intro (fun h => absurd h (by decide)) (And.intro (fun h => absurd h (by decide)) (And.intro (fun h => absurd h (by decide)) (And.intro (fun h => absurd h (by decide)) (And.intro (fun h => absurd h (by decide)) (And.intro (fun h => absurd h (by decide)) (And.intro (fun h => absurd h (by decide)) (And.intro (fun h => absurd h (by decide)) (And.intro (fun h => absurd h (by decide)) (And.intro (fun h => absurd h (by decide)) (And.intro (fun h => absurd h (by decide)) (And.intro (fun h => absurd h (by decide)) (And.intro (fun h => absurd h (by decide)) (And.intro (fun h => absurd h (by decide)) (And.intro (fun h => absurd h (by decide)) (And.intro (fun h => absurd h (by decide)) (And.intro (fun h => absurd h (by decide)) (And.intro (fun h => absurd h (by decide)) (And.intro (fun h => absurd h (by decide)) (And.intro (fun h => absurd h (by decide)) (And.intro (fun h => absurd h (by decide)) (And.intro (fun h => absurd h (by decide)) (And.intro (fun h => absurd h (by decide)) (And.intro (fun h => absurd h (by decide)) (And.intro (fun h => absurd h (by decide)) (And.intro (fun h => absurd h (by decide)) (And.intro (fun h => absurd h (by decide)) (And.intro (fun h => absurd h (by decide)) (And.intro (fun h => absurd h (by decide)) (And.intro (fun h => absurd h (by decide)) (And.intro (fun h => absurd h (by decide)) (And.intro (fun h => absurd h (by decide)) (And.intro (fun h => absurd h (by decide)) (And.intro (fun h => absurd h (by decide)) (And.intro (fun h => absurd h (by decide)) (And.intro (fun h => absurd h (by decide)) (And.intro (fun h => absurd h (by decide)) (And.intro (fun h => absurd h (by decide)) (And.intro (fun h => absurd h (by decide)) (And.intro (fun h => absurd h (by decide)) (And.intro (fun h => absurd h (by decide)) (And.intro (fun h => absurd h (by decide)) (And.intro (fun h => absurd h (by decide)) (And.intro (fun h => absurd h (by decide)) (And.intro (fun h => absurd h (by decide)) (And.intro (fun h => absurd h (by decide)) (And.intro (fun h => absurd h (by decide)) (And.intro (fun h => absurd h (by decide)) (And.intro (fun h => absurd h (by decide)) (And.intro (fun h => absurd h (by decide)) (And.intro (fun h => absurd h (by decide)) (And.intro (fun h => absurd h (by decide)) (And.intro (fun h => absurd h (by decide)) (And.intro (fun h => absurd h (by decide)) (And.intro (fun h => absurd h (by decide)) (And.intro (fun h => absurd h (by decide)) (And.intro (fun h => absurd h (by decide)) trivial)))))))))))))))))))))))))))))))))))))))))))))))))))))))))))), hG15.tr zinA_G, zinA_new⟩
  cases hf
  exact W.vret hx hb hr (fun t ht hW => ⟨⟨(ad304, L304), rfl, ⟨hG304, hq304⟩, by rw [ht]; exact hZ304, va_K.moved hW.alike hK⟩, hS303.F ht⟩) hS303.2.2 d_15_11_1571 hlk

