theorem d_1_32_76 : decode prog_1_method_32_code 76 = .ok (.aload 6, 2) := D_25 W_prog_1_method_32_code_64 12 rfl rfl
theorem d_1_32_78 : decode prog_1_method_32_code 78 = .ok (.aload 5, 2) := D_25 W_prog_1_method_32_code_64 14 rfl rfl
theorem d_1_32_80 : decode prog_1_method_32_code 80 = .ok (.iload 7, 2) := D_21 W_prog_1_method_32_code_64 16 rfl rfl
theorem d_1_32_82 : decode prog_1_method_32_code 82 = .ok (.iload 8, 2) := D_21 W_prog_1_method_32_code_64 18 rfl rfl
theorem d_1_32_84 : decode prog_1_method_32_code 84 = .ok (.invokevirtual 324, 3) := D_182 W_prog_1_method_32_code_64 20 rfl rfl rfl
theorem d_11_2_5 : decode prog_11_method_2_code 5 = .ok (.aload_n 0, 1) := D_42 W_prog_11_method_2_code_0 5 rfl rfl
theorem d_11_2_6 : decode prog_11_method_2_code 6 = .ok (.iconst 0, 1) := D_3 W_prog_11_method_2_code_0 6 rfl rfl
theorem d_11_2_7 : decode prog_11_method_2_code 7 = .ok (.putfield 47, 3) := D_181 W_prog_11_method_2_code_0 7 rfl rfl rfl
theorem d_11_2_10 : decode prog_11_method_2_code 10 = .ok (.iconst 0, 1) := D_3 W_prog_11_method_2_code_0 10 rfl rfl
theorem d_11_2_11 : decode prog_11_method_2_code 11 = .ok (.istore_n 2, 1) := D_61 W_prog_11_method_2_code_0 11 rfl rfl
theorem d_11_2_12 : decode prog_11_method_2_code 12 = .ok (.iload_n 2, 1) := D_28 W_prog_11_method_2_code_0 12 rfl rfl
theorem d_11_2_13 : decode prog_11_method_2_code 13 = .ok (.aload_n 0, 1) := D_42 W_prog_11_method_2_code_0 13 rfl rfl
theorem d_11_2_14 : decode prog_11_method_2_code 14 = .ok (.getfield 51, 3) := D_180 W_prog_11_method_2_code_0 14 rfl rfl rfl
theorem d_11_2_17 : decode prog_11_method_2_code 17 = .ok (.if_icmp .ge 38, 3) := D_162 W_prog_11_method_2_code_0 17 rfl rfl rfl
theorem d_11_2_20 : decode prog_11_method_2_code 20 = .ok (.aload_n 0, 1) := D_42 W_prog_11_method_2_code_0 20 rfl rfl
theorem d_11_2_21 : decode prog_11_method_2_code 21 = .ok (.getfield 47, 3) := D_180 W_prog_11_method_2_code_0 21 rfl rfl rfl
theorem d_11_2_24 : decode prog_11_method_2_code 24 = .ok (.sipush 300, 3) := D_17 W_prog_11_method_2_code_0 24 rfl rfl rfl
theorem d_11_2_27 : decode prog_11_method_2_code 27 = .ok (.if_icmp .ge 28, 3) := D_162 W_prog_11_method_2_code_0 27 rfl rfl rfl
theorem d_11_2_30 : decode prog_11_method_2_code 30 = .ok (.aload_n 0, 1) := D_42 W_prog_11_method_2_code_0 30 rfl rfl
theorem d_11_2_31 : decode prog_11_method_2_code 31 = .ok (.aload_n 1, 1) := D_43 W_prog_11_method_2_code_0 31 rfl rfl
theorem W_prog_11_method_2_code_32 : chW prog_11_method_2_code 32 [28, 182, 0, 54, 28, 158, 0, 12, 42, 43, 180, 0, 58, 28, 182, 0, 63, 132, 2, 1, 167, 255, 216, 177] := chW_of (by decide +kernel)
theorem d_11_2_32 : decode prog_11_method_2_code 32 = .ok (.iload_n 2, 1) := D_28 W_prog_11_method_2_code_32 0 rfl rfl
theorem d_11_2_33 : decode prog_11_method_2_code 33 = .ok (.invokevirtual 54, 3) := D_182 W_prog_11_method_2_code_32 1 rfl rfl rfl
theorem d_9_10_52 : decode prog_9_method_10_code 52 = .ok (.aload_n 0, 1) := D_42 W_prog_9_method_10_code_32 20 rfl rfl
theorem d_9_10_53 : decode prog_9_method_10_code 53 = .ok (.getfield 26, 3) := D_180 W_prog_9_method_10_code_32 21 rfl rfl rfl
theorem d_9_10_56 : decode prog_9_method_10_code 56 = .ok (.bipush 97, 2) := D_16 W_prog_9_method_10_code_32 24 rfl rfl rfl
theorem d_9_10_58 : decode prog_9_method_10_code 58 = .ok (.iload_n 2, 1) := D_28 W_prog_9_method_10_code_32 26 rfl rfl
theorem d_9_10_59 : decode prog_9_method_10_code 59 = .ok (.iadd, 1) := D_96 W_prog_9_method_10_code_32 27 rfl rfl
theorem d_9_10_60 : decode prog_9_method_10_code 60 = .ok (.invokevirtual 151, 3) := D_182 W_prog_9_method_10_code_32 28 rfl rfl rfl
theorem d_9_10_63 : decode prog_9_method_10_code 63 = .ok (.aload_n 0, 1) := D_42 W_prog_9_method_10_code_32 31 rfl rfl
theorem W_prog_9_method_10_code_64 : chW prog_9_method_10_code 64 [180, 0, 26, 22, 5, 20, 0, 158, 21, 4, 27, 100, 133, 105, 148, 155, 0, 8, 18, 160, 167, 0, 5, 18, 162, 182, 0, 137, 42, 180, 0, 22, 180, 0, 164, 42] := chW_of (by decide +kernel)
theorem d_9_10_64 : decode prog_9_method_10_code 64 = .ok (.getfield 26, 3) := D_180 W_prog_9_method_10_code_64 0 rfl rfl rfl
theorem d_9_10_67 : decode prog_9_method_10_code 67 = .ok (.lload 5, 2) := D_22 W_prog_9_method_10_code_64 3 rfl rfl
theorem d_9_10_69 : decode prog_9_method_10_code 69 = .ok (.ldc2_w 158, 3) := D_20 W_prog_9_method_10_code_64 5 rfl rfl rfl
theorem d_9_10_72 : decode prog_9_method_10_code 72 = .ok (.iload 4, 2) := D_21 W_prog_9_method_10_code_64 8 rfl rfl
theorem d_9_10_74 : decode prog_9_method_10_code 74 = .ok (.iload_n 1, 1) := D_27 W_prog_9_method_10_code_64 10 rfl rfl
theorem d_9_10_75 : decode prog_9_method_10_code 75 = .ok (.isub, 1) := D_100 W_prog_9_method_10_code_64 11 rfl rfl
theorem d_9_10_76 : decode prog_9_method_10_code 76 = .ok (.i2l, 1) := D_133 W_prog_9_method_10_code_64 12 rfl rfl
theorem d_9_10_77 : decode prog_9_method_10_code 77 = .ok (.lmul, 1) := D_105 W_prog_9_method_10_code_64 13 rfl rfl
theorem d_9_10_78 : decode prog_9_method_10_code 78 = .ok (.lcmp, 1) := D_148 W_prog_9_method_10_code_64 14 rfl rfl
theorem d_9_10_79 : decode prog_9_method_10_code 79 = .ok (.ifCond .lt 8, 3) := D_155 W_prog_9_method_10_code_64 15 rfl rfl rfl
theorem d_9_10_87 : decode prog_9_method_10_code 87 = .ok (.ldc 162, 2) := D_18 W_prog_9_method_10_code_64 23 rfl rfl
theorem d_9_10_82 : decode prog_9_method_10_code 82 = .ok (.ldc 160, 2) := D_18 W_prog_9_method_10_code_64 18 rfl rfl
theorem d_9_10_84 : decode prog_9_method_10_code 84 = .ok (.goto 5, 3) := D_167 W_prog_9_method_10_code_64 20 rfl rfl rfl
theorem d_9_10_20 : decode prog_9_method_10_code 20 = .ok (.lload 5, 2) := D_22 W_prog_9_method_10_code_0 20 rfl rfl
theorem d_9_10_22 : decode prog_9_method_10_code 22 = .ok (.aload_n 0, 1) := D_42 W_prog_9_method_10_code_0 22 rfl rfl
theorem d_9_10_23 : decode prog_9_method_10_code 23 = .ok (.getfield 22, 3) := D_180 W_prog_9_method_10_code_0 23 rfl rfl rfl
theorem d_9_10_26 : decode prog_9_method_10_code 26 = .ok (.getfield 81, 3) := D_180 W_prog_9_method_10_code_0 26 rfl rfl rfl
theorem d_9_10_29 : decode prog_9_method_10_code 29 = .ok (.iconst 2, 1) := D_5 W_prog_9_method_10_code_0 29 rfl rfl
theorem d_9_10_30 : decode prog_9_method_10_code 30 = .ok (.aaload, 1) := D_50 W_prog_9_method_10_code_0 30 rfl rfl
theorem d_9_10_31 : decode prog_9_method_10_code 31 = .ok (.iload 7, 2) := D_21 W_prog_9_method_10_code_0 31 rfl rfl
theorem d_9_10_33 : decode prog_9_method_10_code 33 = .ok (.laload, 1) := D_47 W_prog_9_method_10_code_32 1 rfl rfl
theorem d_9_10_34 : decode prog_9_method_10_code 34 = .ok (.ladd, 1) := D_97 W_prog_9_method_10_code_32 2 rfl rfl
theorem d_9_10_35 : decode prog_9_method_10_code 35 = .ok (.lstore 5, 2) := D_55 W_prog_9_method_10_code_32 3 rfl rfl
theorem d_9_10_37 : decode prog_9_method_10_code 37 = .ok (.iinc 7 1, 3) := D_132 W_prog_9_method_10_code_32 5 rfl rfl rfl
theorem d_9_10_40 : decode prog_9_method_10_code 40 = .ok (.goto (-27), 3) := D_167 W_prog_9_method_10_code_32 8 rfl rfl rfl
theorem d_9_10_89 : decode prog_9_method_10_code 89 = .ok (.invokevirtual 137, 3) := D_182 W_prog_9_method_10_code_64 25 rfl rfl rfl
theorem d_9_10_92 : decode prog_9_method_10_code 92 = .ok (.aload_n 0, 1) := D_42 W_prog_9_method_10_code_64 28 rfl rfl
theorem d_9_10_93 : decode prog_9_method_10_code 93 = .ok (.getfield 22, 3) := D_180 W_prog_9_method_10_code_64 29 rfl rfl rfl
theorem W_prog_9_method_10_code_96 : chW prog_9_method_10_code 96 [180, 0, 164, 42, 180, 0, 22, 180, 0, 81, 3, 50, 27, 47, 136, 46, 54, 7, 42, 180, 0, 26, 21, 7, 3, 184, 0, 30, 182, 0, 144, 42, 180, 0, 26, 18] := chW_of (by decide +kernel)
theorem d_9_10_96 : decode prog_9_method_10_code 96 = .ok (.getfield 164, 3) := D_180 W_prog_9_method_10_code_96 0 rfl rfl rfl
theorem d_9_10_99 : decode prog_9_method_10_code 99 = .ok (.aload_n 0, 1) := D_42 W_prog_9_method_10_code_96 3 rfl rfl
theorem d_9_10_100 : decode prog_9_method_10_code 100 = .ok (.getfield 22, 3) := D_180 W_prog_9_method_10_code_96 4 rfl rfl rfl
theorem d_9_10_103 : decode prog_9_method_10_code 103 = .ok (.getfield 81, 3) := D_180 W_prog_9_method_10_code_96 7 rfl rfl rfl
theorem d_9_10_106 : decode prog_9_method_10_code 106 = .ok (.iconst 0, 1) := D_3 W_prog_9_method_10_code_96 10 rfl rfl
theorem d_9_10_107 : decode prog_9_method_10_code 107 = .ok (.aaload, 1) := D_50 W_prog_9_method_10_code_96 11 rfl rfl
theorem d_9_10_108 : decode prog_9_method_10_code 108 = .ok (.iload_n 1, 1) := D_27 W_prog_9_method_10_code_96 12 rfl rfl
theorem d_9_10_109 : decode prog_9_method_10_code 109 = .ok (.laload, 1) := D_47 W_prog_9_method_10_code_96 13 rfl rfl
theorem d_9_10_110 : decode prog_9_method_10_code 110 = .ok (.l2i, 1) := D_136 W_prog_9_method_10_code_96 14 rfl rfl
theorem d_9_10_111 : decode prog_9_method_10_code 111 = .ok (.iaload, 1) := D_46 W_prog_9_method_10_code_96 15 rfl rfl
theorem d_9_10_112 : decode prog_9_method_10_code 112 = .ok (.istore 7, 2) := D_54 W_prog_9_method_10_code_96 16 rfl rfl
theorem d_9_10_114 : decode prog_9_method_10_code 114 = .ok (.aload_n 0, 1) := D_42 W_prog_9_method_10_code_96 18 rfl rfl
theorem d_9_10_115 : decode prog_9_method_10_code 115 = .ok (.getfield 26, 3) := D_180 W_prog_9_method_10_code_96 19 rfl rfl rfl
theorem d_9_10_118 : decode prog_9_method_10_code 118 = .ok (.iload 7, 2) := D_21 W_prog_9_method_10_code_96 22 rfl rfl
theorem d_9_10_120 : decode prog_9_method_10_code 120 = .ok (.iconst 0, 1) := D_3 W_prog_9_method_10_code_96 24 rfl rfl
theorem d_9_10_121 : decode prog_9_method_10_code 121 = .ok (.invokestatic 30, 3) := D_184 W_prog_9_method_10_code_96 25 rfl rfl rfl
theorem d_9_10_124 : decode prog_9_method_10_code 124 = .ok (.invokevirtual 144, 3) := D_182 W_prog_9_method_10_code_96 28 rfl rfl rfl
theorem d_9_10_127 : decode prog_9_method_10_code 127 = .ok (.aload_n 0, 1) := D_42 W_prog_9_method_10_code_96 31 rfl rfl
theorem W_prog_9_method_10_code_128 : chW prog_9_method_10_code 128 [180, 0, 26, 18, 167, 182, 0, 137, 17, 2, 0, 42, 180, 0, 36, 108, 54, 8, 3, 54, 9, 42, 27, 181, 0, 91, 3, 54, 10, 21, 10, 42, 180, 0, 22, 180] := chW_of (by decide +kernel)
theorem d_9_10_128 : decode prog_9_method_10_code 128 = .ok (.getfield 26, 3) := D_180 W_prog_9_method_10_code_128 0 rfl rfl rfl
theorem d_9_10_131 : decode prog_9_method_10_code 131 = .ok (.ldc 167, 2) := D_18 W_prog_9_method_10_code_128 3 rfl rfl
theorem d_9_10_133 : decode prog_9_method_10_code 133 = .ok (.invokevirtual 137, 3) := D_182 W_prog_9_method_10_code_128 5 rfl rfl rfl
theorem d_9_10_136 : decode prog_9_method_10_code 136 = .ok (.sipush 512, 3) := D_17 W_prog_9_method_10_code_128 8 rfl rfl rfl
theorem d_9_10_139 : decode prog_9_method_10_code 139 = .ok (.aload_n 0, 1) := D_42 W_prog_9_method_10_code_128 11 rfl rfl
theorem d_9_10_140 : decode prog_9_method_10_code 140 = .ok (.getfield 36, 3) := D_180 W_prog_9_method_10_code_128 12 rfl rfl rfl
theorem d_9_10_143 : decode prog_9_method_10_code 143 = .ok (.idiv, 1) := D_108 W_prog_9_method_10_code_128 15 rfl rfl
theorem d_9_10_144 : decode prog_9_method_10_code 144 = .ok (.istore 8, 2) := D_54 W_prog_9_method_10_code_128 16 rfl rfl
theorem d_9_10_146 : decode prog_9_method_10_code 146 = .ok (.iconst 0, 1) := D_3 W_prog_9_method_10_code_128 18 rfl rfl
theorem d_9_10_147 : decode prog_9_method_10_code 147 = .ok (.istore 9, 2) := D_54 W_prog_9_method_10_code_128 19 rfl rfl
theorem d_9_10_149 : decode prog_9_method_10_code 149 = .ok (.aload_n 0, 1) := D_42 W_prog_9_method_10_code_128 21 rfl rfl
theorem d_9_10_150 : decode prog_9_method_10_code 150 = .ok (.iload_n 1, 1) := D_27 W_prog_9_method_10_code_128 22 rfl rfl
theorem d_9_10_151 : decode prog_9_method_10_code 151 = .ok (.putfield 91, 3) := D_181 W_prog_9_method_10_code_128 23 rfl rfl rfl
theorem d_9_10_154 : decode prog_9_method_10_code 154 = .ok (.iconst 0, 1) := D_3 W_prog_9_method_10_code_128 26 rfl rfl
theorem d_9_10_155 : decode prog_9_method_10_code 155 = .ok (.istore 10, 2) := D_54 W_prog_9_method_10_code_128 27 rfl rfl
theorem d_9_10_157 : decode prog_9_method_10_code 157 = .ok (.iload 10, 2) := D_21 W_prog_9_method_10_code_128 29 rfl rfl
theorem d_9_10_159 : decode prog_9_method_10_code 159 = .ok (.aload_n 0, 1) := D_42 W_prog_9_method_10_code_128 31 rfl rfl
theorem W_prog_9_method_10_code_160 : chW prog_9_method_10_code 160 [180, 0, 22, 180, 0, 63, 162, 0, 76, 42, 180, 0, 91, 21, 4, 162, 0, 67, 42, 42, 180, 0, 91, 21, 4, 182, 0, 94, 42, 21, 9, 42, 180, 0, 109, 136] := chW_of (by decide +kernel)
theorem d_9_10_160 : decode prog_9_method_10_code 160 = .ok (.getfield 22, 3) := D_180 W_prog_9_method_10_code_160 0 rfl rfl rfl
theorem d_9_10_163 : decode prog_9_method_10_code 163 = .ok (.getfield 63, 3) := D_180 W_prog_9_method_10_code_160 3 rfl rfl rfl
theorem d_9_10_166 : decode prog_9_method_10_code 166 = .ok (.if_icmp .ge 76, 3) := D_162 W_prog_9_method_10_code_160 6 rfl rfl rfl
theorem d_9_10_169 : decode prog_9_method_10_code 169 = .ok (.aload_n 0, 1) := D_42 W_prog_9_method_10_code_160 9 rfl rfl
theorem d_9_10_170 : decode prog_9_method_10_code 170 = .ok (.getfield 91, 3) := D_180 W_prog_9_method_10_code_160 10 rfl rfl rfl
theorem d_9_10_173 : decode prog_9_method_10_code 173 = .ok (.iload 4, 2) := D_21 W_prog_9_method_10_code_160 13 rfl rfl
theorem d_9_10_175 : decode prog_9_method_10_code 175 = .ok (.if_icmp .ge 67, 3) := D_162 W_prog_9_method_10_code_160 15 rfl rfl rfl
theorem d_9_10_178 : decode prog_9_method_10_code 178 = .ok (.aload_n 0, 1) := D_42 W_prog_9_method_10_code_160 18 rfl rfl
theorem d_9_10_179 : decode prog_9_method_10_code 179 = .ok (.aload_n 0, 1) := D_42 W_prog_9_method_10_code_160 19 rfl rfl
theorem d_9_10_180 : decode prog_9_method_10_code 180 = .ok (.getfield 91, 3) := D_180 W_prog_9_method_10_code_160 20 rfl rfl rfl
theorem d_9_10_183 : decode prog_9_method_10_code 183 = .ok (.iload 4, 2) := D_21 W_prog_9_method_10_code_160 23 rfl rfl
theorem d_9_10_185 : decode prog_9_method_10_code 185 = .ok (.invokevirtual 94, 3) := D_182 W_prog_9_method_10_code_160 25 rfl rfl rfl
theorem d_9_10_188 : decode prog_9_method_10_code 188 = .ok (.aload_n 0, 1) := D_42 W_prog_9_method_10_code_160 28 rfl rfl
theorem d_9_10_189 : decode prog_9_method_10_code 189 = .ok (.iload 9, 2) := D_21 W_prog_9_method_10_code_160 29 rfl rfl
theorem d_9_10_191 : decode prog_9_method_10_code 191 = .ok (.aload_n 0, 1) := D_42 W_prog_9_method_10_code_160 31 rfl rfl
theorem W_prog_9_method_10_code_192 : chW prog_9_method_10_code 192 [180, 0, 109, 136, 21, 8, 104, 182, 0, 169, 42, 182, 0, 172, 42, 42, 180, 0, 109, 136, 21, 8, 104, 42, 180, 0, 98, 136, 21, 8, 104, 182, 0, 175, 42, 180] := chW_of (by decide +kernel)
theorem d_9_10_192 : decode prog_9_method_10_code 192 = .ok (.getfield 109, 3) := D_180 W_prog_9_method_10_code_192 0 rfl rfl rfl
theorem d_9_10_195 : decode prog_9_method_10_code 195 = .ok (.l2i, 1) := D_136 W_prog_9_method_10_code_192 3 rfl rfl
theorem d_9_10_196 : decode prog_9_method_10_code 196 = .ok (.iload 8, 2) := D_21 W_prog_9_method_10_code_192 4 rfl rfl
theorem d_9_10_198 : decode prog_9_method_10_code 198 = .ok (.imul, 1) := D_104 W_prog_9_method_10_code_192 6 rfl rfl
theorem d_9_10_199 : decode prog_9_method_10_code 199 = .ok (.invokevirtual 169, 3) := D_182 W_prog_9_method_10_code_192 7 rfl rfl rfl
theorem d_11_2_36 : decode prog_11_method_2_code 36 = .ok (.iload_n 2, 1) := D_28 W_prog_11_method_2_code_32 4 rfl rfl
theorem d_11_2_37 : decode prog_11_method_2_code 37 = .ok (.ifCond .le 12, 3) := D_158 W_prog_11_method_2_code_32 5 rfl rfl rfl
theorem d_11_2_40 : decode prog_11_method_2_code 40 = .ok (.aload_n 0, 1) := D_42 W_prog_11_method_2_code_32 8 rfl rfl
theorem d_11_2_41 : decode prog_11_method_2_code 41 = .ok (.aload_n 1, 1) := D_43 W_prog_11_method_2_code_32 9 rfl rfl
theorem d_11_2_42 : decode prog_11_method_2_code 42 = .ok (.getfield 58, 3) := D_180 W_prog_11_method_2_code_32 10 rfl rfl rfl
theorem d_11_2_45 : decode prog_11_method_2_code 45 = .ok (.iload_n 2, 1) := D_28 W_prog_11_method_2_code_32 13 rfl rfl
theorem d_11_2_46 : decode prog_11_method_2_code 46 = .ok (.invokevirtual 63, 3) := D_182 W_prog_11_method_2_code_32 14 rfl rfl rfl
theorem d_11_2_49 : decode prog_11_method_2_code 49 = .ok (.iinc 2 1, 3) := D_132 W_prog_11_method_2_code_32 17 rfl rfl rfl
theorem d_11_2_52 : decode prog_11_method_2_code 52 = .ok (.goto (-40), 3) := D_167 W_prog_11_method_2_code_32 20 rfl rfl rfl
theorem d_11_2_55 : decode prog_11_method_2_code 55 = .ok (.return_, 1) := D_177 W_prog_11_method_2_code_32 23 rfl rfl
theorem d_4_2_16 : decode prog_4_method_2_code 16 = .ok (.aload_n 0, 1) := D_42 W_prog_4_method_2_code_0 16 rfl rfl
theorem d_4_2_17 : decode prog_4_method_2_code 17 = .ok (.aload_n 1, 1) := D_43 W_prog_4_method_2_code_0 17 rfl rfl
theorem d_4_2_18 : decode prog_4_method_2_code 18 = .ok (.iload_n 3, 1) := D_29 W_prog_4_method_2_code_0 18 rfl rfl
theorem d_4_2_19 : decode prog_4_method_2_code 19 = .ok (.iload_n 2, 1) := D_28 W_prog_4_method_2_code_0 19 rfl rfl
theorem d_4_2_20 : decode prog_4_method_2_code 20 = .ok (.invokevirtual 62, 3) := D_182 W_prog_4_method_2_code_0 20 rfl rfl rfl
theorem d_4_2_23 : decode prog_4_method_2_code 23 = .ok (.aload_n 0, 1) := D_42 W_prog_4_method_2_code_0 23 rfl rfl
theorem d_4_2_24 : decode prog_4_method_2_code 24 = .ok (.iconst 0, 1) := D_3 W_prog_4_method_2_code_0 24 rfl rfl
theorem d_4_2_25 : decode prog_4_method_2_code 25 = .ok (.putfield 66, 3) := D_181 W_prog_4_method_2_code_0 25 rfl rfl rfl
theorem d_4_2_28 : decode prog_4_method_2_code 28 = .ok (.iconst 0, 1) := D_3 W_prog_4_method_2_code_0 28 rfl rfl
theorem d_4_2_29 : decode prog_4_method_2_code 29 = .ok (.istore 4, 2) := D_54 W_prog_4_method_2_code_0 29 rfl rfl
theorem d_4_2_31 : decode prog_4_method_2_code 31 = .ok (.iconst 0, 1) := D_3 W_prog_4_method_2_code_0 31 rfl rfl
theorem W_prog_4_method_2_code_32 : chW prog_4_method_2_code 32 [54, 5, 21, 5, 16, 100, 162, 0, 97, 21, 4, 29, 162, 0, 91, 42, 180, 0, 28, 42, 180, 0, 66, 21, 4, 79, 42, 180, 0, 31, 42, 180, 0, 66, 42, 43] := chW_of (by decide +kernel)
theorem d_4_2_32 : decode prog_4_method_2_code 32 = .ok (.istore 5, 2) := D_54 W_prog_4_method_2_code_32 0 rfl rfl
theorem d_4_2_34 : decode prog_4_method_2_code 34 = .ok (.iload 5, 2) := D_21 W_prog_4_method_2_code_32 2 rfl rfl
theorem d_4_2_36 : decode prog_4_method_2_code 36 = .ok (.bipush 100, 2) := D_16 W_prog_4_method_2_code_32 4 rfl rfl rfl
theorem d_4_2_38 : decode prog_4_method_2_code 38 = .ok (.if_icmp .ge 97, 3) := D_162 W_prog_4_method_2_code_32 6 rfl rfl rfl
theorem d_4_2_41 : decode prog_4_method_2_code 41 = .ok (.iload 4, 2) := D_21 W_prog_4_method_2_code_32 9 rfl rfl
theorem d_4_2_43 : decode prog_4_method_2_code 43 = .ok (.iload_n 3, 1) := D_29 W_prog_4_method_2_code_32 11 rfl rfl
theorem d_4_2_44 : decode prog_4_method_2_code 44 = .ok (.if_icmp .ge 91, 3) := D_162 W_prog_4_method_2_code_32 12 rfl rfl rfl
theorem d_4_2_47 : decode prog_4_method_2_code 47 = .ok (.aload_n 0, 1) := D_42 W_prog_4_method_2_code_32 15 rfl rfl
theorem d_4_2_48 : decode prog_4_method_2_code 48 = .ok (.getfield 28, 3) := D_180 W_prog_4_method_2_code_32 16 rfl rfl rfl
theorem d_4_2_51 : decode prog_4_method_2_code 51 = .ok (.aload_n 0, 1) := D_42 W_prog_4_method_2_code_32 19 rfl rfl
theorem d_4_2_52 : decode prog_4_method_2_code 52 = .ok (.getfield 66, 3) := D_180 W_prog_4_method_2_code_32 20 rfl rfl rfl
theorem d_4_2_55 : decode prog_4_method_2_code 55 = .ok (.iload 4, 2) := D_21 W_prog_4_method_2_code_32 23 rfl rfl
theorem d_4_2_57 : decode prog_4_method_2_code 57 = .ok (.iastore, 1) := D_79 W_prog_4_method_2_code_32 25 rfl rfl
theorem d_4_2_58 : decode prog_4_method_2_code 58 = .ok (.aload_n 0, 1) := D_42 W_prog_4_method_2_code_32 26 rfl rfl
theorem d_4_2_59 : decode prog_4_method_2_code 59 = .ok (.getfield 31, 3) := D_180 W_prog_4_method_2_code_32 27 rfl rfl rfl
theorem d_4_2_62 : decode prog_4_method_2_code 62 = .ok (.aload_n 0, 1) := D_42 W_prog_4_method_2_code_32 30 rfl rfl
theorem d_4_2_63 : decode prog_4_method_2_code 63 = .ok (.getfield 66, 3) := D_180 W_prog_4_method_2_code_32 31 rfl rfl rfl
theorem W_prog_4_method_2_code_64 : chW prog_4_method_2_code 64 [0, 66, 42, 43, 21, 4, 42, 180, 0, 40, 21, 4, 46, 182, 0, 69, 79, 42, 180, 0, 34, 42, 180, 0, 66, 42, 180, 0, 37, 21, 4, 47, 42, 180, 0, 37] := chW_of (by decide +kernel)
theorem d_4_2_66 : decode prog_4_method_2_code 66 = .ok (.aload_n 0, 1) := D_42 W_prog_4_method_2_code_64 2 rfl rfl
theorem d_4_2_67 : decode prog_4_method_2_code 67 = .ok (.aload_n 1, 1) := D_43 W_prog_4_method_2_code_64 3 rfl rfl
theorem d_4_2_68 : decode prog_4_method_2_code 68 = .ok (.iload 4, 2) := D_21 W_prog_4_method_2_code_64 4 rfl rfl
theorem d_4_2_70 : decode prog_4_method_2_code 70 = .ok (.aload_n 0, 1) := D_42 W_prog_4_method_2_code_64 6 rfl rfl
theorem d_4_2_71 : decode prog_4_method_2_code 71 = .ok (.getfield 40, 3) := D_180 W_prog_4_method_2_code_64 7 rfl rfl rfl
theorem d_4_2_74 : decode prog_4_method_2_code 74 = .ok (.iload 4, 2) := D_21 W_prog_4_method_2_code_64 10 rfl rfl
theorem d_4_2_76 : decode prog_4_method_2_code 76 = .ok (.iaload, 1) := D_46 W_prog_4_method_2_code_64 12 rfl rfl
theorem d_4_2_77 : decode prog_4_method_2_code 77 = .ok (.invokevirtual 69, 3) := D_182 W_prog_4_method_2_code_64 13 rfl rfl rfl
theorem d_4_2_80 : decode prog_4_method_2_code 80 = .ok (.iastore, 1) := D_79 W_prog_4_method_2_code_64 16 rfl rfl
theorem d_4_2_81 : decode prog_4_method_2_code 81 = .ok (.aload_n 0, 1) := D_42 W_prog_4_method_2_code_64 17 rfl rfl
theorem d_4_2_82 : decode prog_4_method_2_code 82 = .ok (.getfield 34, 3) := D_180 W_prog_4_method_2_code_64 18 rfl rfl rfl
theorem d_4_2_85 : decode prog_4_method_2_code 85 = .ok (.aload_n 0, 1) := D_42 W_prog_4_method_2_code_64 21 rfl rfl
theorem d_4_2_86 : decode prog_4_method_2_code 86 = .ok (.getfield 66, 3) := D_180 W_prog_4_method_2_code_64 22 rfl rfl rfl
theorem d_4_2_89 : decode prog_4_method_2_code 89 = .ok (.aload_n 0, 1) := D_42 W_prog_4_method_2_code_64 25 rfl rfl
theorem d_4_2_90 : decode prog_4_method_2_code 90 = .ok (.getfield 37, 3) := D_180 W_prog_4_method_2_code_64 26 rfl rfl rfl
theorem d_4_2_93 : decode prog_4_method_2_code 93 = .ok (.iload 4, 2) := D_21 W_prog_4_method_2_code_64 29 rfl rfl
theorem d_4_2_95 : decode prog_4_method_2_code 95 = .ok (.laload, 1) := D_47 W_prog_4_method_2_code_64 31 rfl rfl
theorem W_prog_4_method_2_code_96 : chW prog_4_method_2_code 96 [42, 180, 0, 37, 42, 180, 0, 40, 21, 4, 46, 47, 101, 80, 42, 180, 0, 40, 21, 4, 46, 54, 4, 42, 89, 180, 0, 66, 4, 96, 181, 0, 66, 132, 5, 1] := chW_of (by decide +kernel)
theorem d_4_2_96 : decode prog_4_method_2_code 96 = .ok (.aload_n 0, 1) := D_42 W_prog_4_method_2_code_96 0 rfl rfl
theorem d_4_2_97 : decode prog_4_method_2_code 97 = .ok (.getfield 37, 3) := D_180 W_prog_4_method_2_code_96 1 rfl rfl rfl
theorem d_4_2_100 : decode prog_4_method_2_code 100 = .ok (.aload_n 0, 1) := D_42 W_prog_4_method_2_code_96 4 rfl rfl
theorem d_4_2_101 : decode prog_4_method_2_code 101 = .ok (.getfield 40, 3) := D_180 W_prog_4_method_2_code_96 5 rfl rfl rfl
theorem d_4_2_104 : decode prog_4_method_2_code 104 = .ok (.iload 4, 2) := D_21 W_prog_4_method_2_code_96 8 rfl rfl
theorem d_4_2_106 : decode prog_4_method_2_code 106 = .ok (.iaload, 1) := D_46 W_prog_4_method_2_code_96 10 rfl rfl
theorem d_4_2_107 : decode prog_4_method_2_code 107 = .ok (.laload, 1) := D_47 W_prog_4_method_2_code_96 11 rfl rfl
theorem d_4_2_108 : decode prog_4_method_2_code 108 = .ok (.lsub, 1) := D_101 W_prog_4_method_2_code_96 12 rfl rfl
theorem d_4_2_109 : decode prog_4_method_2_code 109 = .ok (.lastore, 1) := D_80 W_prog_4_method_2_code_96 13 rfl rfl
theorem d_4_2_110 : decode prog_4_method_2_code 110 = .ok (.aload_n 0, 1) := D_42 W_prog_4_method_2_code_96 14 rfl rfl
theorem d_4_2_111 : decode prog_4_method_2_code 111 = .ok (.getfield 40, 3) := D_180 W_prog_4_method_2_code_96 15 rfl rfl rfl
theorem d_4_2_114 : decode prog_4_method_2_code 114 = .ok (.iload 4, 2) := D_21 W_prog_4_method_2_code_96 18 rfl rfl
theorem d_4_2_116 : decode prog_4_method_2_code 116 = .ok (.iaload, 1) := D_46 W_prog_4_method_2_code_96 20 rfl rfl
theorem d_4_2_117 : decode prog_4_method_2_code 117 = .ok (.istore 4, 2) := D_54 W_prog_4_method_2_code_96 21 rfl rfl
theorem d_4_2_119 : decode prog_4_method_2_code 119 = .ok (.aload_n 0, 1) := D_42 W_prog_4_method_2_code_96 23 rfl rfl
theorem d_4_2_120 : decode prog_4_method_2_code 120 = .ok (.dup, 1) := D_89 W_prog_4_method_2_code_96 24 rfl rfl
theorem d_4_2_121 : decode prog_4_method_2_code 121 = .ok (.getfield 66, 3) := D_180 W_prog_4_method_2_code_96 25 rfl rfl rfl
theorem d_4_2_124 : decode prog_4_method_2_code 124 = .ok (.iconst 1, 1) := D_4 W_prog_4_method_2_code_96 28 rfl rfl
theorem d_4_2_125 : decode prog_4_method_2_code 125 = .ok (.iadd, 1) := D_96 W_prog_4_method_2_code_96 29 rfl rfl
theorem d_4_2_126 : decode prog_4_method_2_code 126 = .ok (.putfield 66, 3) := D_181 W_prog_4_method_2_code_96 30 rfl rfl rfl
theorem W_prog_4_method_2_code_128 : chW prog_4_method_2_code 128 [66, 132, 5, 1, 167, 255, 158, 42, 180, 0, 28, 42, 180, 0, 66, 29, 79, 3, 54, 5, 21, 5, 42, 180, 0, 66, 162, 0, 17, 42, 43, 21, 5, 28, 182, 0] := chW_of (by decide +kernel)
theorem d_4_2_129 : decode prog_4_method_2_code 129 = .ok (.iinc 5 1, 3) := D_132 W_prog_4_method_2_code_128 1 rfl rfl rfl
theorem d_4_2_132 : decode prog_4_method_2_code 132 = .ok (.goto (-98), 3) := D_167 W_prog_4_method_2_code_128 4 rfl rfl rfl
theorem d_4_2_135 : decode prog_4_method_2_code 135 = .ok (.aload_n 0, 1) := D_42 W_prog_4_method_2_code_128 7 rfl rfl
theorem d_4_2_136 : decode prog_4_method_2_code 136 = .ok (.getfield 28, 3) := D_180 W_prog_4_method_2_code_128 8 rfl rfl rfl
theorem d_4_2_139 : decode prog_4_method_2_code 139 = .ok (.aload_n 0, 1) := D_42 W_prog_4_method_2_code_128 11 rfl rfl
theorem d_4_2_140 : decode prog_4_method_2_code 140 = .ok (.getfield 66, 3) := D_180 W_prog_4_method_2_code_128 12 rfl rfl rfl
theorem d_4_2_143 : decode prog_4_method_2_code 143 = .ok (.iload_n 3, 1) := D_29 W_prog_4_method_2_code_128 15 rfl rfl
theorem d_4_2_144 : decode prog_4_method_2_code 144 = .ok (.iastore, 1) := D_79 W_prog_4_method_2_code_128 16 rfl rfl
theorem d_4_2_145 : decode prog_4_method_2_code 145 = .ok (.iconst 0, 1) := D_3 W_prog_4_method_2_code_128 17 rfl rfl
theorem d_4_2_146 : decode prog_4_method_2_code 146 = .ok (.istore 5, 2) := D_54 W_prog_4_method_2_code_128 18 rfl rfl
theorem d_4_2_148 : decode prog_4_method_2_code 148 = .ok (.iload 5, 2) := D_21 W_prog_4_method_2_code_128 20 rfl rfl
theorem d_4_2_150 : decode prog_4_method_2_code 150 = .ok (.aload_n 0, 1) := D_42 W_prog_4_method_2_code_128 22 rfl rfl
theorem d_4_2_151 : decode prog_4_method_2_code 151 = .ok (.getfield 66, 3) := D_180 W_prog_4_method_2_code_128 23 rfl rfl rfl
theorem d_4_2_154 : decode prog_4_method_2_code 154 = .ok (.if_icmp .ge 17, 3) := D_162 W_prog_4_method_2_code_128 26 rfl rfl rfl
theorem W_prog_4_method_2_code_160 : chW prog_4_method_2_code 160 [5, 28, 182, 0, 73, 132, 5, 1, 167, 255, 236, 42, 180, 0, 66, 172] := chW_of (by decide +kernel)
theorem d_4_2_171 : decode prog_4_method_2_code 171 = .ok (.aload_n 0, 1) := D_42 W_prog_4_method_2_code_160 11 rfl rfl
theorem d_4_2_172 : decode prog_4_method_2_code 172 = .ok (.getfield 66, 3) := D_180 W_prog_4_method_2_code_160 12 rfl rfl rfl
theorem d_4_2_175 : decode prog_4_method_2_code 175 = .ok (.ireturn, 1) := D_172 W_prog_4_method_2_code_160 15 rfl rfl
theorem d_4_2_157 : decode prog_4_method_2_code 157 = .ok (.aload_n 0, 1) := D_42 W_prog_4_method_2_code_128 29 rfl rfl
theorem d_4_2_158 : decode prog_4_method_2_code 158 = .ok (.aload_n 1, 1) := D_43 W_prog_4_method_2_code_128 30 rfl rfl
theorem d_4_2_159 : decode prog_4_method_2_code 159 = .ok (.iload 5, 2) := D_21 W_prog_4_method_2_code_128 31 rfl rfl
theorem d_4_2_161 : decode prog_4_method_2_code 161 = .ok (.iload_n 2, 1) := D_28 W_prog_4_method_2_code_160 1 rfl rfl
theorem d_4_2_162 : decode prog_4_method_2_code 162 = .ok (.invokevirtual 73, 3) := D_182 W_prog_4_method_2_code_160 2 rfl rfl rfl
theorem d_4_2_165 : decode prog_4_method_2_code 165 = .ok (.iinc 5 1, 3) := D_132 W_prog_4_method_2_code_160 5 rfl rfl rfl
theorem d_4_2_168 : decode prog_4_method_2_code 168 = .ok (.goto (-20), 3) := D_167 W_prog_4_method_2_code_160 8 rfl rfl rfl
theorem d_7_17_6 : decode prog_7_method_17_code 6 = .ok (.aload_n 2, 1) := D_44 W_prog_7_method_17_code_0 6 rfl rfl
theorem d_7_17_7 : decode prog_7_method_17_code 7 = .ok (.bipush 6, 2) := D_16 W_prog_7_method_17_code_0 7 rfl rfl rfl
theorem d_7_17_9 : decode prog_7_method_17_code 9 = .ok (.iconst 4, 1) := D_7 W_prog_7_method_17_code_0 9 rfl rfl
theorem d_7_17_10 : decode prog_7_method_17_code 10 = .ok (.invokevirtual 209, 3) := D_182 W_prog_7_method_17_code_0 10 rfl rfl rfl
theorem d_7_17_13 : decode prog_7_method_17_code 13 = .ok (.aload_n 2, 1) := D_44 W_prog_7_method_17_code_0 13 rfl rfl
theorem d_7_17_14 : decode prog_7_method_17_code 14 = .ok (.iconst 1, 1) := D_4 W_prog_7_method_17_code_0 14 rfl rfl
theorem d_7_17_15 : decode prog_7_method_17_code 15 = .ok (.iconst 2, 1) := D_5 W_prog_7_method_17_code_0 15 rfl rfl
theorem d_7_17_16 : decode prog_7_method_17_code 16 = .ok (.invokevirtual 209, 3) := D_182 W_prog_7_method_17_code_0 16 rfl rfl rfl
theorem d_7_17_19 : decode prog_7_method_17_code 19 = .ok (.aload_n 2, 1) := D_44 W_prog_7_method_17_code_0 19 rfl rfl
theorem d_7_17_20 : decode prog_7_method_17_code 20 = .ok (.aload_n 1, 1) := D_43 W_prog_7_method_17_code_0 20 rfl rfl
theorem d_7_17_21 : decode prog_7_method_17_code 21 = .ok (.getfield 47, 3) := D_180 W_prog_7_method_17_code_0 21 rfl rfl rfl
theorem d_7_17_24 : decode prog_7_method_17_code 24 = .ok (.iconst 1, 1) := D_4 W_prog_7_method_17_code_0 24 rfl rfl
theorem d_7_17_25 : decode prog_7_method_17_code 25 = .ok (.iadd, 1) := D_96 W_prog_7_method_17_code_0 25 rfl rfl
theorem d_7_17_26 : decode prog_7_method_17_code 26 = .ok (.iconst 2, 1) := D_5 W_prog_7_method_17_code_0 26 rfl rfl
theorem d_7_17_27 : decode prog_7_method_17_code 27 = .ok (.invokevirtual 209, 3) := D_182 W_prog_7_method_17_code_0 27 rfl rfl rfl
theorem d_7_17_30 : decode prog_7_method_17_code 30 = .ok (.aload_n 2, 1) := D_44 W_prog_7_method_17_code_0 30 rfl rfl
theorem d_7_17_31 : decode prog_7_method_17_code 31 = .ok (.bipush 96, 2) := D_16 W_prog_7_method_17_code_0 31 rfl rfl rfl
theorem W_prog_7_method_17_code_32 : chW prog_7_method_17_code 32 [96, 5, 182, 0, 209, 43, 44, 184, 0, 213, 3, 62, 29, 43, 180, 0, 47, 162, 0, 21, 42, 43, 180, 0, 52, 29, 50, 29, 44, 182, 0, 217, 132, 3, 1, 167] := chW_of (by decide +kernel)
theorem d_7_17_33 : decode prog_7_method_17_code 33 = .ok (.iconst 2, 1) := D_5 W_prog_7_method_17_code_32 1 rfl rfl
theorem d_7_17_34 : decode prog_7_method_17_code 34 = .ok (.invokevirtual 209, 3) := D_182 W_prog_7_method_17_code_32 2 rfl rfl rfl
theorem d_7_17_37 : decode prog_7_method_17_code 37 = .ok (.aload_n 1, 1) := D_43 W_prog_7_method_17_code_32 5 rfl rfl
theorem d_7_17_38 : decode prog_7_method_17_code 38 = .ok (.aload_n 2, 1) := D_44 W_prog_7_method_17_code_32 6 rfl rfl
theorem d_7_17_39 : decode prog_7_method_17_code 39 = .ok (.invokestatic 213, 3) := D_184 W_prog_7_method_17_code_32 7 rfl rfl rfl
theorem d_7_21_4 : decode prog_7_method_21_code 4 = .ok (.istore_n 2, 1) := D_61 W_prog_7_method_21_code_0 4 rfl rfl
theorem d_7_21_5 : decode prog_7_method_21_code 5 = .ok (.aload_n 1, 1) := D_43 W_prog_7_method_21_code_0 5 rfl rfl
theorem d_7_21_6 : decode prog_7_method_21_code 6 = .ok (.bipush 88, 2) := D_16 W_prog_7_method_21_code_0 6 rfl rfl rfl
theorem d_7_21_8 : decode prog_7_method_21_code 8 = .ok (.iconst 4, 1) := D_7 W_prog_7_method_21_code_0 8 rfl rfl
theorem d_7_21_9 : decode prog_7_method_21_code 9 = .ok (.invokestatic 226, 3) := D_184 W_prog_7_method_21_code_0 9 rfl rfl rfl
theorem d_7_21_12 : decode prog_7_method_21_code 12 = .ok (.aload_n 1, 1) := D_43 W_prog_7_method_21_code_0 12 rfl rfl
theorem d_7_21_13 : decode prog_7_method_21_code 13 = .ok (.aload_n 0, 1) := D_42 W_prog_7_method_21_code_0 13 rfl rfl
theorem d_7_21_14 : decode prog_7_method_21_code 14 = .ok (.getfield 241, 3) := D_180 W_prog_7_method_21_code_0 14 rfl rfl rfl
theorem d_7_21_17 : decode prog_7_method_21_code 17 = .ok (.invokevirtual 233, 3) := D_182 W_prog_7_method_21_code_0 17 rfl rfl rfl
theorem d_7_21_20 : decode prog_7_method_21_code 20 = .ok (.aload_n 1, 1) := D_43 W_prog_7_method_21_code_0 20 rfl rfl
theorem d_7_21_21 : decode prog_7_method_21_code 21 = .ok (.aload_n 0, 1) := D_42 W_prog_7_method_21_code_0 21 rfl rfl
theorem d_7_21_22 : decode prog_7_method_21_code 22 = .ok (.getfield 244, 3) := D_180 W_prog_7_method_21_code_0 22 rfl rfl rfl
theorem d_7_21_25 : decode prog_7_method_21_code 25 = .ok (.iconst 1, 1) := D_4 W_prog_7_method_21_code_0 25 rfl rfl
theorem d_7_21_26 : decode prog_7_method_21_code 26 = .ok (.isub, 1) := D_100 W_prog_7_method_21_code_0 26 rfl rfl
theorem d_7_21_27 : decode prog_7_method_21_code 27 = .ok (.invokestatic 247, 3) := D_184 W_prog_7_method_21_code_0 27 rfl rfl rfl
theorem d_7_21_30 : decode prog_7_method_21_code 30 = .ok (.invokevirtual 233, 3) := D_182 W_prog_7_method_21_code_0 30 rfl rfl rfl
theorem W_prog_7_method_21_code_32 : chW prog_7_method_21_code 32 [233, 43, 16, 24, 182, 0, 233, 43, 16, 8, 182, 0, 233, 43, 16, 89, 5, 184, 0, 226, 43, 42, 180, 0, 153, 182, 0, 233, 43, 42, 180, 0, 252, 182, 0, 233] := chW_of (by decide +kernel)
theorem d_7_21_33 : decode prog_7_method_21_code 33 = .ok (.aload_n 1, 1) := D_43 W_prog_7_method_21_code_32 1 rfl rfl
theorem d_7_21_34 : decode prog_7_method_21_code 34 = .ok (.bipush 24, 2) := D_16 W_prog_7_method_21_code_32 2 rfl rfl rfl
theorem d_7_21_36 : decode prog_7_method_21_code 36 = .ok (.invokevirtual 233, 3) := D_182 W_prog_7_method_21_code_32 4 rfl rfl rfl
theorem d_7_21_39 : decode prog_7_method_21_code 39 = .ok (.aload_n 1, 1) := D_43 W_prog_7_method_21_code_32 7 rfl rfl
theorem d_7_21_40 : decode prog_7_method_21_code 40 = .ok (.bipush 8, 2) := D_16 W_prog_7_method_21_code_32 8 rfl rfl rfl
theorem d_7_21_42 : decode prog_7_method_21_code 42 = .ok (.invokevirtual 233, 3) := D_182 W_prog_7_method_21_code_32 10 rfl rfl rfl
theorem d_7_21_45 : decode prog_7_method_21_code 45 = .ok (.aload_n 1, 1) := D_43 W_prog_7_method_21_code_32 13 rfl rfl
theorem d_7_21_46 : decode prog_7_method_21_code 46 = .ok (.bipush 89, 2) := D_16 W_prog_7_method_21_code_32 14 rfl rfl rfl
theorem d_7_21_48 : decode prog_7_method_21_code 48 = .ok (.iconst 2, 1) := D_5 W_prog_7_method_21_code_32 16 rfl rfl
theorem d_7_21_49 : decode prog_7_method_21_code 49 = .ok (.invokestatic 226, 3) := D_184 W_prog_7_method_21_code_32 17 rfl rfl rfl
theorem d_7_21_52 : decode prog_7_method_21_code 52 = .ok (.aload_n 1, 1) := D_43 W_prog_7_method_21_code_32 20 rfl rfl
theorem d_7_21_53 : decode prog_7_method_21_code 53 = .ok (.aload_n 0, 1) := D_42 W_prog_7_method_21_code_32 21 rfl rfl
theorem d_7_21_54 : decode prog_7_method_21_code 54 = .ok (.getfield 153, 3) := D_180 W_prog_7_method_21_code_32 22 rfl rfl rfl
theorem d_7_21_57 : decode prog_7_method_21_code 57 = .ok (.invokevirtual 233, 3) := D_182 W_prog_7_method_21_code_32 25 rfl rfl rfl
theorem d_7_21_60 : decode prog_7_method_21_code 60 = .ok (.aload_n 1, 1) := D_43 W_prog_7_method_21_code_32 28 rfl rfl
theorem d_7_21_61 : decode prog_7_method_21_code 61 = .ok (.aload_n 0, 1) := D_42 W_prog_7_method_21_code_32 29 rfl rfl
theorem d_7_21_62 : decode prog_7_method_21_code 62 = .ok (.getfield 252, 3) := D_180 W_prog_7_method_21_code_32 30 rfl rfl rfl
theorem W_prog_7_method_21_code_64 : chW prog_7_method_21_code 64 [252, 182, 0, 233, 43, 16, 81, 6, 184, 0, 226, 43, 18, 255, 42, 180, 1, 0, 4, 184, 0, 144, 108, 6, 182, 0, 209, 43, 28, 184, 1, 3, 177] := chW_of (by decide +kernel)
theorem d_7_21_65 : decode prog_7_method_21_code 65 = .ok (.invokevirtual 233, 3) := D_182 W_prog_7_method_21_code_64 1 rfl rfl rfl
theorem d_7_21_68 : decode prog_7_method_21_code 68 = .ok (.aload_n 1, 1) := D_43 W_prog_7_method_21_code_64 4 rfl rfl
theorem d_7_21_69 : decode prog_7_method_21_code 69 = .ok (.bipush 81, 2) := D_16 W_prog_7_method_21_code_64 5 rfl rfl rfl
theorem d_7_21_71 : decode prog_7_method_21_code 71 = .ok (.iconst 3, 1) := D_6 W_prog_7_method_21_code_64 7 rfl rfl
theorem d_7_21_72 : decode prog_7_method_21_code 72 = .ok (.invokestatic 226, 3) := D_184 W_prog_7_method_21_code_64 8 rfl rfl rfl
theorem d_7_21_75 : decode prog_7_method_21_code 75 = .ok (.aload_n 1, 1) := D_43 W_prog_7_method_21_code_64 11 rfl rfl
theorem d_7_21_76 : decode prog_7_method_21_code 76 = .ok (.ldc 255, 2) := D_18 W_prog_7_method_21_code_64 12 rfl rfl
theorem d_7_21_78 : decode prog_7_method_21_code 78 = .ok (.aload_n 0, 1) := D_42 W_prog_7_method_21_code_64 14 rfl rfl
theorem d_7_21_79 : decode prog_7_method_21_code 79 = .ok (.getfield 256, 3) := D_180 W_prog_7_method_21_code_64 15 rfl rfl rfl
theorem d_7_21_82 : decode prog_7_method_21_code 82 = .ok (.iconst 1, 1) := D_4 W_prog_7_method_21_code_64 18 rfl rfl
theorem d_7_21_83 : decode prog_7_method_21_code 83 = .ok (.invokestatic 144, 3) := D_184 W_prog_7_method_21_code_64 19 rfl rfl rfl
theorem d_7_21_86 : decode prog_7_method_21_code 86 = .ok (.idiv, 1) := D_108 W_prog_7_method_21_code_64 22 rfl rfl
theorem d_7_21_87 : decode prog_7_method_21_code 87 = .ok (.iconst 3, 1) := D_6 W_prog_7_method_21_code_64 23 rfl rfl
theorem d_7_21_88 : decode prog_7_method_21_code 88 = .ok (.invokevirtual 209, 3) := D_182 W_prog_7_method_21_code_64 24 rfl rfl rfl
theorem d_7_21_91 : decode prog_7_method_21_code 91 = .ok (.aload_n 1, 1) := D_43 W_prog_7_method_21_code_64 27 rfl rfl
theorem d_7_21_92 : decode prog_7_method_21_code 92 = .ok (.iload_n 2, 1) := D_28 W_prog_7_method_21_code_64 28 rfl rfl
theorem d_7_21_93 : decode prog_7_method_21_code 93 = .ok (.invokestatic 259, 3) := D_184 W_prog_7_method_21_code_64 29 rfl rfl rfl
theorem W_prog_7_method_21_code_96 : chW prog_7_method_21_code 96 [177] := chW_of (by decide +kernel)
theorem d_7_21_96 : decode prog_7_method_21_code 96 = .ok (.return_, 1) := D_177 W_prog_7_method_21_code_96 0 rfl rfl
theorem d_10_2_36 : decode prog_10_method_2_code 36 = .ok (.aload_n 0, 1) := D_42 W_prog_10_method_2_code_32 4 rfl rfl
theorem d_10_2_37 : decode prog_10_method_2_code 37 = .ok (.iconst 0, 1) := D_3 W_prog_10_method_2_code_32 5 rfl rfl
theorem d_10_2_38 : decode prog_10_method_2_code 38 = .ok (.putfield 51, 3) := D_181 W_prog_10_method_2_code_32 6 rfl rfl rfl
theorem d_10_2_41 : decode prog_10_method_2_code 41 = .ok (.iconst 0, 1) := D_3 W_prog_10_method_2_code_32 9 rfl rfl
theorem d_10_2_42 : decode prog_10_method_2_code 42 = .ok (.istore_n 2, 1) := D_61 W_prog_10_method_2_code_32 10 rfl rfl
theorem d_10_2_43 : decode prog_10_method_2_code 43 = .ok (.iload_n 2, 1) := D_28 W_prog_10_method_2_code_32 11 rfl rfl
theorem d_10_2_44 : decode prog_10_method_2_code 44 = .ok (.sipush 3000, 3) := D_17 W_prog_10_method_2_code_32 12 rfl rfl rfl
theorem d_10_2_47 : decode prog_10_method_2_code 47 = .ok (.if_icmp .ge 122, 3) := D_162 W_prog_10_method_2_code_32 15 rfl rfl rfl
theorem d_10_2_50 : decode prog_10_method_2_code 50 = .ok (.aload_n 0, 1) := D_42 W_prog_10_method_2_code_32 18 rfl rfl
theorem d_10_2_51 : decode prog_10_method_2_code 51 = .ok (.getfield 39, 3) := D_180 W_prog_10_method_2_code_32 19 rfl rfl rfl
theorem d_10_2_54 : decode prog_10_method_2_code 54 = .ok (.ifCond .ne 115, 3) := D_154 W_prog_10_method_2_code_32 22 rfl rfl rfl
theorem d_10_2_57 : decode prog_10_method_2_code 57 = .ok (.aload_n 0, 1) := D_42 W_prog_10_method_2_code_32 25 rfl rfl
theorem d_10_2_58 : decode prog_10_method_2_code 58 = .ok (.getfield 51, 3) := D_180 W_prog_10_method_2_code_32 26 rfl rfl rfl
theorem d_10_2_61 : decode prog_10_method_2_code 61 = .ok (.aload_n 0, 1) := D_42 W_prog_10_method_2_code_32 29 rfl rfl
theorem d_10_2_62 : decode prog_10_method_2_code 62 = .ok (.getfield 9, 3) := D_180 W_prog_10_method_2_code_32 30 rfl rfl rfl
theorem W_prog_10_method_2_code_64 : chW prog_10_method_2_code 64 [9, 3, 46, 162, 0, 102, 42, 43, 180, 0, 31, 181, 0, 36, 42, 7, 182, 0, 54, 66, 42, 7, 182, 0, 54, 42, 180, 0, 27, 133, 97, 55, 5, 42, 180, 0] := chW_of (by decide +kernel)
theorem d_10_2_65 : decode prog_10_method_2_code 65 = .ok (.iconst 0, 1) := D_3 W_prog_10_method_2_code_64 1 rfl rfl
theorem d_10_2_66 : decode prog_10_method_2_code 66 = .ok (.iaload, 1) := D_46 W_prog_10_method_2_code_64 2 rfl rfl
theorem d_10_2_67 : decode prog_10_method_2_code 67 = .ok (.if_icmp .ge 102, 3) := D_162 W_prog_10_method_2_code_64 3 rfl rfl rfl
theorem d_10_2_70 : decode prog_10_method_2_code 70 = .ok (.aload_n 0, 1) := D_42 W_prog_10_method_2_code_64 6 rfl rfl
theorem d_10_2_71 : decode prog_10_method_2_code 71 = .ok (.aload_n 1, 1) := D_43 W_prog_10_method_2_code_64 7 rfl rfl
theorem d_10_2_72 : decode prog_10_method_2_code 72 = .ok (.getfield 31, 3) := D_180 W_prog_10_method_2_code_64 8 rfl rfl rfl
theorem d_10_2_75 : decode prog_10_method_2_code 75 = .ok (.putfield 36, 3) := D_181 W_prog_10_method_2_code_64 11 rfl rfl rfl
theorem d_10_2_78 : decode prog_10_method_2_code 78 = .ok (.aload_n 0, 1) := D_42 W_prog_10_method_2_code_64 14 rfl rfl
theorem d_10_2_79 : decode prog_10_method_2_code 79 = .ok (.iconst 4, 1) := D_7 W_prog_10_method_2_code_64 15 rfl rfl
theorem d_10_2_80 : decode prog_10_method_2_code 80 = .ok (.invokevirtual 54, 3) := D_182 W_prog_10_method_2_code_64 16 rfl rfl rfl
theorem d_10_2_83 : decode prog_10_method_2_code 83 = .ok (.lstore_n 3, 1) := D_66 W_prog_10_method_2_code_64 19 rfl rfl
theorem d_10_2_84 : decode prog_10_method_2_code 84 = .ok (.aload_n 0, 1) := D_42 W_prog_10_method_2_code_64 20 rfl rfl
theorem d_10_2_85 : decode prog_10_method_2_code 85 = .ok (.iconst 4, 1) := D_7 W_prog_10_method_2_code_64 21 rfl rfl
theorem d_10_2_86 : decode prog_10_method_2_code 86 = .ok (.invokevirtual 54, 3) := D_182 W_prog_10_method_2_code_64 22 rfl rfl rfl
theorem d_10_2_89 : decode prog_10_method_2_code 89 = .ok (.aload_n 0, 1) := D_42 W_prog_10_method_2_code_64 25 rfl rfl
theorem d_10_2_90 : decode prog_10_method_2_code 90 = .ok (.getfield 27, 3) := D_180 W_prog_10_method_2_code_64 26 rfl rfl rfl
theorem d_10_2_93 : decode prog_10_method_2_code 93 = .ok (.i2l, 1) := D_133 W_prog_10_method_2_code_64 29 rfl rfl
theorem d_10_2_94 : decode prog_10_method_2_code 94 = .ok (.ladd, 1) := D_97 W_prog_10_method_2_code_64 30 rfl rfl
theorem d_10_2_95 : decode prog_10_method_2_code 95 = .ok (.lstore 5, 2) := D_55 W_prog_10_method_2_code_64 31 rfl rfl
theorem W_prog_10_method_2_code_96 : chW prog_10_method_2_code 96 [5, 42, 180, 0, 39, 154, 0, 42, 33, 20, 0, 58, 148, 154, 0, 34, 42, 22, 5, 43, 180, 0, 31, 133, 184, 0, 60, 136, 181, 0, 36, 42, 22, 5, 182, 0] := chW_of (by decide +kernel)
theorem d_10_2_97 : decode prog_10_method_2_code 97 = .ok (.aload_n 0, 1) := D_42 W_prog_10_method_2_code_96 1 rfl rfl
theorem d_10_2_98 : decode prog_10_method_2_code 98 = .ok (.getfield 39, 3) := D_180 W_prog_10_method_2_code_96 2 rfl rfl rfl
theorem d_10_2_101 : decode prog_10_method_2_code 101 = .ok (.ifCond .ne 42, 3) := D_154 W_prog_10_method_2_code_96 5 rfl rfl rfl
theorem d_10_2_104 : decode prog_10_method_2_code 104 = .ok (.lload_n 3, 1) := D_33 W_prog_10_method_2_code_96 8 rfl rfl
theorem d_10_2_105 : decode prog_10_method_2_code 105 = .ok (.ldc2_w 58, 3) := D_20 W_prog_10_method_2_code_96 9 rfl rfl rfl
theorem d_10_2_108 : decode prog_10_method_2_code 108 = .ok (.lcmp, 1) := D_148 W_prog_10_method_2_code_96 12 rfl rfl
theorem d_10_2_109 : decode prog_10_method_2_code 109 = .ok (.ifCond .ne 34, 3) := D_154 W_prog_10_method_2_code_96 13 rfl rfl rfl
theorem d_10_2_112 : decode prog_10_method_2_code 112 = .ok (.aload_n 0, 1) := D_42 W_prog_10_method_2_code_96 16 rfl rfl
theorem d_10_2_113 : decode prog_10_method_2_code 113 = .ok (.lload 5, 2) := D_22 W_prog_10_method_2_code_96 17 rfl rfl
theorem d_10_2_115 : decode prog_10_method_2_code 115 = .ok (.aload_n 1, 1) := D_43 W_prog_10_method_2_code_96 19 rfl rfl
theorem d_10_2_116 : decode prog_10_method_2_code 116 = .ok (.getfield 31, 3) := D_180 W_prog_10_method_2_code_96 20 rfl rfl rfl
theorem d_10_2_119 : decode prog_10_method_2_code 119 = .ok (.i2l, 1) := D_133 W_prog_10_method_2_code_96 23 rfl rfl
theorem d_10_2_120 : decode prog_10_method_2_code 120 = .ok (.invokestatic 60, 3) := D_184 W_prog_10_method_2_code_96 24 rfl rfl rfl
theorem d_10_2_123 : decode prog_10_method_2_code 123 = .ok (.l2i, 1) := D_136 W_prog_10_method_2_code_96 27 rfl rfl
theorem d_10_2_124 : decode prog_10_method_2_code 124 = .ok (.putfield 36, 3) := D_181 W_prog_10_method_2_code_96 28 rfl rfl rfl
theorem d_10_2_127 : decode prog_10_method_2_code 127 = .ok (.aload_n 0, 1) := D_42 W_prog_10_method_2_code_96 31 rfl rfl
theorem W_prog_10_method_2_code_128 : chW prog_10_method_2_code 128 [22, 5, 182, 0, 66, 42, 89, 180, 0, 51, 4, 96, 181, 0, 51, 42, 43, 180, 0, 31, 181, 0, 36, 42, 22, 5, 42, 180, 0, 27, 133, 101, 182, 0, 70, 132] := chW_of (by decide +kernel)
theorem d_10_2_128 : decode prog_10_method_2_code 128 = .ok (.lload 5, 2) := D_22 W_prog_10_method_2_code_128 0 rfl rfl
theorem d_10_2_130 : decode prog_10_method_2_code 130 = .ok (.invokevirtual 66, 3) := D_182 W_prog_10_method_2_code_128 2 rfl rfl rfl
theorem d_10_13_60 : decode prog_10_method_13_code 60 = .ok (.iinc 4 1, 3) := D_132 W_prog_10_method_13_code_32 28 rfl rfl rfl
theorem d_10_13_63 : decode prog_10_method_13_code 63 = .ok (.goto (-40), 3) := D_167 W_prog_10_method_13_code_32 31 rfl rfl rfl
theorem W_prog_10_method_13_code_64 : chW prog_10_method_13_code 64 [255, 216, 29, 54, 4, 21, 4, 42, 180, 0, 42, 162, 0, 38, 42, 180, 0, 17, 8, 50, 21, 4, 47, 20, 0, 134, 148, 154, 0, 16, 42, 180, 0, 17, 8, 50] := chW_of (by decide +kernel)
theorem d_10_13_66 : decode prog_10_method_13_code 66 = .ok (.iload_n 3, 1) := D_29 W_prog_10_method_13_code_64 2 rfl rfl
theorem d_10_13_67 : decode prog_10_method_13_code 67 = .ok (.istore 4, 2) := D_54 W_prog_10_method_13_code_64 3 rfl rfl
theorem d_10_13_69 : decode prog_10_method_13_code 69 = .ok (.iload 4, 2) := D_21 W_prog_10_method_13_code_64 5 rfl rfl
theorem d_10_13_71 : decode prog_10_method_13_code 71 = .ok (.aload_n 0, 1) := D_42 W_prog_10_method_13_code_64 7 rfl rfl
theorem d_10_13_72 : decode prog_10_method_13_code 72 = .ok (.getfield 42, 3) := D_180 W_prog_10_method_13_code_64 8 rfl rfl rfl
theorem d_10_13_75 : decode prog_10_method_13_code 75 = .ok (.if_icmp .ge 38, 3) := D_162 W_prog_10_method_13_code_64 11 rfl rfl rfl
theorem W_prog_10_method_13_code_96 : chW prog_10_method_13_code 96 [0, 17, 8, 50, 21, 4, 42, 180, 0, 123, 80, 132, 4, 1, 167, 255, 215, 177] := chW_of (by decide +kernel)
theorem d_10_13_113 : decode prog_10_method_13_code 113 = .ok (.return_, 1) := D_177 W_prog_10_method_13_code_96 17 rfl rfl
theorem d_10_13_78 : decode prog_10_method_13_code 78 = .ok (.aload_n 0, 1) := D_42 W_prog_10_method_13_code_64 14 rfl rfl
theorem d_10_13_79 : decode prog_10_method_13_code 79 = .ok (.getfield 17, 3) := D_180 W_prog_10_method_13_code_64 15 rfl rfl rfl
theorem d_10_13_82 : decode prog_10_method_13_code 82 = .ok (.iconst 5, 1) := D_8 W_prog_10_method_13_code_64 18 rfl rfl
theorem d_10_13_83 : decode prog_10_method_13_code 83 = .ok (.aaload, 1) := D_50 W_prog_10_method_13_code_64 19 rfl rfl
theorem d_10_13_84 : decode prog_10_method_13_code 84 = .ok (.iload 4, 2) := D_21 W_prog_10_method_13_code_64 20 rfl rfl
theorem d_10_13_86 : decode prog_10_method_13_code 86 = .ok (.laload, 1) := D_47 W_prog_10_method_13_code_64 22 rfl rfl
theorem d_10_13_87 : decode prog_10_method_13_code 87 = .ok (.ldc2_w 134, 3) := D_20 W_prog_10_method_13_code_64 23 rfl rfl rfl
theorem d_10_13_90 : decode prog_10_method_13_code 90 = .ok (.lcmp, 1) := D_148 W_prog_10_method_13_code_64 26 rfl rfl
theorem d_10_13_91 : decode prog_10_method_13_code 91 = .ok (.ifCond .ne 16, 3) := D_154 W_prog_10_method_13_code_64 27 rfl rfl rfl
theorem d_10_13_94 : decode prog_10_method_13_code 94 = .ok (.aload_n 0, 1) := D_42 W_prog_10_method_13_code_64 30 rfl rfl
theorem d_10_13_95 : decode prog_10_method_13_code 95 = .ok (.getfield 17, 3) := D_180 W_prog_10_method_13_code_64 31 rfl rfl rfl
theorem d_10_13_98 : decode prog_10_method_13_code 98 = .ok (.iconst 5, 1) := D_8 W_prog_10_method_13_code_96 2 rfl rfl
theorem d_10_13_99 : decode prog_10_method_13_code 99 = .ok (.aaload, 1) := D_50 W_prog_10_method_13_code_96 3 rfl rfl
theorem d_10_13_100 : decode prog_10_method_13_code 100 = .ok (.iload 4, 2) := D_21 W_prog_10_method_13_code_96 4 rfl rfl
theorem d_10_13_102 : decode prog_10_method_13_code 102 = .ok (.aload_n 0, 1) := D_42 W_prog_10_method_13_code_96 6 rfl rfl
theorem d_10_13_103 : decode prog_10_method_13_code 103 = .ok (.getfield 123, 3) := D_180 W_prog_10_method_13_code_96 7 rfl rfl rfl
theorem d_10_13_106 : decode prog_10_method_13_code 106 = .ok (.lastore, 1) := D_80 W_prog_10_method_13_code_96 10 rfl rfl
theorem d_10_13_107 : decode prog_10_method_13_code 107 = .ok (.iinc 4 1, 3) := D_132 W_prog_10_method_13_code_96 11 rfl rfl rfl
theorem d_10_13_110 : decode prog_10_method_13_code 110 = .ok (.goto (-41), 3) := D_167 W_prog_10_method_13_code_96 14 rfl rfl rfl
theorem W_prog_9_method_12_code_96 : chW prog_9_method_12_code 96 [0, 190, 29, 42, 180, 0, 46, 112, 154, 0, 12, 42, 180, 0, 26, 18, 194, 182, 0, 137, 132, 4, 1, 167, 255, 142, 177] := chW_of (by decide +kernel)
theorem d_9_12_98 : decode prog_9_method_12_code 98 = .ok (.iload_n 3, 1) := D_29 W_prog_9_method_12_code_96 2 rfl rfl
theorem d_9_12_99 : decode prog_9_method_12_code 99 = .ok (.aload_n 0, 1) := D_42 W_prog_9_method_12_code_96 3 rfl rfl
theorem d_9_12_100 : decode prog_9_method_12_code 100 = .ok (.getfield 46, 3) := D_180 W_prog_9_method_12_code_96 4 rfl rfl rfl
theorem d_9_12_103 : decode prog_9_method_12_code 103 = .ok (.irem, 1) := D_112 W_prog_9_method_12_code_96 7 rfl rfl
theorem d_9_12_104 : decode prog_9_method_12_code 104 = .ok (.ifCond .ne 12, 3) := D_154 W_prog_9_method_12_code_96 8 rfl rfl rfl
theorem d_9_12_107 : decode prog_9_method_12_code 107 = .ok (.aload_n 0, 1) := D_42 W_prog_9_method_12_code_96 11 rfl rfl
theorem d_9_12_108 : decode prog_9_method_12_code 108 = .ok (.getfield 26, 3) := D_180 W_prog_9_method_12_code_96 12 rfl rfl rfl
theorem d_9_12_111 : decode prog_9_method_12_code 111 = .ok (.ldc 194, 2) := D_18 W_prog_9_method_12_code_96 15 rfl rfl
theorem d_9_12_113 : decode prog_9_method_12_code 113 = .ok (.invokevirtual 137, 3) := D_182 W_prog_9_method_12_code_96 17 rfl rfl rfl
theorem d_9_12_116 : decode prog_9_method_12_code 116 = .ok (.iinc 4 1, 3) := D_132 W_prog_9_method_12_code_96 20 rfl rfl rfl
theorem d_9_12_119 : decode prog_9_method_12_code 119 = .ok (.goto (-114), 3) := D_167 W_prog_9_method_12_code_96 23 rfl rfl rfl
theorem d_9_12_122 : decode prog_9_method_12_code 122 = .ok (.return_, 1) := D_177 W_prog_9_method_12_code_96 26 rfl rfl
theorem d_1_28_42 : decode prog_1_method_28_code 42 = .ok (.ireturn, 1) := D_172 W_prog_1_method_28_code_32 10 rfl rfl
theorem d_1_28_33 : decode prog_1_method_28_code 33 = .ok (.iconst (-1), 1) := D_2 W_prog_1_method_28_code_32 1 rfl rfl
theorem d_1_28_34 : decode prog_1_method_28_code 34 = .ok (.ireturn, 1) := D_172 W_prog_1_method_28_code_32 2 rfl rfl
theorem d_1_32_42 : decode prog_1_method_32_code 42 = .ok (.ldc2_w 191, 3) := D_20 W_prog_1_method_32_code_32 10 rfl rfl rfl
theorem d_1_32_45 : decode prog_1_method_32_code 45 = .ok (.lreturn, 1) := D_173 W_prog_1_method_32_code_32 13 rfl rfl
theorem d_1_32_72 : decode prog_1_method_32_code 72 = .ok (.iconst 0, 1) := D_3 W_prog_1_method_32_code_64 8 rfl rfl
theorem d_1_32_73 : decode prog_1_method_32_code 73 = .ok (.goto 14, 3) := D_167 W_prog_1_method_32_code_64 9 rfl rfl rfl
theorem d_1_32_87 : decode prog_1_method_32_code 87 = .ok (.istore 9, 2) := D_54 W_prog_1_method_32_code_64 23 rfl rfl
theorem d_1_32_89 : decode prog_1_method_32_code 89 = .ok (.iload 9, 2) := D_21 W_prog_1_method_32_code_64 25 rfl rfl
theorem d_1_32_91 : decode prog_1_method_32_code 91 = .ok (.ifCond .ne 5, 3) := D_154 W_prog_1_method_32_code_64 27 rfl rfl rfl
theorem W_prog_1_method_32_code_96 : chW prog_1_method_32_code 96 [25, 6, 180, 0, 108, 21, 8, 50, 180, 0, 193, 25, 5, 180, 0, 108, 21, 7, 50, 180, 0, 193, 101, 55, 10, 21, 4, 170, 0, 0, 0, 60, 0, 0, 0, 0] := chW_of (by decide +kernel)
theorem d_1_32_96 : decode prog_1_method_32_code 96 = .ok (.aload 6, 2) := D_25 W_prog_1_method_32_code_96 0 rfl rfl
theorem d_1_32_98 : decode prog_1_method_32_code 98 = .ok (.getfield 108, 3) := D_180 W_prog_1_method_32_code_96 2 rfl rfl rfl
theorem d_1_32_101 : decode prog_1_method_32_code 101 = .ok (.iload 8, 2) := D_21 W_prog_1_method_32_code_96 5 rfl rfl
theorem d_1_32_103 : decode prog_1_method_32_code 103 = .ok (.aaload, 1) := D_50 W_prog_1_method_32_code_96 7 rfl rfl
theorem d_1_32_104 : decode prog_1_method_32_code 104 = .ok (.getfield 193, 3) := D_180 W_prog_1_method_32_code_96 8 rfl rfl rfl
theorem d_1_32_107 : decode prog_1_method_32_code 107 = .ok (.aload 5, 2) := D_25 W_prog_1_method_32_code_96 11 rfl rfl
theorem d_1_32_109 : decode prog_1_method_32_code 109 = .ok (.getfield 108, 3) := D_180 W_prog_1_method_32_code_96 13 rfl rfl rfl
theorem d_1_32_112 : decode prog_1_method_32_code 112 = .ok (.iload 7, 2) := D_21 W_prog_1_method_32_code_96 16 rfl rfl
theorem d_1_32_114 : decode prog_1_method_32_code 114 = .ok (.aaload, 1) := D_50 W_prog_1_method_32_code_96 18 rfl rfl
theorem d_1_32_115 : decode prog_1_method_32_code 115 = .ok (.getfield 193, 3) := D_180 W_prog_1_method_32_code_96 19 rfl rfl rfl
theorem d_1_32_118 : decode prog_1_method_32_code 118 = .ok (.lsub, 1) := D_101 W_prog_1_method_32_code_96 22 rfl rfl
theorem d_1_32_119 : decode prog_1_method_32_code 119 = .ok (.lstore 10, 2) := D_55 W_prog_1_method_32_code_96 23 rfl rfl
theorem d_1_32_121 : decode prog_1_method_32_code 121 = .ok (.iload 4, 2) := D_21 W_prog_1_method_32_code_96 25 rfl rfl
theorem d_1_32_123 : decode prog_1_method_32_code 123 = .ok (.tableswitch 60 0 2 #[25, 29, 54], 25) := by decide +kernel
theorem W_prog_1_method_32_code_128 : chW prog_1_method_32_code 128 [0, 0, 0, 0, 0, 0, 0, 2, 0, 0, 0, 25, 0, 0, 0, 29, 0, 0, 0, 54, 21, 9, 133, 173, 25, 6, 180, 0, 108, 21, 8, 50, 182, 1, 72, 25] := chW_of (by decide +kernel)
theorem d_1_32_148 : decode prog_1_method_32_code 148 = .ok (.iload 9, 2) := D_21 W_prog_1_method_32_code_128 20 rfl rfl
theorem d_1_32_150 : decode prog_1_method_32_code 150 = .ok (.i2l, 1) := D_133 W_prog_1_method_32_code_128 22 rfl rfl
theorem d_1_32_151 : decode prog_1_method_32_code 151 = .ok (.lreturn, 1) := D_173 W_prog_1_method_32_code_128 23 rfl rfl
theorem d_1_32_152 : decode prog_1_method_32_code 152 = .ok (.aload 6, 2) := D_25 W_prog_1_method_32_code_128 24 rfl rfl
theorem d_1_32_154 : decode prog_1_method_32_code 154 = .ok (.getfield 108, 3) := D_180 W_prog_1_method_32_code_128 26 rfl rfl rfl
theorem d_1_32_157 : decode prog_1_method_32_code 157 = .ok (.iload 8, 2) := D_21 W_prog_1_method_32_code_128 29 rfl rfl
theorem d_1_32_159 : decode prog_1_method_32_code 159 = .ok (.aaload, 1) := D_50 W_prog_1_method_32_code_128 31 rfl rfl
theorem W_prog_1_method_32_code_160 : chW prog_1_method_32_code 160 [182, 1, 72, 25, 5, 180, 0, 108, 21, 7, 50, 182, 1, 72, 100, 133, 173, 22, 10, 184, 0, 198, 173, 22, 10, 184, 0, 201, 173] := chW_of (by decide +kernel)
theorem d_1_32_160 : decode prog_1_method_32_code 160 = .ok (.invokevirtual 328, 3) := D_182 W_prog_1_method_32_code_160 0 rfl rfl rfl
theorem d_1_32_163 : decode prog_1_method_32_code 163 = .ok (.aload 5, 2) := D_25 W_prog_1_method_32_code_160 3 rfl rfl
theorem d_1_32_165 : decode prog_1_method_32_code 165 = .ok (.getfield 108, 3) := D_180 W_prog_1_method_32_code_160 5 rfl rfl rfl
theorem d_1_32_168 : decode prog_1_method_32_code 168 = .ok (.iload 7, 2) := D_21 W_prog_1_method_32_code_160 8 rfl rfl
theorem d_1_32_170 : decode prog_1_method_32_code 170 = .ok (.aaload, 1) := D_50 W_prog_1_method_32_code_160 10 rfl rfl
theorem d_1_32_171 : decode prog_1_method_32_code 171 = .ok (.invokevirtual 328, 3) := D_182 W_prog_1_method_32_code_160 11 rfl rfl rfl
theorem d_1_32_174 : decode prog_1_method_32_code 174 = .ok (.isub, 1) := D_100 W_prog_1_method_32_code_160 14 rfl rfl
theorem d_1_32_175 : decode prog_1_method_32_code 175 = .ok (.i2l, 1) := D_133 W_prog_1_method_32_code_160 15 rfl rfl
theorem d_1_32_176 : decode prog_1_method_32_code 176 = .ok (.lreturn, 1) := D_173 W_prog_1_method_32_code_160 16 rfl rfl
theorem d_1_32_177 : decode prog_1_method_32_code 177 = .ok (.lload 10, 2) := D_22 W_prog_1_method_32_code_160 17 rfl rfl
theorem d_1_32_179 : decode prog_1_method_32_code 179 = .ok (.invokestatic 198, 3) := D_184 W_prog_1_method_32_code_160 19 rfl rfl rfl
theorem d_1_32_182 : decode prog_1_method_32_code 182 = .ok (.lreturn, 1) := D_173 W_prog_1_method_32_code_160 22 rfl rfl
theorem d_1_32_183 : decode prog_1_method_32_code 183 = .ok (.lload 10, 2) := D_22 W_prog_1_method_32_code_160 23 rfl rfl
theorem d_1_32_185 : decode prog_1_method_32_code 185 = .ok (.invokestatic 201, 3) := D_184 W_prog_1_method_32_code_160 25 rfl rfl rfl
theorem d_1_32_188 : decode prog_1_method_32_code 188 = .ok (.lreturn, 1) := D_173 W_prog_1_method_32_code_160 28 rfl rfl
theorem d_1_32_94 : decode prog_1_method_32_code 94 = .ok (.lconst 0, 1) := D_9 W_prog_1_method_32_code_64 30 rfl rfl
theorem d_1_32_95 : decode prog_1_method_32_code 95 = .ok (.lreturn, 1) := D_173 W_prog_1_method_32_code_64 31 rfl rfl
theorem d_6_4_206 : decode prog_6_method_4_code 206 = .ok (.aload_n 0, 1) := D_42 W_prog_6_method_4_code_192 14 rfl rfl
theorem d_6_4_207 : decode prog_6_method_4_code 207 = .ok (.getfield 81, 3) := D_180 W_prog_6_method_4_code_192 15 rfl rfl rfl
theorem d_6_4_210 : decode prog_6_method_4_code 210 = .ok (.ifCond .eq 16, 3) := D_153 W_prog_6_method_4_code_192 18 rfl rfl rfl
theorem W_prog_6_method_4_code_224 : chW prog_6_method_4_code 224 [0, 4, 3, 172] := chW_of (by decide +kernel)
theorem d_6_4_226 : decode prog_6_method_4_code 226 = .ok (.iconst 0, 1) := D_3 W_prog_6_method_4_code_224 2 rfl rfl
theorem d_6_4_213 : decode prog_6_method_4_code 213 = .ok (.bipush 14, 2) := D_16 W_prog_6_method_4_code_192 21 rfl rfl rfl
theorem d_6_4_215 : decode prog_6_method_4_code 215 = .ok (.bipush 16, 2) := D_16 W_prog_6_method_4_code_192 23 rfl rfl rfl
theorem d_6_4_217 : decode prog_6_method_4_code 217 = .ok (.aload_n 0, 1) := D_42 W_prog_6_method_4_code_192 25 rfl rfl
theorem d_6_4_218 : decode prog_6_method_4_code 218 = .ok (.getfield 49, 3) := D_180 W_prog_6_method_4_code_192 26 rfl rfl rfl
theorem d_6_4_221 : decode prog_6_method_4_code 221 = .ok (.imul, 1) := D_104 W_prog_6_method_4_code_192 29 rfl rfl
theorem d_6_4_222 : decode prog_6_method_4_code 222 = .ok (.iadd, 1) := D_96 W_prog_6_method_4_code_192 30 rfl rfl
theorem d_6_4_223 : decode prog_6_method_4_code 223 = .ok (.goto 4, 3) := D_167 W_prog_6_method_4_code_192 31 rfl rfl rfl
theorem d_6_4_190 : decode prog_6_method_4_code 190 = .ok (.bipush 11, 2) := D_16 W_prog_6_method_4_code_160 30 rfl rfl rfl
theorem d_6_4_192 : decode prog_6_method_4_code 192 = .ok (.bipush 16, 2) := D_16 W_prog_6_method_4_code_192 0 rfl rfl rfl
theorem d_6_4_194 : decode prog_6_method_4_code 194 = .ok (.aload_n 0, 1) := D_42 W_prog_6_method_4_code_192 2 rfl rfl
theorem d_6_4_195 : decode prog_6_method_4_code 195 = .ok (.getfield 49, 3) := D_180 W_prog_6_method_4_code_192 3 rfl rfl rfl
theorem d_6_4_198 : decode prog_6_method_4_code 198 = .ok (.imul, 1) := D_104 W_prog_6_method_4_code_192 6 rfl rfl
theorem d_6_4_199 : decode prog_6_method_4_code 199 = .ok (.iadd, 1) := D_96 W_prog_6_method_4_code_192 7 rfl rfl
theorem d_6_4_200 : decode prog_6_method_4_code 200 = .ok (.ireturn, 1) := D_172 W_prog_6_method_4_code_192 8 rfl rfl
theorem W_prog_6_method_4_code_32 : chW prog_6_method_4_code 32 [0, 155, 42, 180, 0, 11, 29, 50, 58, 4, 42, 29, 43, 182, 0, 55, 182, 0, 61, 154, 0, 15, 16, 13, 16, 16, 25, 4, 180, 0, 65, 104, 96, 172, 25, 4] := chW_of (by decide +kernel)
theorem d_6_4_34 : decode prog_6_method_4_code 34 = .ok (.aload_n 0, 1) := D_42 W_prog_6_method_4_code_32 2 rfl rfl
theorem d_6_4_35 : decode prog_6_method_4_code 35 = .ok (.getfield 11, 3) := D_180 W_prog_6_method_4_code_32 3 rfl rfl rfl
