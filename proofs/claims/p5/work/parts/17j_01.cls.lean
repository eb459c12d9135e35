theorem d_5_27_20 : decode prog_5_method_27_code 20 = .ok (.if_icmp .ne 62, 3) := D_160 W_prog_5_method_27_code_0 20 rfl rfl rfl
theorem d_5_27_23 : decode prog_5_method_27_code 23 = .ok (.ldc_w 302, 3) := D_19 W_prog_5_method_27_code_0 23 rfl rfl rfl
theorem d_5_27_26 : decode prog_5_method_27_code 26 = .ok (.aload_n 0, 1) := D_42 W_prog_5_method_27_code_0 26 rfl rfl
theorem d_5_27_27 : decode prog_5_method_27_code 27 = .ok (.getfield 48, 3) := D_180 W_prog_5_method_27_code_0 27 rfl rfl rfl
theorem d_5_27_30 : decode prog_5_method_27_code 30 = .ok (.getfield 173, 3) := D_180 W_prog_5_method_27_code_0 30 rfl rfl rfl
theorem W_prog_5_method_27_code_32 : chW prog_5_method_27_code 32 [173, 136, 146, 182, 1, 52, 62, 29, 155, 0, 16, 42, 180, 0, 33, 27, 46, 29, 122, 4, 126, 153, 0, 4, 177, 42, 180, 0, 33, 27, 92, 46, 4, 29, 120, 128] := chW_of (by decide +kernel)
theorem d_5_27_33 : decode prog_5_method_27_code 33 = .ok (.l2i, 1) := D_136 W_prog_5_method_27_code_32 1 rfl rfl
theorem d_5_27_34 : decode prog_5_method_27_code 34 = .ok (.i2c, 1) := D_146 W_prog_5_method_27_code_32 2 rfl rfl
theorem d_5_27_35 : decode prog_5_method_27_code 35 = .ok (.invokevirtual 308, 3) := D_182 W_prog_5_method_27_code_32 3 rfl rfl rfl
theorem d_6_10_125 : decode prog_6_method_10_code 125 = .ok (.ifCond .eq 27, 3) := D_153 W_prog_6_method_10_code_96 29 rfl rfl rfl
theorem d_6_10_92 : decode prog_6_method_10_code 92 = .ok (.aload_n 0, 1) := D_42 W_prog_6_method_10_code_64 28 rfl rfl
theorem d_6_10_93 : decode prog_6_method_10_code 93 = .ok (.iload_n 2, 1) := D_28 W_prog_6_method_10_code_64 29 rfl rfl
theorem d_6_10_94 : decode prog_6_method_10_code 94 = .ok (.iload 14, 2) := D_21 W_prog_6_method_10_code_64 30 rfl rfl
theorem d_6_10_96 : decode prog_6_method_10_code 96 = .ok (.lload 9, 2) := D_22 W_prog_6_method_10_code_96 0 rfl rfl
theorem d_6_10_98 : decode prog_6_method_10_code 98 = .ok (.iload 14, 2) := D_21 W_prog_6_method_10_code_96 2 rfl rfl
theorem d_6_10_100 : decode prog_6_method_10_code 100 = .ok (.i2l, 1) := D_133 W_prog_6_method_10_code_96 4 rfl rfl
theorem d_6_10_101 : decode prog_6_method_10_code 101 = .ok (.lload 7, 2) := D_22 W_prog_6_method_10_code_96 5 rfl rfl
theorem d_6_10_103 : decode prog_6_method_10_code 103 = .ok (.lmul, 1) := D_105 W_prog_6_method_10_code_96 7 rfl rfl
theorem d_6_10_104 : decode prog_6_method_10_code 104 = .ok (.lsub, 1) := D_101 W_prog_6_method_10_code_96 8 rfl rfl
theorem d_6_10_105 : decode prog_6_method_10_code 105 = .ok (.invokevirtual 142, 3) := D_182 W_prog_6_method_10_code_96 9 rfl rfl rfl
theorem d_11_6_17 : decode prog_11_method_6_code 17 = .ok (.astore 4, 2) := D_58 W_prog_11_method_6_code_0 17 rfl rfl
theorem d_11_6_19 : decode prog_11_method_6_code 19 = .ok (.aload_n 0, 1) := D_42 W_prog_11_method_6_code_0 19 rfl rfl
theorem d_11_6_20 : decode prog_11_method_6_code 20 = .ok (.getfield 30, 3) := D_180 W_prog_11_method_6_code_0 20 rfl rfl rfl
theorem d_11_6_23 : decode prog_11_method_6_code 23 = .ok (.iload_n 3, 1) := D_29 W_prog_11_method_6_code_0 23 rfl rfl
theorem d_11_6_24 : decode prog_11_method_6_code 24 = .ok (.aload_n 0, 1) := D_42 W_prog_11_method_6_code_0 24 rfl rfl
theorem d_11_6_25 : decode prog_11_method_6_code 25 = .ok (.getfield 23, 3) := D_180 W_prog_11_method_6_code_0 25 rfl rfl rfl
theorem d_11_6_28 : decode prog_11_method_6_code 28 = .ok (.iload_n 3, 1) := D_29 W_prog_11_method_6_code_0 28 rfl rfl
theorem d_11_6_29 : decode prog_11_method_6_code 29 = .ok (.iaload, 1) := D_46 W_prog_11_method_6_code_0 29 rfl rfl
theorem d_11_6_30 : decode prog_11_method_6_code 30 = .ok (.iastore, 1) := D_79 W_prog_11_method_6_code_0 30 rfl rfl
theorem d_11_6_31 : decode prog_11_method_6_code 31 = .ok (.aload_n 0, 1) := D_42 W_prog_11_method_6_code_0 31 rfl rfl
theorem W_prog_11_method_6_code_32 : chW prog_11_method_6_code 32 [180, 0, 33, 29, 42, 180, 0, 27, 29, 46, 79, 25, 4, 199, 0, 7, 2, 167, 0, 8, 25, 4, 182, 0, 102, 54, 5, 42, 180, 0, 36, 29, 25, 4, 198, 0] := chW_of (by decide +kernel)
theorem d_11_6_32 : decode prog_11_method_6_code 32 = .ok (.getfield 33, 3) := D_180 W_prog_11_method_6_code_32 0 rfl rfl rfl
theorem d_11_6_35 : decode prog_11_method_6_code 35 = .ok (.iload_n 3, 1) := D_29 W_prog_11_method_6_code_32 3 rfl rfl
theorem d_11_6_36 : decode prog_11_method_6_code 36 = .ok (.aload_n 0, 1) := D_42 W_prog_11_method_6_code_32 4 rfl rfl
theorem d_11_6_37 : decode prog_11_method_6_code 37 = .ok (.getfield 27, 3) := D_180 W_prog_11_method_6_code_32 5 rfl rfl rfl
theorem d_11_6_40 : decode prog_11_method_6_code 40 = .ok (.iload_n 3, 1) := D_29 W_prog_11_method_6_code_32 8 rfl rfl
theorem d_11_6_41 : decode prog_11_method_6_code 41 = .ok (.iaload, 1) := D_46 W_prog_11_method_6_code_32 9 rfl rfl
theorem d_11_6_42 : decode prog_11_method_6_code 42 = .ok (.iastore, 1) := D_79 W_prog_11_method_6_code_32 10 rfl rfl
theorem d_11_6_43 : decode prog_11_method_6_code 43 = .ok (.aload 4, 2) := D_25 W_prog_11_method_6_code_32 11 rfl rfl
theorem d_11_6_45 : decode prog_11_method_6_code 45 = .ok (.ifnonnull 7, 3) := D_199 W_prog_11_method_6_code_32 13 rfl rfl rfl
theorem d_11_6_52 : decode prog_11_method_6_code 52 = .ok (.aload 4, 2) := D_25 W_prog_11_method_6_code_32 20 rfl rfl
theorem d_11_6_54 : decode prog_11_method_6_code 54 = .ok (.invokevirtual 102, 3) := D_182 W_prog_11_method_6_code_32 22 rfl rfl rfl
theorem d_2_5_7 : decode prog_2_method_5_code 7 = .ok (.if_icmp .ge 18, 3) := D_162 W_prog_2_method_5_code_0 7 rfl rfl rfl
theorem d_2_5_25 : decode prog_2_method_5_code 25 = .ok (.return_, 1) := D_177 W_prog_2_method_5_code_0 25 rfl rfl
theorem d_2_5_10 : decode prog_2_method_5_code 10 = .ok (.aload_n 0, 1) := D_42 W_prog_2_method_5_code_0 10 rfl rfl
theorem d_2_5_11 : decode prog_2_method_5_code 11 = .ok (.aload_n 1, 1) := D_43 W_prog_2_method_5_code_0 11 rfl rfl
theorem d_2_5_12 : decode prog_2_method_5_code 12 = .ok (.iload_n 2, 1) := D_28 W_prog_2_method_5_code_0 12 rfl rfl
theorem d_2_5_13 : decode prog_2_method_5_code 13 = .ok (.invokevirtual 35, 3) := D_182 W_prog_2_method_5_code_0 13 rfl rfl rfl
theorem d_10_12_10 : decode prog_10_method_12_code 10 = .ok (.if_icmp .ge 23, 3) := D_162 W_prog_10_method_12_code_0 10 rfl rfl rfl
theorem W_prog_10_method_12_code_32 : chW prog_10_method_12_code 32 [231, 42, 180, 0, 27, 61, 42, 7, 182, 0, 54, 66, 33, 20, 0, 110, 148, 156, 0, 9, 42, 6, 28, 182, 0, 83, 42, 3, 3, 182, 0, 107, 42, 3, 4, 182] := chW_of (by decide +kernel)
theorem d_10_12_33 : decode prog_10_method_12_code 33 = .ok (.aload_n 0, 1) := D_42 W_prog_10_method_12_code_32 1 rfl rfl
theorem d_10_12_34 : decode prog_10_method_12_code 34 = .ok (.getfield 27, 3) := D_180 W_prog_10_method_12_code_32 2 rfl rfl rfl
theorem d_10_12_37 : decode prog_10_method_12_code 37 = .ok (.istore_n 2, 1) := D_61 W_prog_10_method_12_code_32 5 rfl rfl
theorem d_10_12_38 : decode prog_10_method_12_code 38 = .ok (.aload_n 0, 1) := D_42 W_prog_10_method_12_code_32 6 rfl rfl
theorem d_10_12_39 : decode prog_10_method_12_code 39 = .ok (.iconst 4, 1) := D_7 W_prog_10_method_12_code_32 7 rfl rfl
theorem d_10_12_40 : decode prog_10_method_12_code 40 = .ok (.invokevirtual 54, 3) := D_182 W_prog_10_method_12_code_32 8 rfl rfl rfl
theorem d_6_28_143 : decode prog_6_method_28_code 143 = .ok (.goto 22, 3) := D_167 W_prog_6_method_28_code_128 15 rfl rfl rfl
theorem d_6_28_165 : decode prog_6_method_28_code 165 = .ok (.istore 16, 2) := D_54 W_prog_6_method_28_code_160 5 rfl rfl
theorem d_6_28_167 : decode prog_6_method_28_code 167 = .ok (.iload 16, 2) := D_21 W_prog_6_method_28_code_160 7 rfl rfl
theorem d_6_28_169 : decode prog_6_method_28_code 169 = .ok (.ifCond .eq 16, 3) := D_153 W_prog_6_method_28_code_160 9 rfl rfl rfl
theorem d_6_28_172 : decode prog_6_method_28_code 172 = .ok (.aload 14, 2) := D_25 W_prog_6_method_28_code_160 12 rfl rfl
theorem d_6_28_174 : decode prog_6_method_28_code 174 = .ok (.invokevirtual 146, 3) := D_182 W_prog_6_method_28_code_160 14 rfl rfl rfl
theorem d_6_28_177 : decode prog_6_method_28_code 177 = .ok (.aload 15, 2) := D_25 W_prog_6_method_28_code_160 17 rfl rfl
theorem d_6_28_179 : decode prog_6_method_28_code 179 = .ok (.invokevirtual 146, 3) := D_182 W_prog_6_method_28_code_160 19 rfl rfl rfl
theorem d_6_28_182 : decode prog_6_method_28_code 182 = .ok (.if_icmp .eq 5, 3) := D_159 W_prog_6_method_28_code_160 22 rfl rfl rfl
theorem d_6_28_187 : decode prog_6_method_28_code 187 = .ok (.aload 12, 2) := D_25 W_prog_6_method_28_code_160 27 rfl rfl
theorem d_6_28_189 : decode prog_6_method_28_code 189 = .ok (.ifnonnull 19, 3) := D_199 W_prog_6_method_28_code_160 29 rfl rfl rfl
theorem W_prog_6_method_28_code_192 : chW prog_6_method_28_code 192 [25, 14, 182, 0, 146, 154, 0, 11, 25, 14, 58, 11, 25, 15, 58, 12, 25, 12, 198, 0, 58, 25, 11, 198, 0, 53, 25, 14, 182, 0, 146, 154, 0, 45, 25, 14] := chW_of (by decide +kernel)
theorem d_6_28_192 : decode prog_6_method_28_code 192 = .ok (.aload 14, 2) := D_25 W_prog_6_method_28_code_192 0 rfl rfl
theorem d_6_28_194 : decode prog_6_method_28_code 194 = .ok (.invokevirtual 146, 3) := D_182 W_prog_6_method_28_code_192 2 rfl rfl rfl
theorem d_6_28_197 : decode prog_6_method_28_code 197 = .ok (.ifCond .ne 11, 3) := D_154 W_prog_6_method_28_code_192 5 rfl rfl rfl
theorem d_6_28_200 : decode prog_6_method_28_code 200 = .ok (.aload 14, 2) := D_25 W_prog_6_method_28_code_192 8 rfl rfl
theorem d_6_28_202 : decode prog_6_method_28_code 202 = .ok (.astore 11, 2) := D_58 W_prog_6_method_28_code_192 10 rfl rfl
theorem d_6_28_204 : decode prog_6_method_28_code 204 = .ok (.aload 15, 2) := D_25 W_prog_6_method_28_code_192 12 rfl rfl
theorem d_6_28_206 : decode prog_6_method_28_code 206 = .ok (.astore 12, 2) := D_58 W_prog_6_method_28_code_192 14 rfl rfl
theorem d_6_28_185 : decode prog_6_method_28_code 185 = .ok (.iconst 0, 1) := D_3 W_prog_6_method_28_code_160 25 rfl rfl
theorem d_6_28_186 : decode prog_6_method_28_code 186 = .ok (.ireturn, 1) := D_172 W_prog_6_method_28_code_160 26 rfl rfl
theorem d_6_28_208 : decode prog_6_method_28_code 208 = .ok (.aload 12, 2) := D_25 W_prog_6_method_28_code_192 16 rfl rfl
theorem d_6_28_210 : decode prog_6_method_28_code 210 = .ok (.ifnull 58, 3) := D_198 W_prog_6_method_28_code_192 18 rfl rfl rfl
theorem d_6_28_213 : decode prog_6_method_28_code 213 = .ok (.aload 11, 2) := D_25 W_prog_6_method_28_code_192 21 rfl rfl
theorem d_6_28_215 : decode prog_6_method_28_code 215 = .ok (.ifnull 53, 3) := D_198 W_prog_6_method_28_code_192 23 rfl rfl rfl
theorem d_6_28_218 : decode prog_6_method_28_code 218 = .ok (.aload 14, 2) := D_25 W_prog_6_method_28_code_192 26 rfl rfl
theorem d_6_28_220 : decode prog_6_method_28_code 220 = .ok (.invokevirtual 146, 3) := D_182 W_prog_6_method_28_code_192 28 rfl rfl rfl
theorem d_6_28_223 : decode prog_6_method_28_code 223 = .ok (.ifCond .ne 45, 3) := D_154 W_prog_6_method_28_code_192 31 rfl rfl rfl
theorem W_prog_6_method_28_code_224 : chW prog_6_method_28_code 224 [0, 45, 25, 14, 182, 0, 227, 25, 11, 182, 0, 227, 100, 54, 17, 25, 15, 182, 0, 227, 25, 12, 182, 0, 227, 100, 21, 6, 153, 0, 9, 21, 17, 116, 167, 0] := chW_of (by decide +kernel)
theorem d_6_28_226 : decode prog_6_method_28_code 226 = .ok (.aload 14, 2) := D_25 W_prog_6_method_28_code_224 2 rfl rfl
theorem d_6_28_228 : decode prog_6_method_28_code 228 = .ok (.invokevirtual 227, 3) := D_182 W_prog_6_method_28_code_224 4 rfl rfl rfl
theorem d_10_12_43 : decode prog_10_method_12_code 43 = .ok (.lstore_n 3, 1) := D_66 W_prog_10_method_12_code_32 11 rfl rfl
theorem d_10_12_44 : decode prog_10_method_12_code 44 = .ok (.lload_n 3, 1) := D_33 W_prog_10_method_12_code_32 12 rfl rfl
theorem d_10_12_45 : decode prog_10_method_12_code 45 = .ok (.ldc2_w 110, 3) := D_20 W_prog_10_method_12_code_32 13 rfl rfl rfl
theorem d_10_12_48 : decode prog_10_method_12_code 48 = .ok (.lcmp, 1) := D_148 W_prog_10_method_12_code_32 16 rfl rfl
theorem d_10_12_49 : decode prog_10_method_12_code 49 = .ok (.ifCond .ge 9, 3) := D_156 W_prog_10_method_12_code_32 17 rfl rfl rfl
theorem d_10_12_52 : decode prog_10_method_12_code 52 = .ok (.aload_n 0, 1) := D_42 W_prog_10_method_12_code_32 20 rfl rfl
theorem d_10_12_53 : decode prog_10_method_12_code 53 = .ok (.iconst 3, 1) := D_6 W_prog_10_method_12_code_32 21 rfl rfl
theorem d_10_12_54 : decode prog_10_method_12_code 54 = .ok (.iload_n 2, 1) := D_28 W_prog_10_method_12_code_32 22 rfl rfl
theorem d_10_12_55 : decode prog_10_method_12_code 55 = .ok (.invokevirtual 83, 3) := D_182 W_prog_10_method_12_code_32 23 rfl rfl rfl
theorem d_10_12_13 : decode prog_10_method_12_code 13 = .ok (.aload_n 0, 1) := D_42 W_prog_10_method_12_code_0 13 rfl rfl
theorem d_10_12_14 : decode prog_10_method_12_code 14 = .ok (.aload_n 1, 1) := D_43 W_prog_10_method_12_code_0 14 rfl rfl
theorem d_10_12_15 : decode prog_10_method_12_code 15 = .ok (.iload_n 2, 1) := D_28 W_prog_10_method_12_code_0 15 rfl rfl
theorem d_10_12_16 : decode prog_10_method_12_code 16 = .ok (.invokevirtual 103, 3) := D_182 W_prog_10_method_12_code_0 16 rfl rfl rfl
theorem d_10_12_19 : decode prog_10_method_12_code 19 = .ok (.aload_n 1, 1) := D_43 W_prog_10_method_12_code_0 19 rfl rfl
theorem d_10_12_20 : decode prog_10_method_12_code 20 = .ok (.iload_n 2, 1) := D_28 W_prog_10_method_12_code_0 20 rfl rfl
theorem d_10_12_21 : decode prog_10_method_12_code 21 = .ok (.invokevirtual 103, 3) := D_182 W_prog_10_method_12_code_0 21 rfl rfl rfl
theorem d_10_12_24 : decode prog_10_method_12_code 24 = .ok (.invokevirtual 107, 3) := D_182 W_prog_10_method_12_code_0 24 rfl rfl rfl
theorem W_prog_11_method_15_code_64 : chW prog_11_method_15_code 64 [0, 171, 104, 16, 100, 42, 27, 7, 182, 0, 171, 104, 96, 42, 27, 16, 6, 182, 0, 171, 96, 61, 3, 62, 29, 178, 0, 174, 190, 162, 0, 24, 178, 0, 174, 29] := chW_of (by decide +kernel)
theorem d_11_15_66 : decode prog_11_method_15_code 66 = .ok (.imul, 1) := D_104 W_prog_11_method_15_code_64 2 rfl rfl
theorem d_11_15_67 : decode prog_11_method_15_code 67 = .ok (.bipush 100, 2) := D_16 W_prog_11_method_15_code_64 3 rfl rfl rfl
theorem d_11_15_69 : decode prog_11_method_15_code 69 = .ok (.aload_n 0, 1) := D_42 W_prog_11_method_15_code_64 5 rfl rfl
theorem d_11_15_70 : decode prog_11_method_15_code 70 = .ok (.iload_n 1, 1) := D_27 W_prog_11_method_15_code_64 6 rfl rfl
theorem d_11_15_71 : decode prog_11_method_15_code 71 = .ok (.iconst 4, 1) := D_7 W_prog_11_method_15_code_64 7 rfl rfl
theorem d_11_15_72 : decode prog_11_method_15_code 72 = .ok (.invokevirtual 171, 3) := D_182 W_prog_11_method_15_code_64 8 rfl rfl rfl
theorem d_11_15_75 : decode prog_11_method_15_code 75 = .ok (.imul, 1) := D_104 W_prog_11_method_15_code_64 11 rfl rfl
theorem d_11_15_76 : decode prog_11_method_15_code 76 = .ok (.iadd, 1) := D_96 W_prog_11_method_15_code_64 12 rfl rfl
theorem d_11_15_77 : decode prog_11_method_15_code 77 = .ok (.aload_n 0, 1) := D_42 W_prog_11_method_15_code_64 13 rfl rfl
theorem d_11_15_78 : decode prog_11_method_15_code 78 = .ok (.iload_n 1, 1) := D_27 W_prog_11_method_15_code_64 14 rfl rfl
theorem d_11_15_79 : decode prog_11_method_15_code 79 = .ok (.bipush 6, 2) := D_16 W_prog_11_method_15_code_64 15 rfl rfl rfl
theorem d_11_15_81 : decode prog_11_method_15_code 81 = .ok (.invokevirtual 171, 3) := D_182 W_prog_11_method_15_code_64 17 rfl rfl rfl
theorem d_11_15_84 : decode prog_11_method_15_code 84 = .ok (.iadd, 1) := D_96 W_prog_11_method_15_code_64 20 rfl rfl
theorem d_11_15_85 : decode prog_11_method_15_code 85 = .ok (.istore_n 2, 1) := D_61 W_prog_11_method_15_code_64 21 rfl rfl
theorem d_11_15_86 : decode prog_11_method_15_code 86 = .ok (.iconst 0, 1) := D_3 W_prog_11_method_15_code_64 22 rfl rfl
theorem d_11_15_87 : decode prog_11_method_15_code 87 = .ok (.istore_n 3, 1) := D_62 W_prog_11_method_15_code_64 23 rfl rfl
theorem d_11_15_55 : decode prog_11_method_15_code 55 = .ok (.iconst (-1), 1) := D_2 W_prog_11_method_15_code_32 23 rfl rfl
theorem d_11_15_56 : decode prog_11_method_15_code 56 = .ok (.ireturn, 1) := D_172 W_prog_11_method_15_code_32 24 rfl rfl
theorem d_11_15_8 : decode prog_11_method_15_code 8 = .ok (.iload_n 2, 1) := D_28 W_prog_11_method_15_code_0 8 rfl rfl
theorem d_11_15_9 : decode prog_11_method_15_code 9 = .ok (.iconst 2, 1) := D_5 W_prog_11_method_15_code_0 9 rfl rfl
theorem d_11_15_10 : decode prog_11_method_15_code 10 = .ok (.irem, 1) := D_112 W_prog_11_method_15_code_0 10 rfl rfl
theorem d_11_15_11 : decode prog_11_method_15_code 11 = .ok (.ifCond .ne 7, 3) := D_154 W_prog_11_method_15_code_0 11 rfl rfl rfl
theorem d_11_15_18 : decode prog_11_method_15_code 18 = .ok (.iconst 0, 1) := D_3 W_prog_11_method_15_code_0 18 rfl rfl
theorem d_11_15_14 : decode prog_11_method_15_code 14 = .ok (.iconst 1, 1) := D_4 W_prog_11_method_15_code_0 14 rfl rfl
theorem d_11_15_15 : decode prog_11_method_15_code 15 = .ok (.goto 4, 3) := D_167 W_prog_11_method_15_code_0 15 rfl rfl rfl
theorem d_11_15_19 : decode prog_11_method_15_code 19 = .ok (.istore_n 3, 1) := D_62 W_prog_11_method_15_code_0 19 rfl rfl
theorem d_11_15_20 : decode prog_11_method_15_code 20 = .ok (.aload_n 0, 1) := D_42 W_prog_11_method_15_code_0 20 rfl rfl
theorem d_11_15_21 : decode prog_11_method_15_code 21 = .ok (.getfield 40, 3) := D_180 W_prog_11_method_15_code_0 21 rfl rfl rfl
theorem d_11_15_24 : decode prog_11_method_15_code 24 = .ok (.iload_n 1, 1) := D_27 W_prog_11_method_15_code_0 24 rfl rfl
theorem d_11_15_25 : decode prog_11_method_15_code 25 = .ok (.iload_n 2, 1) := D_28 W_prog_11_method_15_code_0 25 rfl rfl
theorem d_11_15_26 : decode prog_11_method_15_code 26 = .ok (.iadd, 1) := D_96 W_prog_11_method_15_code_0 26 rfl rfl
theorem d_11_15_27 : decode prog_11_method_15_code 27 = .ok (.bipush 7, 2) := D_16 W_prog_11_method_15_code_0 27 rfl rfl rfl
theorem d_11_15_29 : decode prog_11_method_15_code 29 = .ok (.irem, 1) := D_112 W_prog_11_method_15_code_0 29 rfl rfl
theorem d_11_15_30 : decode prog_11_method_15_code 30 = .ok (.iaload, 1) := D_46 W_prog_11_method_15_code_0 30 rfl rfl
theorem d_11_15_31 : decode prog_11_method_15_code 31 = .ok (.invokestatic 142, 3) := D_184 W_prog_11_method_15_code_0 31 rfl rfl rfl
theorem d_11_15_34 : decode prog_11_method_15_code 34 = .ok (.iload_n 3, 1) := D_29 W_prog_11_method_15_code_32 2 rfl rfl
theorem d_11_15_35 : decode prog_11_method_15_code 35 = .ok (.if_icmp .le 5, 3) := D_164 W_prog_11_method_15_code_32 3 rfl rfl rfl
theorem d_11_15_40 : decode prog_11_method_15_code 40 = .ok (.iinc 2 1, 3) := D_132 W_prog_11_method_15_code_32 8 rfl rfl rfl
theorem d_11_15_43 : decode prog_11_method_15_code 43 = .ok (.goto (-41), 3) := D_167 W_prog_11_method_15_code_32 11 rfl rfl rfl
theorem d_11_15_38 : decode prog_11_method_15_code 38 = .ok (.iconst (-1), 1) := D_2 W_prog_11_method_15_code_32 6 rfl rfl
theorem d_11_15_39 : decode prog_11_method_15_code 39 = .ok (.ireturn, 1) := D_172 W_prog_11_method_15_code_32 7 rfl rfl
theorem d_11_15_88 : decode prog_11_method_15_code 88 = .ok (.iload_n 3, 1) := D_29 W_prog_11_method_15_code_64 24 rfl rfl
theorem d_11_15_89 : decode prog_11_method_15_code 89 = .ok (.getstatic 174, 3) := D_178 W_prog_11_method_15_code_64 25 rfl rfl rfl
theorem d_11_15_92 : decode prog_11_method_15_code 92 = .ok (.arraylength, 1) := D_190 W_prog_11_method_15_code_64 28 rfl rfl
theorem d_11_15_93 : decode prog_11_method_15_code 93 = .ok (.if_icmp .ge 24, 3) := D_162 W_prog_11_method_15_code_64 29 rfl rfl rfl
theorem W_prog_11_method_15_code_96 : chW prog_11_method_15_code 96 [178, 0, 174, 29, 46, 28, 160, 0, 9, 178, 0, 177, 29, 46, 172, 132, 3, 1, 167, 255, 230, 2, 172] := chW_of (by decide +kernel)
theorem d_11_15_117 : decode prog_11_method_15_code 117 = .ok (.iconst (-1), 1) := D_2 W_prog_11_method_15_code_96 21 rfl rfl
theorem d_11_15_118 : decode prog_11_method_15_code 118 = .ok (.ireturn, 1) := D_172 W_prog_11_method_15_code_96 22 rfl rfl
theorem d_11_15_96 : decode prog_11_method_15_code 96 = .ok (.getstatic 174, 3) := D_178 W_prog_11_method_15_code_96 0 rfl rfl rfl
theorem d_11_15_99 : decode prog_11_method_15_code 99 = .ok (.iload_n 3, 1) := D_29 W_prog_11_method_15_code_96 3 rfl rfl
theorem d_11_15_100 : decode prog_11_method_15_code 100 = .ok (.iaload, 1) := D_46 W_prog_11_method_15_code_96 4 rfl rfl
theorem d_11_15_101 : decode prog_11_method_15_code 101 = .ok (.iload_n 2, 1) := D_28 W_prog_11_method_15_code_96 5 rfl rfl
theorem d_11_15_102 : decode prog_11_method_15_code 102 = .ok (.if_icmp .ne 9, 3) := D_160 W_prog_11_method_15_code_96 6 rfl rfl rfl
theorem d_11_15_111 : decode prog_11_method_15_code 111 = .ok (.iinc 3 1, 3) := D_132 W_prog_11_method_15_code_96 15 rfl rfl rfl
theorem d_11_15_114 : decode prog_11_method_15_code 114 = .ok (.goto (-26), 3) := D_167 W_prog_11_method_15_code_96 18 rfl rfl rfl
theorem d_11_15_105 : decode prog_11_method_15_code 105 = .ok (.getstatic 177, 3) := D_178 W_prog_11_method_15_code_96 9 rfl rfl rfl
theorem d_11_15_108 : decode prog_11_method_15_code 108 = .ok (.iload_n 3, 1) := D_29 W_prog_11_method_15_code_96 12 rfl rfl
theorem d_11_15_109 : decode prog_11_method_15_code 109 = .ok (.iaload, 1) := D_46 W_prog_11_method_15_code_96 13 rfl rfl
theorem d_11_15_110 : decode prog_11_method_15_code 110 = .ok (.ireturn, 1) := D_172 W_prog_11_method_15_code_96 14 rfl rfl
theorem d_3_9_4 : decode prog_3_method_9_code 4 = .ok (.istore_n 1, 1) := D_60 W_prog_3_method_9_code_0 4 rfl rfl
theorem d_3_9_5 : decode prog_3_method_9_code 5 = .ok (.iload_n 1, 1) := D_27 W_prog_3_method_9_code_0 5 rfl rfl
theorem d_3_9_6 : decode prog_3_method_9_code 6 = .ok (.iconst (-1), 1) := D_2 W_prog_3_method_9_code_0 6 rfl rfl
theorem d_3_9_7 : decode prog_3_method_9_code 7 = .ok (.if_icmp .ne 7, 3) := D_160 W_prog_3_method_9_code_0 7 rfl rfl rfl
theorem d_3_9_14 : decode prog_3_method_9_code 14 = .ok (.aload_n 0, 1) := D_42 W_prog_3_method_9_code_0 14 rfl rfl
theorem d_3_9_15 : decode prog_3_method_9_code 15 = .ok (.getfield 9, 3) := D_180 W_prog_3_method_9_code_0 15 rfl rfl rfl
theorem d_3_9_18 : decode prog_3_method_9_code 18 = .ok (.iload_n 1, 1) := D_27 W_prog_3_method_9_code_0 18 rfl rfl
theorem d_3_9_19 : decode prog_3_method_9_code 19 = .ok (.iaload, 1) := D_46 W_prog_3_method_9_code_0 19 rfl rfl
theorem d_3_9_10 : decode prog_3_method_9_code 10 = .ok (.iconst 0, 1) := D_3 W_prog_3_method_9_code_0 10 rfl rfl
theorem d_3_9_11 : decode prog_3_method_9_code 11 = .ok (.goto 9, 3) := D_167 W_prog_3_method_9_code_0 11 rfl rfl rfl
theorem d_3_9_20 : decode prog_3_method_9_code 20 = .ok (.ireturn, 1) := D_172 W_prog_3_method_9_code_0 20 rfl rfl
theorem d_6_28_231 : decode prog_6_method_28_code 231 = .ok (.aload 11, 2) := D_25 W_prog_6_method_28_code_224 7 rfl rfl
theorem d_6_28_233 : decode prog_6_method_28_code 233 = .ok (.invokevirtual 227, 3) := D_182 W_prog_6_method_28_code_224 9 rfl rfl rfl
theorem d_6_28_236 : decode prog_6_method_28_code 236 = .ok (.isub, 1) := D_100 W_prog_6_method_28_code_224 12 rfl rfl
theorem d_6_28_237 : decode prog_6_method_28_code 237 = .ok (.istore 17, 2) := D_54 W_prog_6_method_28_code_224 13 rfl rfl
theorem d_6_28_239 : decode prog_6_method_28_code 239 = .ok (.aload 15, 2) := D_25 W_prog_6_method_28_code_224 15 rfl rfl
theorem d_6_28_241 : decode prog_6_method_28_code 241 = .ok (.invokevirtual 227, 3) := D_182 W_prog_6_method_28_code_224 17 rfl rfl rfl
theorem d_6_28_244 : decode prog_6_method_28_code 244 = .ok (.aload 12, 2) := D_25 W_prog_6_method_28_code_224 20 rfl rfl
theorem d_6_28_246 : decode prog_6_method_28_code 246 = .ok (.invokevirtual 227, 3) := D_182 W_prog_6_method_28_code_224 22 rfl rfl rfl
theorem d_6_28_249 : decode prog_6_method_28_code 249 = .ok (.isub, 1) := D_100 W_prog_6_method_28_code_224 25 rfl rfl
theorem d_6_28_250 : decode prog_6_method_28_code 250 = .ok (.iload 6, 2) := D_21 W_prog_6_method_28_code_224 26 rfl rfl
theorem d_6_28_252 : decode prog_6_method_28_code 252 = .ok (.ifCond .eq 9, 3) := D_153 W_prog_6_method_28_code_224 28 rfl rfl rfl
theorem d_6_28_261 : decode prog_6_method_28_code 261 = .ok (.iload 17, 2) := D_21 W_prog_6_method_28_code_256 5 rfl rfl
theorem d_6_28_255 : decode prog_6_method_28_code 255 = .ok (.iload 17, 2) := D_21 W_prog_6_method_28_code_224 31 rfl rfl
theorem d_6_28_257 : decode prog_6_method_28_code 257 = .ok (.ineg, 1) := D_116 W_prog_6_method_28_code_256 1 rfl rfl
theorem d_6_28_258 : decode prog_6_method_28_code 258 = .ok (.goto 5, 3) := D_167 W_prog_6_method_28_code_256 2 rfl rfl rfl
theorem d_6_28_263 : decode prog_6_method_28_code 263 = .ok (.if_icmp .eq 5, 3) := D_159 W_prog_6_method_28_code_256 7 rfl rfl rfl
theorem d_6_28_266 : decode prog_6_method_28_code 266 = .ok (.iconst 0, 1) := D_3 W_prog_6_method_28_code_256 10 rfl rfl
theorem d_6_28_267 : decode prog_6_method_28_code 267 = .ok (.ireturn, 1) := D_172 W_prog_6_method_28_code_256 11 rfl rfl
theorem d_6_28_268 : decode prog_6_method_28_code 268 = .ok (.iinc 13 1, 3) := D_132 W_prog_6_method_28_code_256 12 rfl rfl rfl
theorem d_6_28_271 : decode prog_6_method_28_code 271 = .ok (.goto (-190), 3) := D_167 W_prog_6_method_28_code_256 15 rfl rfl rfl
theorem d_21_79_6 : decode prog_21_method_79_code 6 = .ok (.ireturn, 1) := D_172 W_prog_21_method_79_code_0 6 rfl rfl
theorem d_5_27_38 : decode prog_5_method_27_code 38 = .ok (.istore_n 3, 1) := D_62 W_prog_5_method_27_code_32 6 rfl rfl
theorem d_5_27_39 : decode prog_5_method_27_code 39 = .ok (.iload_n 3, 1) := D_29 W_prog_5_method_27_code_32 7 rfl rfl
theorem d_5_27_40 : decode prog_5_method_27_code 40 = .ok (.ifCond .lt 16, 3) := D_155 W_prog_5_method_27_code_32 8 rfl rfl rfl
theorem d_5_27_43 : decode prog_5_method_27_code 43 = .ok (.aload_n 0, 1) := D_42 W_prog_5_method_27_code_32 11 rfl rfl
theorem d_5_27_44 : decode prog_5_method_27_code 44 = .ok (.getfield 33, 3) := D_180 W_prog_5_method_27_code_32 12 rfl rfl rfl
theorem d_5_27_47 : decode prog_5_method_27_code 47 = .ok (.iload_n 1, 1) := D_27 W_prog_5_method_27_code_32 15 rfl rfl
theorem d_5_27_48 : decode prog_5_method_27_code 48 = .ok (.iaload, 1) := D_46 W_prog_5_method_27_code_32 16 rfl rfl
theorem d_5_27_49 : decode prog_5_method_27_code 49 = .ok (.iload_n 3, 1) := D_29 W_prog_5_method_27_code_32 17 rfl rfl
theorem d_5_27_50 : decode prog_5_method_27_code 50 = .ok (.ishr, 1) := D_122 W_prog_5_method_27_code_32 18 rfl rfl
theorem d_5_27_51 : decode prog_5_method_27_code 51 = .ok (.iconst 1, 1) := D_4 W_prog_5_method_27_code_32 19 rfl rfl
theorem d_5_27_52 : decode prog_5_method_27_code 52 = .ok (.iand, 1) := D_126 W_prog_5_method_27_code_32 20 rfl rfl
theorem d_5_27_53 : decode prog_5_method_27_code 53 = .ok (.ifCond .eq 4, 3) := D_153 W_prog_5_method_27_code_32 21 rfl rfl rfl
theorem d_5_27_57 : decode prog_5_method_27_code 57 = .ok (.aload_n 0, 1) := D_42 W_prog_5_method_27_code_32 25 rfl rfl
theorem d_5_27_58 : decode prog_5_method_27_code 58 = .ok (.getfield 33, 3) := D_180 W_prog_5_method_27_code_32 26 rfl rfl rfl
theorem d_5_27_61 : decode prog_5_method_27_code 61 = .ok (.iload_n 1, 1) := D_27 W_prog_5_method_27_code_32 29 rfl rfl
theorem d_5_27_62 : decode prog_5_method_27_code 62 = .ok (.dup2, 1) := D_92 W_prog_5_method_27_code_32 30 rfl rfl
theorem d_5_27_63 : decode prog_5_method_27_code 63 = .ok (.iaload, 1) := D_46 W_prog_5_method_27_code_32 31 rfl rfl
theorem W_prog_5_method_27_code_64 : chW prog_5_method_27_code 64 [4, 29, 120, 128, 79, 42, 180, 0, 48, 182, 0, 122, 132, 2, 1, 167, 255, 179, 177] := chW_of (by decide +kernel)
theorem d_5_27_64 : decode prog_5_method_27_code 64 = .ok (.iconst 1, 1) := D_4 W_prog_5_method_27_code_64 0 rfl rfl
theorem d_5_27_65 : decode prog_5_method_27_code 65 = .ok (.iload_n 3, 1) := D_29 W_prog_5_method_27_code_64 1 rfl rfl
theorem d_5_27_66 : decode prog_5_method_27_code 66 = .ok (.ishl, 1) := D_120 W_prog_5_method_27_code_64 2 rfl rfl
theorem d_5_27_67 : decode prog_5_method_27_code 67 = .ok (.ior, 1) := D_128 W_prog_5_method_27_code_64 3 rfl rfl
theorem d_5_27_68 : decode prog_5_method_27_code 68 = .ok (.iastore, 1) := D_79 W_prog_5_method_27_code_64 4 rfl rfl
theorem d_5_27_69 : decode prog_5_method_27_code 69 = .ok (.aload_n 0, 1) := D_42 W_prog_5_method_27_code_64 5 rfl rfl
theorem d_5_27_70 : decode prog_5_method_27_code 70 = .ok (.getfield 48, 3) := D_180 W_prog_5_method_27_code_64 6 rfl rfl rfl
theorem d_5_27_73 : decode prog_5_method_27_code 73 = .ok (.invokevirtual 122, 3) := D_182 W_prog_5_method_27_code_64 9 rfl rfl rfl
theorem d_5_27_76 : decode prog_5_method_27_code 76 = .ok (.iinc 2 1, 3) := D_132 W_prog_5_method_27_code_64 12 rfl rfl rfl
theorem d_5_27_79 : decode prog_5_method_27_code 79 = .ok (.goto (-77), 3) := D_167 W_prog_5_method_27_code_64 15 rfl rfl rfl
theorem d_5_27_56 : decode prog_5_method_27_code 56 = .ok (.return_, 1) := D_177 W_prog_5_method_27_code_32 24 rfl rfl
theorem d_5_27_82 : decode prog_5_method_27_code 82 = .ok (.return_, 1) := D_177 W_prog_5_method_27_code_64 18 rfl rfl
theorem d_6_10_108 : decode prog_6_method_10_code 108 = .ok (.goto 57, 3) := D_167 W_prog_6_method_10_code_96 12 rfl rfl rfl
theorem W_prog_6_method_10_code_160 : chW prog_6_method_10_code 160 [9, 101, 182, 0, 154, 22, 15, 55, 9, 132, 13, 1, 167, 255, 102, 177] := chW_of (by decide +kernel)
theorem d_6_10_165 : decode prog_6_method_10_code 165 = .ok (.lload 15, 2) := D_22 W_prog_6_method_10_code_160 5 rfl rfl
theorem d_6_10_167 : decode prog_6_method_10_code 167 = .ok (.lstore 9, 2) := D_55 W_prog_6_method_10_code_160 7 rfl rfl
theorem d_6_10_169 : decode prog_6_method_10_code 169 = .ok (.iinc 13 1, 3) := D_132 W_prog_6_method_10_code_160 9 rfl rfl rfl
theorem d_6_10_172 : decode prog_6_method_10_code 172 = .ok (.goto (-154), 3) := D_167 W_prog_6_method_10_code_160 12 rfl rfl rfl
theorem W_prog_6_method_10_code_128 : chW prog_6_method_10_code 128 [22, 15, 22, 9, 101, 22, 7, 148, 154, 0, 16, 42, 28, 21, 14, 9, 16, 29, 182, 0, 150, 167, 0, 16, 42, 43, 28, 22, 9, 22, 15, 22, 9, 101, 182, 0] := chW_of (by decide +kernel)
theorem d_6_10_128 : decode prog_6_method_10_code 128 = .ok (.lload 15, 2) := D_22 W_prog_6_method_10_code_128 0 rfl rfl
theorem d_6_10_130 : decode prog_6_method_10_code 130 = .ok (.lload 9, 2) := D_22 W_prog_6_method_10_code_128 2 rfl rfl
theorem d_6_10_132 : decode prog_6_method_10_code 132 = .ok (.lsub, 1) := D_101 W_prog_6_method_10_code_128 4 rfl rfl
theorem d_6_10_133 : decode prog_6_method_10_code 133 = .ok (.lload 7, 2) := D_22 W_prog_6_method_10_code_128 5 rfl rfl
theorem d_6_10_135 : decode prog_6_method_10_code 135 = .ok (.lcmp, 1) := D_148 W_prog_6_method_10_code_128 7 rfl rfl
theorem d_6_10_136 : decode prog_6_method_10_code 136 = .ok (.ifCond .ne 16, 3) := D_154 W_prog_6_method_10_code_128 8 rfl rfl rfl
theorem d_6_10_139 : decode prog_6_method_10_code 139 = .ok (.aload_n 0, 1) := D_42 W_prog_6_method_10_code_128 11 rfl rfl
theorem d_6_10_140 : decode prog_6_method_10_code 140 = .ok (.iload_n 2, 1) := D_28 W_prog_6_method_10_code_128 12 rfl rfl
theorem d_6_10_141 : decode prog_6_method_10_code 141 = .ok (.iload 14, 2) := D_21 W_prog_6_method_10_code_128 13 rfl rfl
theorem d_6_10_143 : decode prog_6_method_10_code 143 = .ok (.lconst 0, 1) := D_9 W_prog_6_method_10_code_128 15 rfl rfl
theorem d_6_10_144 : decode prog_6_method_10_code 144 = .ok (.bipush 29, 2) := D_16 W_prog_6_method_10_code_128 16 rfl rfl rfl
theorem d_6_10_146 : decode prog_6_method_10_code 146 = .ok (.invokevirtual 150, 3) := D_182 W_prog_6_method_10_code_128 18 rfl rfl rfl
theorem d_6_10_149 : decode prog_6_method_10_code 149 = .ok (.goto 16, 3) := D_167 W_prog_6_method_10_code_128 21 rfl rfl rfl
theorem d_6_10_152 : decode prog_6_method_10_code 152 = .ok (.aload_n 0, 1) := D_42 W_prog_6_method_10_code_128 24 rfl rfl
theorem d_6_10_153 : decode prog_6_method_10_code 153 = .ok (.aload_n 1, 1) := D_43 W_prog_6_method_10_code_128 25 rfl rfl
theorem d_6_10_154 : decode prog_6_method_10_code 154 = .ok (.iload_n 2, 1) := D_28 W_prog_6_method_10_code_128 26 rfl rfl
theorem d_6_10_155 : decode prog_6_method_10_code 155 = .ok (.lload 9, 2) := D_22 W_prog_6_method_10_code_128 27 rfl rfl
theorem d_6_10_157 : decode prog_6_method_10_code 157 = .ok (.lload 15, 2) := D_22 W_prog_6_method_10_code_128 29 rfl rfl
theorem d_6_10_159 : decode prog_6_method_10_code 159 = .ok (.lload 9, 2) := D_22 W_prog_6_method_10_code_128 31 rfl rfl
theorem d_6_10_161 : decode prog_6_method_10_code 161 = .ok (.lsub, 1) := D_101 W_prog_6_method_10_code_160 1 rfl rfl
theorem d_6_10_162 : decode prog_6_method_10_code 162 = .ok (.invokevirtual 154, 3) := D_182 W_prog_6_method_10_code_160 2 rfl rfl rfl
theorem d_6_10_84 : decode prog_6_method_10_code 84 = .ok (.iconst 0, 1) := D_3 W_prog_6_method_10_code_64 20 rfl rfl
theorem d_6_10_175 : decode prog_6_method_10_code 175 = .ok (.return_, 1) := D_177 W_prog_6_method_10_code_160 15 rfl rfl
theorem d_11_6_48 : decode prog_11_method_6_code 48 = .ok (.iconst (-1), 1) := D_2 W_prog_11_method_6_code_32 16 rfl rfl
theorem d_11_6_49 : decode prog_11_method_6_code 49 = .ok (.goto 8, 3) := D_167 W_prog_11_method_6_code_32 17 rfl rfl rfl
theorem d_11_6_57 : decode prog_11_method_6_code 57 = .ok (.istore 5, 2) := D_54 W_prog_11_method_6_code_32 25 rfl rfl
theorem d_11_6_59 : decode prog_11_method_6_code 59 = .ok (.aload_n 0, 1) := D_42 W_prog_11_method_6_code_32 27 rfl rfl
theorem d_11_6_60 : decode prog_11_method_6_code 60 = .ok (.getfield 36, 3) := D_180 W_prog_11_method_6_code_32 28 rfl rfl rfl
theorem d_11_6_63 : decode prog_11_method_6_code 63 = .ok (.iload_n 3, 1) := D_29 W_prog_11_method_6_code_32 31 rfl rfl
theorem W_prog_11_method_6_code_64 : chW prog_11_method_6_code 64 [25, 4, 198, 0, 22, 25, 4, 180, 0, 90, 42, 180, 0, 9, 28, 47, 148, 154, 0, 7, 4, 167, 0, 4, 3, 84, 42, 180, 0, 23, 29, 21, 5, 2, 160, 0] := chW_of (by decide +kernel)
theorem d_11_6_64 : decode prog_11_method_6_code 64 = .ok (.aload 4, 2) := D_25 W_prog_11_method_6_code_64 0 rfl rfl
theorem d_11_6_66 : decode prog_11_method_6_code 66 = .ok (.ifnull 22, 3) := D_198 W_prog_11_method_6_code_64 2 rfl rfl rfl
theorem d_11_6_69 : decode prog_11_method_6_code 69 = .ok (.aload 4, 2) := D_25 W_prog_11_method_6_code_64 5 rfl rfl
theorem d_11_6_71 : decode prog_11_method_6_code 71 = .ok (.getfield 90, 3) := D_180 W_prog_11_method_6_code_64 7 rfl rfl rfl
theorem d_11_6_74 : decode prog_11_method_6_code 74 = .ok (.aload_n 0, 1) := D_42 W_prog_11_method_6_code_64 10 rfl rfl
theorem d_11_6_75 : decode prog_11_method_6_code 75 = .ok (.getfield 9, 3) := D_180 W_prog_11_method_6_code_64 11 rfl rfl rfl
theorem d_11_6_78 : decode prog_11_method_6_code 78 = .ok (.iload_n 2, 1) := D_28 W_prog_11_method_6_code_64 14 rfl rfl
theorem d_11_6_79 : decode prog_11_method_6_code 79 = .ok (.laload, 1) := D_47 W_prog_11_method_6_code_64 15 rfl rfl
theorem d_11_6_80 : decode prog_11_method_6_code 80 = .ok (.lcmp, 1) := D_148 W_prog_11_method_6_code_64 16 rfl rfl
theorem d_11_6_81 : decode prog_11_method_6_code 81 = .ok (.ifCond .ne 7, 3) := D_154 W_prog_11_method_6_code_64 17 rfl rfl rfl
theorem d_11_6_84 : decode prog_11_method_6_code 84 = .ok (.iconst 1, 1) := D_4 W_prog_11_method_6_code_64 20 rfl rfl
theorem d_11_6_85 : decode prog_11_method_6_code 85 = .ok (.goto 4, 3) := D_167 W_prog_11_method_6_code_64 21 rfl rfl rfl
theorem d_11_6_89 : decode prog_11_method_6_code 89 = .ok (.bastore, 1) := D_84 W_prog_11_method_6_code_64 25 rfl rfl
theorem d_11_6_90 : decode prog_11_method_6_code 90 = .ok (.aload_n 0, 1) := D_42 W_prog_11_method_6_code_64 26 rfl rfl
theorem d_11_6_91 : decode prog_11_method_6_code 91 = .ok (.getfield 23, 3) := D_180 W_prog_11_method_6_code_64 27 rfl rfl rfl
theorem d_11_6_94 : decode prog_11_method_6_code 94 = .ok (.iload_n 3, 1) := D_29 W_prog_11_method_6_code_64 30 rfl rfl
theorem d_11_6_95 : decode prog_11_method_6_code 95 = .ok (.iload 5, 2) := D_21 W_prog_11_method_6_code_64 31 rfl rfl
theorem W_prog_11_method_6_code_96 : chW prog_11_method_6_code 96 [5, 2, 160, 0, 7, 2, 167, 0, 11, 25, 4, 180, 0, 106, 21, 5, 46, 79, 42, 180, 0, 27, 29, 21, 5, 2, 160, 0, 7, 2, 167, 0, 10, 25, 4, 21] := chW_of (by decide +kernel)
theorem d_11_6_97 : decode prog_11_method_6_code 97 = .ok (.iconst (-1), 1) := D_2 W_prog_11_method_6_code_96 1 rfl rfl
theorem d_11_6_98 : decode prog_11_method_6_code 98 = .ok (.if_icmp .ne 7, 3) := D_160 W_prog_11_method_6_code_96 2 rfl rfl rfl
theorem d_11_6_105 : decode prog_11_method_6_code 105 = .ok (.aload 4, 2) := D_25 W_prog_11_method_6_code_96 9 rfl rfl
theorem d_11_6_107 : decode prog_11_method_6_code 107 = .ok (.getfield 106, 3) := D_180 W_prog_11_method_6_code_96 11 rfl rfl rfl
theorem d_11_6_110 : decode prog_11_method_6_code 110 = .ok (.iload 5, 2) := D_21 W_prog_11_method_6_code_96 14 rfl rfl
theorem d_11_6_112 : decode prog_11_method_6_code 112 = .ok (.iaload, 1) := D_46 W_prog_11_method_6_code_96 16 rfl rfl
theorem d_11_6_101 : decode prog_11_method_6_code 101 = .ok (.iconst (-1), 1) := D_2 W_prog_11_method_6_code_96 5 rfl rfl
theorem d_11_6_102 : decode prog_11_method_6_code 102 = .ok (.goto 11, 3) := D_167 W_prog_11_method_6_code_96 6 rfl rfl rfl
theorem d_11_6_113 : decode prog_11_method_6_code 113 = .ok (.iastore, 1) := D_79 W_prog_11_method_6_code_96 17 rfl rfl
theorem d_11_6_114 : decode prog_11_method_6_code 114 = .ok (.aload_n 0, 1) := D_42 W_prog_11_method_6_code_96 18 rfl rfl
theorem d_11_6_115 : decode prog_11_method_6_code 115 = .ok (.getfield 27, 3) := D_180 W_prog_11_method_6_code_96 19 rfl rfl rfl
theorem d_11_6_118 : decode prog_11_method_6_code 118 = .ok (.iload_n 3, 1) := D_29 W_prog_11_method_6_code_96 22 rfl rfl
theorem d_11_6_119 : decode prog_11_method_6_code 119 = .ok (.iload 5, 2) := D_21 W_prog_11_method_6_code_96 23 rfl rfl
theorem d_11_6_121 : decode prog_11_method_6_code 121 = .ok (.iconst (-1), 1) := D_2 W_prog_11_method_6_code_96 25 rfl rfl
theorem d_11_6_122 : decode prog_11_method_6_code 122 = .ok (.if_icmp .ne 7, 3) := D_160 W_prog_11_method_6_code_96 26 rfl rfl rfl
theorem d_11_6_129 : decode prog_11_method_6_code 129 = .ok (.aload 4, 2) := D_25 W_prog_11_method_6_code_128 1 rfl rfl
theorem d_11_6_131 : decode prog_11_method_6_code 131 = .ok (.iload 5, 2) := D_21 W_prog_11_method_6_code_128 3 rfl rfl
theorem d_11_6_133 : decode prog_11_method_6_code 133 = .ok (.invokevirtual 107, 3) := D_182 W_prog_11_method_6_code_128 5 rfl rfl rfl
theorem d_11_6_125 : decode prog_11_method_6_code 125 = .ok (.iconst (-1), 1) := D_2 W_prog_11_method_6_code_96 29 rfl rfl
theorem d_11_6_126 : decode prog_11_method_6_code 126 = .ok (.goto 10, 3) := D_167 W_prog_11_method_6_code_96 30 rfl rfl rfl
theorem d_11_6_136 : decode prog_11_method_6_code 136 = .ok (.iastore, 1) := D_79 W_prog_11_method_6_code_128 8 rfl rfl
theorem d_11_6_137 : decode prog_11_method_6_code 137 = .ok (.iinc 3 1, 3) := D_132 W_prog_11_method_6_code_128 9 rfl rfl rfl
theorem d_11_6_140 : decode prog_11_method_6_code 140 = .ok (.goto (-138), 3) := D_167 W_prog_11_method_6_code_128 12 rfl rfl rfl
theorem d_11_6_88 : decode prog_11_method_6_code 88 = .ok (.iconst 0, 1) := D_3 W_prog_11_method_6_code_64 24 rfl rfl
theorem d_7_2_57 : decode prog_7_method_2_code 57 = .ok (.ifCond .eq 14, 3) := D_153 W_prog_7_method_2_code_32 25 rfl rfl rfl
theorem d_7_2_71 : decode prog_7_method_2_code 71 = .ok (.aload_n 0, 1) := D_42 W_prog_7_method_2_code_64 7 rfl rfl
theorem d_7_2_72 : decode prog_7_method_2_code 72 = .ok (.aload_n 3, 1) := D_45 W_prog_7_method_2_code_64 8 rfl rfl
theorem d_7_2_73 : decode prog_7_method_2_code 73 = .ok (.iload_n 2, 1) := D_28 W_prog_7_method_2_code_64 9 rfl rfl
theorem d_7_2_74 : decode prog_7_method_2_code 74 = .ok (.iload 4, 2) := D_21 W_prog_7_method_2_code_64 10 rfl rfl
theorem d_7_2_76 : decode prog_7_method_2_code 76 = .ok (.invokevirtual 69, 3) := D_182 W_prog_7_method_2_code_64 12 rfl rfl rfl
theorem d_7_2_60 : decode prog_7_method_2_code 60 = .ok (.aload_n 0, 1) := D_42 W_prog_7_method_2_code_32 28 rfl rfl
theorem d_7_2_61 : decode prog_7_method_2_code 61 = .ok (.aload_n 1, 1) := D_43 W_prog_7_method_2_code_32 29 rfl rfl
theorem d_7_2_62 : decode prog_7_method_2_code 62 = .ok (.iload_n 2, 1) := D_28 W_prog_7_method_2_code_32 30 rfl rfl
theorem d_7_2_63 : decode prog_7_method_2_code 63 = .ok (.iload 4, 2) := D_21 W_prog_7_method_2_code_32 31 rfl rfl
theorem d_7_2_65 : decode prog_7_method_2_code 65 = .ok (.invokevirtual 65, 3) := D_182 W_prog_7_method_2_code_64 1 rfl rfl rfl
theorem d_7_2_68 : decode prog_7_method_2_code 68 = .ok (.goto 11, 3) := D_167 W_prog_7_method_2_code_64 4 rfl rfl rfl
theorem d_7_2_79 : decode prog_7_method_2_code 79 = .ok (.iinc 4 1, 3) := D_132 W_prog_7_method_2_code_64 15 rfl rfl rfl
theorem d_7_2_82 : decode prog_7_method_2_code 82 = .ok (.goto (-47), 3) := D_167 W_prog_7_method_2_code_64 18 rfl rfl rfl
theorem d_7_2_85 : decode prog_7_method_2_code 85 = .ok (.iinc 2 1, 3) := D_132 W_prog_7_method_2_code_64 21 rfl rfl rfl
theorem d_7_2_88 : decode prog_7_method_2_code 88 = .ok (.goto (-71), 3) := D_167 W_prog_7_method_2_code_64 24 rfl rfl rfl
theorem d_4_3_59 : decode prog_4_method_3_code 59 = .ok (.ifCond .eq 19, 3) := D_153 W_prog_4_method_3_code_32 27 rfl rfl rfl
theorem d_4_3_62 : decode prog_4_method_3_code 62 = .ok (.aload_n 0, 1) := D_42 W_prog_4_method_3_code_32 30 rfl rfl
theorem d_4_3_63 : decode prog_4_method_3_code 63 = .ok (.dup, 1) := D_89 W_prog_4_method_3_code_32 31 rfl rfl
theorem W_prog_4_method_3_code_64 : chW prog_4_method_3_code 64 [180, 0, 76, 4, 96, 181, 0, 76, 132, 4, 1, 167, 255, 226, 42, 42, 180, 0, 22, 29, 46, 43, 182, 0, 83, 182, 0, 87, 42, 180, 0, 25, 29, 16, 6, 79] := chW_of (by decide +kernel)
theorem d_4_3_64 : decode prog_4_method_3_code 64 = .ok (.getfield 76, 3) := D_180 W_prog_4_method_3_code_64 0 rfl rfl rfl
theorem d_4_3_67 : decode prog_4_method_3_code 67 = .ok (.iconst 1, 1) := D_4 W_prog_4_method_3_code_64 3 rfl rfl
theorem d_4_3_68 : decode prog_4_method_3_code 68 = .ok (.iadd, 1) := D_96 W_prog_4_method_3_code_64 4 rfl rfl
theorem d_4_3_69 : decode prog_4_method_3_code 69 = .ok (.putfield 76, 3) := D_181 W_prog_4_method_3_code_64 5 rfl rfl rfl
theorem d_4_3_72 : decode prog_4_method_3_code 72 = .ok (.iinc 4 1, 3) := D_132 W_prog_4_method_3_code_64 8 rfl rfl rfl
theorem d_4_3_75 : decode prog_4_method_3_code 75 = .ok (.goto (-30), 3) := D_167 W_prog_4_method_3_code_64 11 rfl rfl rfl
theorem d_4_3_78 : decode prog_4_method_3_code 78 = .ok (.aload_n 0, 1) := D_42 W_prog_4_method_3_code_64 14 rfl rfl
theorem d_4_3_79 : decode prog_4_method_3_code 79 = .ok (.aload_n 0, 1) := D_42 W_prog_4_method_3_code_64 15 rfl rfl
theorem d_4_3_80 : decode prog_4_method_3_code 80 = .ok (.getfield 22, 3) := D_180 W_prog_4_method_3_code_64 16 rfl rfl rfl
theorem d_4_3_83 : decode prog_4_method_3_code 83 = .ok (.iload_n 3, 1) := D_29 W_prog_4_method_3_code_64 19 rfl rfl
theorem d_4_3_84 : decode prog_4_method_3_code 84 = .ok (.iaload, 1) := D_46 W_prog_4_method_3_code_64 20 rfl rfl
theorem d_4_3_85 : decode prog_4_method_3_code 85 = .ok (.aload_n 1, 1) := D_43 W_prog_4_method_3_code_64 21 rfl rfl
theorem d_4_3_86 : decode prog_4_method_3_code 86 = .ok (.invokevirtual 83, 3) := D_182 W_prog_4_method_3_code_64 22 rfl rfl rfl
theorem d_4_3_89 : decode prog_4_method_3_code 89 = .ok (.invokevirtual 87, 3) := D_182 W_prog_4_method_3_code_64 25 rfl rfl rfl
theorem d_4_3_92 : decode prog_4_method_3_code 92 = .ok (.aload_n 0, 1) := D_42 W_prog_4_method_3_code_64 28 rfl rfl
theorem d_4_3_93 : decode prog_4_method_3_code 93 = .ok (.getfield 25, 3) := D_180 W_prog_4_method_3_code_64 29 rfl rfl rfl
theorem W_prog_4_method_3_code_96 : chW prog_4_method_3_code 96 [29, 16, 6, 79, 42, 180, 0, 22, 29, 46, 54, 4, 21, 4, 42, 180, 0, 76, 162, 0, 25, 42, 180, 0, 25, 29, 92, 46, 42, 180, 0, 15, 21, 4, 46, 96] := chW_of (by decide +kernel)
theorem d_4_3_96 : decode prog_4_method_3_code 96 = .ok (.iload_n 3, 1) := D_29 W_prog_4_method_3_code_96 0 rfl rfl
theorem d_4_3_97 : decode prog_4_method_3_code 97 = .ok (.bipush 6, 2) := D_16 W_prog_4_method_3_code_96 1 rfl rfl rfl
theorem d_4_3_99 : decode prog_4_method_3_code 99 = .ok (.iastore, 1) := D_79 W_prog_4_method_3_code_96 3 rfl rfl
theorem d_4_3_100 : decode prog_4_method_3_code 100 = .ok (.aload_n 0, 1) := D_42 W_prog_4_method_3_code_96 4 rfl rfl
theorem d_4_3_101 : decode prog_4_method_3_code 101 = .ok (.getfield 22, 3) := D_180 W_prog_4_method_3_code_96 5 rfl rfl rfl
theorem d_4_3_104 : decode prog_4_method_3_code 104 = .ok (.iload_n 3, 1) := D_29 W_prog_4_method_3_code_96 8 rfl rfl
theorem d_4_3_105 : decode prog_4_method_3_code 105 = .ok (.iaload, 1) := D_46 W_prog_4_method_3_code_96 9 rfl rfl
theorem d_4_3_106 : decode prog_4_method_3_code 106 = .ok (.istore 4, 2) := D_54 W_prog_4_method_3_code_96 10 rfl rfl
theorem d_4_3_108 : decode prog_4_method_3_code 108 = .ok (.iload 4, 2) := D_21 W_prog_4_method_3_code_96 12 rfl rfl
theorem d_4_3_110 : decode prog_4_method_3_code 110 = .ok (.aload_n 0, 1) := D_42 W_prog_4_method_3_code_96 14 rfl rfl
theorem d_4_3_111 : decode prog_4_method_3_code 111 = .ok (.getfield 76, 3) := D_180 W_prog_4_method_3_code_96 15 rfl rfl rfl
theorem d_4_3_114 : decode prog_4_method_3_code 114 = .ok (.if_icmp .ge 25, 3) := D_162 W_prog_4_method_3_code_96 18 rfl rfl rfl
theorem d_4_3_139 : decode prog_4_method_3_code 139 = .ok (.iinc 3 1, 3) := D_132 W_prog_4_method_3_code_128 11 rfl rfl rfl
theorem d_4_3_142 : decode prog_4_method_3_code 142 = .ok (.goto (-115), 3) := D_167 W_prog_4_method_3_code_128 14 rfl rfl rfl
theorem d_4_3_117 : decode prog_4_method_3_code 117 = .ok (.aload_n 0, 1) := D_42 W_prog_4_method_3_code_96 21 rfl rfl
theorem d_4_3_118 : decode prog_4_method_3_code 118 = .ok (.getfield 25, 3) := D_180 W_prog_4_method_3_code_96 22 rfl rfl rfl
theorem d_4_3_121 : decode prog_4_method_3_code 121 = .ok (.iload_n 3, 1) := D_29 W_prog_4_method_3_code_96 25 rfl rfl
theorem d_4_3_122 : decode prog_4_method_3_code 122 = .ok (.dup2, 1) := D_92 W_prog_4_method_3_code_96 26 rfl rfl
theorem d_4_3_123 : decode prog_4_method_3_code 123 = .ok (.iaload, 1) := D_46 W_prog_4_method_3_code_96 27 rfl rfl
theorem d_4_3_124 : decode prog_4_method_3_code 124 = .ok (.aload_n 0, 1) := D_42 W_prog_4_method_3_code_96 28 rfl rfl
theorem d_4_3_125 : decode prog_4_method_3_code 125 = .ok (.getfield 15, 3) := D_180 W_prog_4_method_3_code_96 29 rfl rfl rfl
theorem d_4_3_128 : decode prog_4_method_3_code 128 = .ok (.iload 4, 2) := D_21 W_prog_4_method_3_code_128 0 rfl rfl
theorem d_4_3_130 : decode prog_4_method_3_code 130 = .ok (.iaload, 1) := D_46 W_prog_4_method_3_code_128 2 rfl rfl
theorem d_4_3_131 : decode prog_4_method_3_code 131 = .ok (.iadd, 1) := D_96 W_prog_4_method_3_code_128 3 rfl rfl
theorem d_4_3_132 : decode prog_4_method_3_code 132 = .ok (.iastore, 1) := D_79 W_prog_4_method_3_code_128 4 rfl rfl
theorem d_4_3_133 : decode prog_4_method_3_code 133 = .ok (.iinc 4 1, 3) := D_132 W_prog_4_method_3_code_128 5 rfl rfl rfl
theorem d_4_3_136 : decode prog_4_method_3_code 136 = .ok (.goto (-28), 3) := D_167 W_prog_4_method_3_code_128 8 rfl rfl rfl
theorem d_2_5_16 : decode prog_2_method_5_code 16 = .ok (.invokevirtual 39, 3) := D_182 W_prog_2_method_5_code_0 16 rfl rfl rfl
theorem d_2_5_19 : decode prog_2_method_5_code 19 = .ok (.iinc 2 1, 3) := D_132 W_prog_2_method_5_code_0 19 rfl rfl rfl
theorem d_2_5_22 : decode prog_2_method_5_code 22 = .ok (.goto (-20), 3) := D_167 W_prog_2_method_5_code_0 22 rfl rfl rfl
theorem d_7_18_6 : decode prog_7_method_18_code 6 = .ok (.aload_n 0, 1) := D_42 W_prog_7_method_18_code_0 6 rfl rfl
theorem d_7_18_7 : decode prog_7_method_18_code 7 = .ok (.iconst 0, 1) := D_3 W_prog_7_method_18_code_0 7 rfl rfl
theorem d_7_18_8 : decode prog_7_method_18_code 8 = .ok (.iconst 4, 1) := D_7 W_prog_7_method_18_code_0 8 rfl rfl
theorem d_7_18_9 : decode prog_7_method_18_code 9 = .ok (.invokevirtual 209, 3) := D_182 W_prog_7_method_18_code_0 9 rfl rfl rfl
theorem d_7_18_12 : decode prog_7_method_18_code 12 = .ok (.aload_n 0, 1) := D_42 W_prog_7_method_18_code_0 12 rfl rfl
theorem d_7_18_13 : decode prog_7_method_18_code 13 = .ok (.getfield 223, 3) := D_180 W_prog_7_method_18_code_0 13 rfl rfl rfl
theorem d_7_18_16 : decode prog_7_method_18_code 16 = .ok (.ireturn, 1) := D_172 W_prog_7_method_18_code_0 16 rfl rfl
theorem d_7_22_4 : decode prog_7_method_22_code 4 = .ok (.istore 4, 2) := D_54 W_prog_7_method_22_code_0 4 rfl rfl
theorem d_7_22_6 : decode prog_7_method_22_code 6 = .ok (.iconst 0, 1) := D_3 W_prog_7_method_22_code_0 6 rfl rfl
theorem d_7_22_7 : decode prog_7_method_22_code 7 = .ok (.istore 5, 2) := D_54 W_prog_7_method_22_code_0 7 rfl rfl
theorem d_7_22_9 : decode prog_7_method_22_code 9 = .ok (.iconst 0, 1) := D_3 W_prog_7_method_22_code_0 9 rfl rfl
theorem d_7_22_10 : decode prog_7_method_22_code 10 = .ok (.istore 6, 2) := D_54 W_prog_7_method_22_code_0 10 rfl rfl
theorem d_7_22_12 : decode prog_7_method_22_code 12 = .ok (.iload 6, 2) := D_21 W_prog_7_method_22_code_0 12 rfl rfl
theorem d_7_22_14 : decode prog_7_method_22_code 14 = .ok (.bipush 8, 2) := D_16 W_prog_7_method_22_code_0 14 rfl rfl rfl
theorem d_7_22_16 : decode prog_7_method_22_code 16 = .ok (.if_icmp .ge 27, 3) := D_162 W_prog_7_method_22_code_0 16 rfl rfl rfl
theorem d_7_22_19 : decode prog_7_method_22_code 19 = .ok (.aload_n 1, 1) := D_43 W_prog_7_method_22_code_0 19 rfl rfl
theorem d_7_22_20 : decode prog_7_method_22_code 20 = .ok (.getfield 263, 3) := D_180 W_prog_7_method_22_code_0 20 rfl rfl rfl
theorem d_7_22_23 : decode prog_7_method_22_code 23 = .ok (.bipush 8, 2) := D_16 W_prog_7_method_22_code_0 23 rfl rfl rfl
theorem d_7_22_25 : decode prog_7_method_22_code 25 = .ok (.iload 6, 2) := D_21 W_prog_7_method_22_code_0 25 rfl rfl
theorem d_7_22_27 : decode prog_7_method_22_code 27 = .ok (.imul, 1) := D_104 W_prog_7_method_22_code_0 27 rfl rfl
theorem d_7_22_28 : decode prog_7_method_22_code 28 = .ok (.lushr, 1) := D_125 W_prog_7_method_22_code_0 28 rfl rfl
theorem d_7_22_29 : decode prog_7_method_22_code 29 = .ok (.lconst 0, 1) := D_9 W_prog_7_method_22_code_0 29 rfl rfl
theorem d_7_22_30 : decode prog_7_method_22_code 30 = .ok (.lcmp, 1) := D_148 W_prog_7_method_22_code_0 30 rfl rfl
theorem d_7_22_31 : decode prog_7_method_22_code 31 = .ok (.ifCond .eq 12, 3) := D_153 W_prog_7_method_22_code_0 31 rfl rfl rfl
theorem W_prog_7_method_22_code_32 : chW prog_7_method_22_code 32 [0, 12, 132, 5, 1, 132, 6, 1, 167, 255, 228, 45, 6, 21, 5, 184, 0, 226, 21, 5, 4, 100, 54, 6, 21, 6, 155, 0, 24, 45, 43, 180, 1, 7, 16, 8] := chW_of (by decide +kernel)
theorem d_7_22_34 : decode prog_7_method_22_code 34 = .ok (.iinc 5 1, 3) := D_132 W_prog_7_method_22_code_32 2 rfl rfl rfl
theorem d_7_22_37 : decode prog_7_method_22_code 37 = .ok (.iinc 6 1, 3) := D_132 W_prog_7_method_22_code_32 5 rfl rfl rfl
theorem d_7_22_40 : decode prog_7_method_22_code 40 = .ok (.goto (-28), 3) := D_167 W_prog_7_method_22_code_32 8 rfl rfl rfl
theorem d_7_22_43 : decode prog_7_method_22_code 43 = .ok (.aload_n 3, 1) := D_45 W_prog_7_method_22_code_32 11 rfl rfl
theorem d_7_22_44 : decode prog_7_method_22_code 44 = .ok (.iconst 3, 1) := D_6 W_prog_7_method_22_code_32 12 rfl rfl
theorem d_7_22_45 : decode prog_7_method_22_code 45 = .ok (.iload 5, 2) := D_21 W_prog_7_method_22_code_32 13 rfl rfl
theorem d_7_22_47 : decode prog_7_method_22_code 47 = .ok (.invokestatic 226, 3) := D_184 W_prog_7_method_22_code_32 15 rfl rfl rfl
theorem d_7_22_50 : decode prog_7_method_22_code 50 = .ok (.iload 5, 2) := D_21 W_prog_7_method_22_code_32 18 rfl rfl
theorem d_7_22_52 : decode prog_7_method_22_code 52 = .ok (.iconst 1, 1) := D_4 W_prog_7_method_22_code_32 20 rfl rfl
theorem d_7_22_53 : decode prog_7_method_22_code 53 = .ok (.isub, 1) := D_100 W_prog_7_method_22_code_32 21 rfl rfl
theorem d_7_22_54 : decode prog_7_method_22_code 54 = .ok (.istore 6, 2) := D_54 W_prog_7_method_22_code_32 22 rfl rfl
theorem d_7_22_56 : decode prog_7_method_22_code 56 = .ok (.iload 6, 2) := D_21 W_prog_7_method_22_code_32 24 rfl rfl
theorem d_7_22_58 : decode prog_7_method_22_code 58 = .ok (.ifCond .lt 24, 3) := D_155 W_prog_7_method_22_code_32 26 rfl rfl rfl
theorem W_prog_7_method_22_code_64 : chW prog_7_method_22_code 64 [1, 7, 16, 8, 21, 6, 104, 125, 136, 182, 0, 233, 132, 6, 255, 167, 255, 233, 45, 3, 182, 0, 233, 45, 17, 0, 192, 28, 96, 182, 0, 233, 45, 43, 180, 1] := chW_of (by decide +kernel)
theorem d_7_22_82 : decode prog_7_method_22_code 82 = .ok (.aload_n 3, 1) := D_45 W_prog_7_method_22_code_64 18 rfl rfl
theorem d_7_22_83 : decode prog_7_method_22_code 83 = .ok (.iconst 0, 1) := D_3 W_prog_7_method_22_code_64 19 rfl rfl
theorem d_7_22_84 : decode prog_7_method_22_code 84 = .ok (.invokevirtual 233, 3) := D_182 W_prog_7_method_22_code_64 20 rfl rfl rfl
theorem d_7_22_87 : decode prog_7_method_22_code 87 = .ok (.aload_n 3, 1) := D_45 W_prog_7_method_22_code_64 23 rfl rfl
theorem d_7_22_88 : decode prog_7_method_22_code 88 = .ok (.sipush 192, 3) := D_17 W_prog_7_method_22_code_64 24 rfl rfl rfl
theorem d_7_22_91 : decode prog_7_method_22_code 91 = .ok (.iload_n 2, 1) := D_28 W_prog_7_method_22_code_64 27 rfl rfl
theorem d_7_22_92 : decode prog_7_method_22_code 92 = .ok (.iadd, 1) := D_96 W_prog_7_method_22_code_64 28 rfl rfl
theorem d_7_22_93 : decode prog_7_method_22_code 93 = .ok (.invokevirtual 233, 3) := D_182 W_prog_7_method_22_code_64 29 rfl rfl rfl
theorem W_prog_7_method_22_code_96 : chW prog_7_method_22_code 96 [45, 43, 180, 1, 10, 182, 0, 233, 42, 28, 45, 182, 1, 13, 45, 21, 4, 184, 1, 3, 177] := chW_of (by decide +kernel)
theorem d_7_22_96 : decode prog_7_method_22_code 96 = .ok (.aload_n 3, 1) := D_45 W_prog_7_method_22_code_96 0 rfl rfl
theorem d_7_22_97 : decode prog_7_method_22_code 97 = .ok (.aload_n 1, 1) := D_43 W_prog_7_method_22_code_96 1 rfl rfl
theorem d_7_22_98 : decode prog_7_method_22_code 98 = .ok (.getfield 266, 3) := D_180 W_prog_7_method_22_code_96 2 rfl rfl rfl
theorem d_7_22_101 : decode prog_7_method_22_code 101 = .ok (.invokevirtual 233, 3) := D_182 W_prog_7_method_22_code_96 5 rfl rfl rfl
theorem d_7_22_104 : decode prog_7_method_22_code 104 = .ok (.aload_n 0, 1) := D_42 W_prog_7_method_22_code_96 8 rfl rfl
theorem d_7_22_105 : decode prog_7_method_22_code 105 = .ok (.iload_n 2, 1) := D_28 W_prog_7_method_22_code_96 9 rfl rfl
theorem d_7_22_106 : decode prog_7_method_22_code 106 = .ok (.aload_n 3, 1) := D_45 W_prog_7_method_22_code_96 10 rfl rfl
theorem d_7_22_107 : decode prog_7_method_22_code 107 = .ok (.invokevirtual 269, 3) := D_182 W_prog_7_method_22_code_96 11 rfl rfl rfl
theorem d_7_22_110 : decode prog_7_method_22_code 110 = .ok (.aload_n 3, 1) := D_45 W_prog_7_method_22_code_96 14 rfl rfl
theorem d_7_22_111 : decode prog_7_method_22_code 111 = .ok (.iload 4, 2) := D_21 W_prog_7_method_22_code_96 15 rfl rfl
theorem d_7_22_113 : decode prog_7_method_22_code 113 = .ok (.invokestatic 259, 3) := D_184 W_prog_7_method_22_code_96 17 rfl rfl rfl
theorem d_7_22_116 : decode prog_7_method_22_code 116 = .ok (.return_, 1) := D_177 W_prog_7_method_22_code_96 20 rfl rfl
theorem d_7_22_61 : decode prog_7_method_22_code 61 = .ok (.aload_n 3, 1) := D_45 W_prog_7_method_22_code_32 29 rfl rfl
theorem d_7_22_62 : decode prog_7_method_22_code 62 = .ok (.aload_n 1, 1) := D_43 W_prog_7_method_22_code_32 30 rfl rfl
theorem d_7_22_63 : decode prog_7_method_22_code 63 = .ok (.getfield 263, 3) := D_180 W_prog_7_method_22_code_32 31 rfl rfl rfl
theorem d_7_22_66 : decode prog_7_method_22_code 66 = .ok (.bipush 8, 2) := D_16 W_prog_7_method_22_code_64 2 rfl rfl rfl
theorem d_7_22_68 : decode prog_7_method_22_code 68 = .ok (.iload 6, 2) := D_21 W_prog_7_method_22_code_64 4 rfl rfl
theorem d_7_22_70 : decode prog_7_method_22_code 70 = .ok (.imul, 1) := D_104 W_prog_7_method_22_code_64 6 rfl rfl
theorem d_7_22_71 : decode prog_7_method_22_code 71 = .ok (.lushr, 1) := D_125 W_prog_7_method_22_code_64 7 rfl rfl
theorem d_7_22_72 : decode prog_7_method_22_code 72 = .ok (.l2i, 1) := D_136 W_prog_7_method_22_code_64 8 rfl rfl
theorem d_7_22_73 : decode prog_7_method_22_code 73 = .ok (.invokevirtual 233, 3) := D_182 W_prog_7_method_22_code_64 9 rfl rfl rfl
theorem d_7_22_76 : decode prog_7_method_22_code 76 = .ok (.iinc 6 (-1), 3) := D_132 W_prog_7_method_22_code_64 12 rfl rfl rfl
theorem d_7_22_79 : decode prog_7_method_22_code 79 = .ok (.goto (-23), 3) := D_167 W_prog_7_method_22_code_64 15 rfl rfl rfl
theorem d_10_12_27 : decode prog_10_method_12_code 27 = .ok (.iinc 2 1, 3) := D_132 W_prog_10_method_12_code_0 27 rfl rfl rfl
theorem d_10_12_30 : decode prog_10_method_12_code 30 = .ok (.goto (-25), 3) := D_167 W_prog_10_method_12_code_0 30 rfl rfl rfl
theorem d_10_12_58 : decode prog_10_method_12_code 58 = .ok (.aload_n 0, 1) := D_42 W_prog_10_method_12_code_32 26 rfl rfl
theorem d_10_12_59 : decode prog_10_method_12_code 59 = .ok (.iconst 0, 1) := D_3 W_prog_10_method_12_code_32 27 rfl rfl
theorem d_10_12_60 : decode prog_10_method_12_code 60 = .ok (.iconst 0, 1) := D_3 W_prog_10_method_12_code_32 28 rfl rfl
theorem d_10_12_61 : decode prog_10_method_12_code 61 = .ok (.invokevirtual 107, 3) := D_182 W_prog_10_method_12_code_32 29 rfl rfl rfl
theorem W_prog_10_method_12_code_64 : chW prog_10_method_12_code 64 [42, 3, 4, 182, 0, 107, 42, 180, 0, 9, 3, 42, 5, 10, 20, 0, 112, 182, 0, 114, 79, 42, 180, 0, 9, 4, 42, 5, 10, 20, 0, 118, 182, 0, 114, 79] := chW_of (by decide +kernel)
theorem d_10_12_64 : decode prog_10_method_12_code 64 = .ok (.aload_n 0, 1) := D_42 W_prog_10_method_12_code_64 0 rfl rfl
theorem d_10_12_65 : decode prog_10_method_12_code 65 = .ok (.iconst 0, 1) := D_3 W_prog_10_method_12_code_64 1 rfl rfl
theorem d_10_12_66 : decode prog_10_method_12_code 66 = .ok (.iconst 1, 1) := D_4 W_prog_10_method_12_code_64 2 rfl rfl
theorem d_10_12_67 : decode prog_10_method_12_code 67 = .ok (.invokevirtual 107, 3) := D_182 W_prog_10_method_12_code_64 3 rfl rfl rfl
theorem d_10_12_70 : decode prog_10_method_12_code 70 = .ok (.aload_n 0, 1) := D_42 W_prog_10_method_12_code_64 6 rfl rfl
theorem d_10_12_71 : decode prog_10_method_12_code 71 = .ok (.getfield 9, 3) := D_180 W_prog_10_method_12_code_64 7 rfl rfl rfl
theorem d_10_12_74 : decode prog_10_method_12_code 74 = .ok (.iconst 0, 1) := D_3 W_prog_10_method_12_code_64 10 rfl rfl
theorem d_10_12_75 : decode prog_10_method_12_code 75 = .ok (.aload_n 0, 1) := D_42 W_prog_10_method_12_code_64 11 rfl rfl
theorem d_10_12_76 : decode prog_10_method_12_code 76 = .ok (.iconst 2, 1) := D_5 W_prog_10_method_12_code_64 12 rfl rfl
theorem d_10_12_77 : decode prog_10_method_12_code 77 = .ok (.lconst 1, 1) := D_10 W_prog_10_method_12_code_64 13 rfl rfl
theorem d_10_12_78 : decode prog_10_method_12_code 78 = .ok (.ldc2_w 112, 3) := D_20 W_prog_10_method_12_code_64 14 rfl rfl rfl
theorem d_10_12_81 : decode prog_10_method_12_code 81 = .ok (.invokevirtual 114, 3) := D_182 W_prog_10_method_12_code_64 17 rfl rfl rfl
theorem d_10_12_84 : decode prog_10_method_12_code 84 = .ok (.iastore, 1) := D_79 W_prog_10_method_12_code_64 20 rfl rfl
theorem d_10_12_85 : decode prog_10_method_12_code 85 = .ok (.aload_n 0, 1) := D_42 W_prog_10_method_12_code_64 21 rfl rfl
theorem d_10_12_86 : decode prog_10_method_12_code 86 = .ok (.getfield 9, 3) := D_180 W_prog_10_method_12_code_64 22 rfl rfl rfl
theorem d_10_12_89 : decode prog_10_method_12_code 89 = .ok (.iconst 1, 1) := D_4 W_prog_10_method_12_code_64 25 rfl rfl
theorem d_10_12_90 : decode prog_10_method_12_code 90 = .ok (.aload_n 0, 1) := D_42 W_prog_10_method_12_code_64 26 rfl rfl
theorem d_10_12_91 : decode prog_10_method_12_code 91 = .ok (.iconst 2, 1) := D_5 W_prog_10_method_12_code_64 27 rfl rfl
theorem d_10_12_92 : decode prog_10_method_12_code 92 = .ok (.lconst 1, 1) := D_10 W_prog_10_method_12_code_64 28 rfl rfl
theorem d_10_12_93 : decode prog_10_method_12_code 93 = .ok (.ldc2_w 118, 3) := D_20 W_prog_10_method_12_code_64 29 rfl rfl rfl
theorem W_prog_10_method_12_code_96 : chW prog_10_method_12_code 96 [182, 0, 114, 79, 42, 33, 20, 0, 110, 101, 182, 0, 70, 177] := chW_of (by decide +kernel)
theorem d_10_12_96 : decode prog_10_method_12_code 96 = .ok (.invokevirtual 114, 3) := D_182 W_prog_10_method_12_code_96 0 rfl rfl rfl
theorem d_10_12_99 : decode prog_10_method_12_code 99 = .ok (.iastore, 1) := D_79 W_prog_10_method_12_code_96 3 rfl rfl
theorem d_10_12_100 : decode prog_10_method_12_code 100 = .ok (.aload_n 0, 1) := D_42 W_prog_10_method_12_code_96 4 rfl rfl
