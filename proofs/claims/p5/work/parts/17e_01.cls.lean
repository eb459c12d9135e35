theorem d_7_30_78 : decode prog_7_method_30_code 78 = .ok (.if_icmp .ne 9, 3) := D_160 W_prog_7_method_30_code_64 14 rfl rfl rfl
theorem d_7_30_87 : decode prog_7_method_30_code 87 = .ok (.iload_n 1, 1) := D_27 W_prog_7_method_30_code_64 23 rfl rfl
theorem d_7_30_88 : decode prog_7_method_30_code 88 = .ok (.iconst 4, 1) := D_7 W_prog_7_method_30_code_64 24 rfl rfl
theorem d_7_30_89 : decode prog_7_method_30_code 89 = .ok (.idiv, 1) := D_108 W_prog_7_method_30_code_64 25 rfl rfl
theorem d_7_30_81 : decode prog_7_method_30_code 81 = .ok (.iload_n 1, 1) := D_27 W_prog_7_method_30_code_64 17 rfl rfl
theorem d_7_30_82 : decode prog_7_method_30_code 82 = .ok (.iconst 2, 1) := D_5 W_prog_7_method_30_code_64 18 rfl rfl
theorem d_7_30_83 : decode prog_7_method_30_code 83 = .ok (.idiv, 1) := D_108 W_prog_7_method_30_code_64 19 rfl rfl
theorem d_7_30_84 : decode prog_7_method_30_code 84 = .ok (.goto 6, 3) := D_167 W_prog_7_method_30_code_64 20 rfl rfl rfl
theorem d_7_30_90 : decode prog_7_method_30_code 90 = .ok (.istore 5, 2) := D_54 W_prog_7_method_30_code_64 26 rfl rfl
theorem d_7_30_92 : decode prog_7_method_30_code 92 = .ok (.iload 6, 2) := D_21 W_prog_7_method_30_code_64 28 rfl rfl
theorem d_7_30_94 : decode prog_7_method_30_code 94 = .ok (.iconst 2, 1) := D_5 W_prog_7_method_30_code_64 30 rfl rfl
theorem d_7_30_95 : decode prog_7_method_30_code 95 = .ok (.idiv, 1) := D_108 W_prog_7_method_30_code_64 31 rfl rfl
theorem d_7_30_96 : decode prog_7_method_30_code 96 = .ok (.istore 6, 2) := D_54 W_prog_7_method_30_code_96 0 rfl rfl
theorem d_7_30_98 : decode prog_7_method_30_code 98 = .ok (.goto (-51), 3) := D_167 W_prog_7_method_30_code_96 2 rfl rfl rfl
theorem d_7_30_124 : decode prog_7_method_30_code 124 = .ok (.istore 6, 2) := D_54 W_prog_7_method_30_code_96 28 rfl rfl
theorem d_7_30_126 : decode prog_7_method_30_code 126 = .ok (.aload_n 0, 1) := D_42 W_prog_7_method_30_code_96 30 rfl rfl
theorem d_7_30_127 : decode prog_7_method_30_code 127 = .ok (.sipush (-32768), 3) := D_17 W_prog_7_method_30_code_96 31 rfl rfl rfl
theorem W_prog_7_method_30_code_128 : chW prog_7_method_30_code 128 [128, 0, 17, 127, 255, 21, 6, 184, 0, 99, 184, 0, 144, 181, 0, 165, 42, 3, 16, 88, 42, 180, 0, 168, 178, 1, 54, 29, 16, 7, 126, 46, 96, 184, 0, 99] := chW_of (by decide +kernel)
theorem d_7_30_130 : decode prog_7_method_30_code 130 = .ok (.sipush 32767, 3) := D_17 W_prog_7_method_30_code_128 2 rfl rfl rfl
theorem d_7_30_133 : decode prog_7_method_30_code 133 = .ok (.iload 6, 2) := D_21 W_prog_7_method_30_code_128 5 rfl rfl
theorem d_7_30_135 : decode prog_7_method_30_code 135 = .ok (.invokestatic 99, 3) := D_184 W_prog_7_method_30_code_128 7 rfl rfl rfl
theorem d_7_30_138 : decode prog_7_method_30_code 138 = .ok (.invokestatic 144, 3) := D_184 W_prog_7_method_30_code_128 10 rfl rfl rfl
theorem d_7_30_141 : decode prog_7_method_30_code 141 = .ok (.putfield 165, 3) := D_181 W_prog_7_method_30_code_128 13 rfl rfl rfl
theorem d_7_30_144 : decode prog_7_method_30_code 144 = .ok (.aload_n 0, 1) := D_42 W_prog_7_method_30_code_128 16 rfl rfl
theorem d_7_30_145 : decode prog_7_method_30_code 145 = .ok (.iconst 0, 1) := D_3 W_prog_7_method_30_code_128 17 rfl rfl
theorem d_7_30_146 : decode prog_7_method_30_code 146 = .ok (.bipush 88, 2) := D_16 W_prog_7_method_30_code_128 18 rfl rfl rfl
theorem d_7_30_148 : decode prog_7_method_30_code 148 = .ok (.aload_n 0, 1) := D_42 W_prog_7_method_30_code_128 20 rfl rfl
theorem d_7_30_149 : decode prog_7_method_30_code 149 = .ok (.getfield 168, 3) := D_180 W_prog_7_method_30_code_128 21 rfl rfl rfl
theorem d_7_30_152 : decode prog_7_method_30_code 152 = .ok (.getstatic 310, 3) := D_178 W_prog_7_method_30_code_128 24 rfl rfl rfl
theorem d_7_30_155 : decode prog_7_method_30_code 155 = .ok (.iload_n 3, 1) := D_29 W_prog_7_method_30_code_128 27 rfl rfl
theorem d_7_30_156 : decode prog_7_method_30_code 156 = .ok (.bipush 7, 2) := D_16 W_prog_7_method_30_code_128 28 rfl rfl rfl
theorem d_7_30_158 : decode prog_7_method_30_code 158 = .ok (.iand, 1) := D_126 W_prog_7_method_30_code_128 30 rfl rfl
theorem d_7_30_159 : decode prog_7_method_30_code 159 = .ok (.iaload, 1) := D_46 W_prog_7_method_30_code_128 31 rfl rfl
theorem W_prog_7_method_30_code_160 : chW prog_7_method_30_code 160 [96, 184, 0, 99, 184, 0, 144, 181, 0, 168, 29, 172] := chW_of (by decide +kernel)
theorem d_7_30_160 : decode prog_7_method_30_code 160 = .ok (.iadd, 1) := D_96 W_prog_7_method_30_code_160 0 rfl rfl
theorem d_7_30_161 : decode prog_7_method_30_code 161 = .ok (.invokestatic 99, 3) := D_184 W_prog_7_method_30_code_160 1 rfl rfl rfl
theorem d_7_30_164 : decode prog_7_method_30_code 164 = .ok (.invokestatic 144, 3) := D_184 W_prog_7_method_30_code_160 4 rfl rfl rfl
theorem d_7_30_167 : decode prog_7_method_30_code 167 = .ok (.putfield 168, 3) := D_181 W_prog_7_method_30_code_160 7 rfl rfl rfl
theorem d_7_30_170 : decode prog_7_method_30_code 170 = .ok (.iload_n 3, 1) := D_29 W_prog_7_method_30_code_160 10 rfl rfl
theorem d_7_30_171 : decode prog_7_method_30_code 171 = .ok (.ireturn, 1) := D_172 W_prog_7_method_30_code_160 11 rfl rfl
theorem W_prog_1_method_29_code_0 : chW prog_1_method_29_code 0 [42, 27, 182, 1, 0, 58, 4, 25, 4, 198, 0, 16, 28, 155, 0, 12, 28, 25, 4, 180, 1, 44, 161, 0, 6, 18, 218, 172, 29, 171, 0, 0, 0, 0, 0, 43] := chW_of (by decide +kernel)
theorem d_1_29_0 : decode prog_1_method_29_code 0 = .ok (.aload_n 0, 1) := D_42 W_prog_1_method_29_code_0 0 rfl rfl
theorem d_1_29_1 : decode prog_1_method_29_code 1 = .ok (.iload_n 1, 1) := D_27 W_prog_1_method_29_code_0 1 rfl rfl
theorem d_1_29_2 : decode prog_1_method_29_code 2 = .ok (.invokevirtual 256, 3) := D_182 W_prog_1_method_29_code_0 2 rfl rfl rfl
theorem d_1_29_5 : decode prog_1_method_29_code 5 = .ok (.astore 4, 2) := D_58 W_prog_1_method_29_code_0 5 rfl rfl
theorem d_1_29_7 : decode prog_1_method_29_code 7 = .ok (.aload 4, 2) := D_25 W_prog_1_method_29_code_0 7 rfl rfl
theorem d_1_29_9 : decode prog_1_method_29_code 9 = .ok (.ifnull 16, 3) := D_198 W_prog_1_method_29_code_0 9 rfl rfl rfl
theorem d_1_29_12 : decode prog_1_method_29_code 12 = .ok (.iload_n 2, 1) := D_28 W_prog_1_method_29_code_0 12 rfl rfl
theorem d_1_29_13 : decode prog_1_method_29_code 13 = .ok (.ifCond .lt 12, 3) := D_155 W_prog_1_method_29_code_0 13 rfl rfl rfl
theorem d_1_29_16 : decode prog_1_method_29_code 16 = .ok (.iload_n 2, 1) := D_28 W_prog_1_method_29_code_0 16 rfl rfl
theorem d_1_29_17 : decode prog_1_method_29_code 17 = .ok (.aload 4, 2) := D_25 W_prog_1_method_29_code_0 17 rfl rfl
theorem d_1_29_19 : decode prog_1_method_29_code 19 = .ok (.getfield 300, 3) := D_180 W_prog_1_method_29_code_0 19 rfl rfl rfl
theorem d_1_29_22 : decode prog_1_method_29_code 22 = .ok (.if_icmp .lt 6, 3) := D_161 W_prog_1_method_29_code_0 22 rfl rfl rfl
theorem d_1_29_28 : decode prog_1_method_29_code 28 = .ok (.iload_n 3, 1) := D_29 W_prog_1_method_29_code_0 28 rfl rfl
theorem d_1_29_29 : decode prog_1_method_29_code 29 = .ok (.lookupswitch 43 #[(0, 27), (1, 35)], 27) := by decide +kernel
theorem W_prog_1_method_29_code_32 : chW prog_1_method_29_code 32 [0, 0, 0, 43, 0, 0, 0, 2, 0, 0, 0, 0, 0, 0, 0, 27, 0, 0, 0, 1, 0, 0, 0, 35, 25, 4, 180, 1, 47, 28, 46, 172, 25, 4, 180, 1] := chW_of (by decide +kernel)
theorem d_1_29_56 : decode prog_1_method_29_code 56 = .ok (.aload 4, 2) := D_25 W_prog_1_method_29_code_32 24 rfl rfl
theorem d_1_29_58 : decode prog_1_method_29_code 58 = .ok (.getfield 303, 3) := D_180 W_prog_1_method_29_code_32 26 rfl rfl rfl
theorem d_1_29_61 : decode prog_1_method_29_code 61 = .ok (.iload_n 2, 1) := D_28 W_prog_1_method_29_code_32 29 rfl rfl
theorem d_1_29_62 : decode prog_1_method_29_code 62 = .ok (.iaload, 1) := D_46 W_prog_1_method_29_code_32 30 rfl rfl
theorem d_1_29_63 : decode prog_1_method_29_code 63 = .ok (.ireturn, 1) := D_172 W_prog_1_method_29_code_32 31 rfl rfl
theorem W_prog_1_method_29_code_64 : chW prog_1_method_29_code 64 [25, 4, 180, 1, 50, 28, 46, 172, 18, 218, 172] := chW_of (by decide +kernel)
theorem d_1_29_64 : decode prog_1_method_29_code 64 = .ok (.aload 4, 2) := D_25 W_prog_1_method_29_code_64 0 rfl rfl
theorem d_1_29_66 : decode prog_1_method_29_code 66 = .ok (.getfield 306, 3) := D_180 W_prog_1_method_29_code_64 2 rfl rfl rfl
theorem d_1_29_69 : decode prog_1_method_29_code 69 = .ok (.iload_n 2, 1) := D_28 W_prog_1_method_29_code_64 5 rfl rfl
theorem d_1_29_70 : decode prog_1_method_29_code 70 = .ok (.iaload, 1) := D_46 W_prog_1_method_29_code_64 6 rfl rfl
theorem d_1_29_71 : decode prog_1_method_29_code 71 = .ok (.ireturn, 1) := D_172 W_prog_1_method_29_code_64 7 rfl rfl
theorem d_1_29_72 : decode prog_1_method_29_code 72 = .ok (.ldc 218, 2) := D_18 W_prog_1_method_29_code_64 8 rfl rfl
theorem d_1_29_74 : decode prog_1_method_29_code 74 = .ok (.ireturn, 1) := D_172 W_prog_1_method_29_code_64 10 rfl rfl
theorem d_1_29_25 : decode prog_1_method_29_code 25 = .ok (.ldc 218, 2) := D_18 W_prog_1_method_29_code_0 25 rfl rfl
theorem d_1_29_27 : decode prog_1_method_29_code 27 = .ok (.ireturn, 1) := D_172 W_prog_1_method_29_code_0 27 rfl rfl
theorem W_prog_11_method_13_code_0 : chW prog_11_method_13_code 0 [3, 62, 29, 16, 7, 162, 0, 16, 42, 180, 0, 40, 29, 3, 79, 132, 3, 1, 167, 255, 240, 3, 62, 29, 43, 180, 0, 58, 162, 0, 73, 42, 43, 29, 28, 182] := chW_of (by decide +kernel)
theorem d_11_13_0 : decode prog_11_method_13_code 0 = .ok (.iconst 0, 1) := D_3 W_prog_11_method_13_code_0 0 rfl rfl
theorem d_11_13_1 : decode prog_11_method_13_code 1 = .ok (.istore_n 3, 1) := D_62 W_prog_11_method_13_code_0 1 rfl rfl
theorem d_11_13_2 : decode prog_11_method_13_code 2 = .ok (.iload_n 3, 1) := D_29 W_prog_11_method_13_code_0 2 rfl rfl
theorem d_11_13_3 : decode prog_11_method_13_code 3 = .ok (.bipush 7, 2) := D_16 W_prog_11_method_13_code_0 3 rfl rfl rfl
theorem d_11_13_5 : decode prog_11_method_13_code 5 = .ok (.if_icmp .ge 16, 3) := D_162 W_prog_11_method_13_code_0 5 rfl rfl rfl
theorem d_11_13_21 : decode prog_11_method_13_code 21 = .ok (.iconst 0, 1) := D_3 W_prog_11_method_13_code_0 21 rfl rfl
theorem d_11_13_22 : decode prog_11_method_13_code 22 = .ok (.istore_n 3, 1) := D_62 W_prog_11_method_13_code_0 22 rfl rfl
theorem d_11_13_8 : decode prog_11_method_13_code 8 = .ok (.aload_n 0, 1) := D_42 W_prog_11_method_13_code_0 8 rfl rfl
theorem d_11_13_9 : decode prog_11_method_13_code 9 = .ok (.getfield 40, 3) := D_180 W_prog_11_method_13_code_0 9 rfl rfl rfl
theorem d_11_13_12 : decode prog_11_method_13_code 12 = .ok (.iload_n 3, 1) := D_29 W_prog_11_method_13_code_0 12 rfl rfl
theorem d_11_13_13 : decode prog_11_method_13_code 13 = .ok (.iconst 0, 1) := D_3 W_prog_11_method_13_code_0 13 rfl rfl
theorem d_11_13_14 : decode prog_11_method_13_code 14 = .ok (.iastore, 1) := D_79 W_prog_11_method_13_code_0 14 rfl rfl
theorem d_11_13_15 : decode prog_11_method_13_code 15 = .ok (.iinc 3 1, 3) := D_132 W_prog_11_method_13_code_0 15 rfl rfl rfl
theorem d_11_13_18 : decode prog_11_method_13_code 18 = .ok (.goto (-16), 3) := D_167 W_prog_11_method_13_code_0 18 rfl rfl rfl
theorem d_11_13_23 : decode prog_11_method_13_code 23 = .ok (.iload_n 3, 1) := D_29 W_prog_11_method_13_code_0 23 rfl rfl
theorem d_11_13_24 : decode prog_11_method_13_code 24 = .ok (.aload_n 1, 1) := D_43 W_prog_11_method_13_code_0 24 rfl rfl
theorem d_11_13_25 : decode prog_11_method_13_code 25 = .ok (.getfield 58, 3) := D_180 W_prog_11_method_13_code_0 25 rfl rfl rfl
theorem d_11_13_28 : decode prog_11_method_13_code 28 = .ok (.if_icmp .ge 73, 3) := D_162 W_prog_11_method_13_code_0 28 rfl rfl rfl
theorem W_prog_11_method_13_code_96 : chW prog_11_method_13_code 96 [3, 1, 167, 255, 181, 177] := chW_of (by decide +kernel)
theorem d_11_13_101 : decode prog_11_method_13_code 101 = .ok (.return_, 1) := D_177 W_prog_11_method_13_code_96 5 rfl rfl
theorem d_11_13_31 : decode prog_11_method_13_code 31 = .ok (.aload_n 0, 1) := D_42 W_prog_11_method_13_code_0 31 rfl rfl
theorem W_prog_11_method_13_code_32 : chW prog_11_method_13_code 32 [43, 29, 28, 182, 0, 98, 58, 4, 3, 54, 5, 25, 4, 198, 0, 50, 21, 5, 25, 4, 180, 0, 165, 162, 0, 40, 42, 180, 0, 40, 25, 4, 180, 0, 106, 21] := chW_of (by decide +kernel)
theorem d_11_13_32 : decode prog_11_method_13_code 32 = .ok (.aload_n 1, 1) := D_43 W_prog_11_method_13_code_32 0 rfl rfl
theorem d_11_13_33 : decode prog_11_method_13_code 33 = .ok (.iload_n 3, 1) := D_29 W_prog_11_method_13_code_32 1 rfl rfl
theorem d_11_13_34 : decode prog_11_method_13_code 34 = .ok (.iload_n 2, 1) := D_28 W_prog_11_method_13_code_32 2 rfl rfl
theorem d_11_13_35 : decode prog_11_method_13_code 35 = .ok (.invokevirtual 98, 3) := D_182 W_prog_11_method_13_code_32 3 rfl rfl rfl
theorem d_11_13_38 : decode prog_11_method_13_code 38 = .ok (.astore 4, 2) := D_58 W_prog_11_method_13_code_32 6 rfl rfl
theorem d_11_13_40 : decode prog_11_method_13_code 40 = .ok (.iconst 0, 1) := D_3 W_prog_11_method_13_code_32 8 rfl rfl
theorem d_11_13_41 : decode prog_11_method_13_code 41 = .ok (.istore 5, 2) := D_54 W_prog_11_method_13_code_32 9 rfl rfl
theorem d_11_13_43 : decode prog_11_method_13_code 43 = .ok (.aload 4, 2) := D_25 W_prog_11_method_13_code_32 11 rfl rfl
theorem d_11_13_45 : decode prog_11_method_13_code 45 = .ok (.ifnull 50, 3) := D_198 W_prog_11_method_13_code_32 13 rfl rfl rfl
theorem d_11_13_48 : decode prog_11_method_13_code 48 = .ok (.iload 5, 2) := D_21 W_prog_11_method_13_code_32 16 rfl rfl
theorem d_11_13_50 : decode prog_11_method_13_code 50 = .ok (.aload 4, 2) := D_25 W_prog_11_method_13_code_32 18 rfl rfl
theorem d_11_13_52 : decode prog_11_method_13_code 52 = .ok (.getfield 165, 3) := D_180 W_prog_11_method_13_code_32 20 rfl rfl rfl
theorem d_11_13_55 : decode prog_11_method_13_code 55 = .ok (.if_icmp .ge 40, 3) := D_162 W_prog_11_method_13_code_32 23 rfl rfl rfl
theorem d_11_13_58 : decode prog_11_method_13_code 58 = .ok (.aload_n 0, 1) := D_42 W_prog_11_method_13_code_32 26 rfl rfl
theorem d_11_13_59 : decode prog_11_method_13_code 59 = .ok (.getfield 40, 3) := D_180 W_prog_11_method_13_code_32 27 rfl rfl rfl
theorem d_11_13_62 : decode prog_11_method_13_code 62 = .ok (.aload 4, 2) := D_25 W_prog_11_method_13_code_32 30 rfl rfl
theorem W_prog_11_method_13_code_64 : chW prog_11_method_13_code 64 [180, 0, 106, 21, 5, 46, 16, 7, 112, 92, 46, 4, 25, 4, 180, 0, 168, 21, 5, 46, 5, 96, 120, 128, 79, 132, 5, 1, 167, 255, 207, 132, 3, 1, 167, 255] := chW_of (by decide +kernel)
theorem d_11_13_64 : decode prog_11_method_13_code 64 = .ok (.getfield 106, 3) := D_180 W_prog_11_method_13_code_64 0 rfl rfl rfl
theorem d_11_13_67 : decode prog_11_method_13_code 67 = .ok (.iload 5, 2) := D_21 W_prog_11_method_13_code_64 3 rfl rfl
theorem d_11_13_69 : decode prog_11_method_13_code 69 = .ok (.iaload, 1) := D_46 W_prog_11_method_13_code_64 5 rfl rfl
theorem d_11_13_70 : decode prog_11_method_13_code 70 = .ok (.bipush 7, 2) := D_16 W_prog_11_method_13_code_64 6 rfl rfl rfl
theorem d_11_13_72 : decode prog_11_method_13_code 72 = .ok (.irem, 1) := D_112 W_prog_11_method_13_code_64 8 rfl rfl
theorem d_11_13_73 : decode prog_11_method_13_code 73 = .ok (.dup2, 1) := D_92 W_prog_11_method_13_code_64 9 rfl rfl
theorem d_11_13_74 : decode prog_11_method_13_code 74 = .ok (.iaload, 1) := D_46 W_prog_11_method_13_code_64 10 rfl rfl
theorem d_11_13_75 : decode prog_11_method_13_code 75 = .ok (.iconst 1, 1) := D_4 W_prog_11_method_13_code_64 11 rfl rfl
theorem d_11_13_76 : decode prog_11_method_13_code 76 = .ok (.aload 4, 2) := D_25 W_prog_11_method_13_code_64 12 rfl rfl
theorem d_11_13_78 : decode prog_11_method_13_code 78 = .ok (.getfield 168, 3) := D_180 W_prog_11_method_13_code_64 14 rfl rfl rfl
theorem d_11_13_81 : decode prog_11_method_13_code 81 = .ok (.iload 5, 2) := D_21 W_prog_11_method_13_code_64 17 rfl rfl
theorem d_11_13_83 : decode prog_11_method_13_code 83 = .ok (.iaload, 1) := D_46 W_prog_11_method_13_code_64 19 rfl rfl
theorem d_11_13_84 : decode prog_11_method_13_code 84 = .ok (.iconst 2, 1) := D_5 W_prog_11_method_13_code_64 20 rfl rfl
theorem d_11_13_85 : decode prog_11_method_13_code 85 = .ok (.iadd, 1) := D_96 W_prog_11_method_13_code_64 21 rfl rfl
theorem d_11_13_86 : decode prog_11_method_13_code 86 = .ok (.ishl, 1) := D_120 W_prog_11_method_13_code_64 22 rfl rfl
theorem d_11_13_87 : decode prog_11_method_13_code 87 = .ok (.ior, 1) := D_128 W_prog_11_method_13_code_64 23 rfl rfl
theorem d_11_13_88 : decode prog_11_method_13_code 88 = .ok (.iastore, 1) := D_79 W_prog_11_method_13_code_64 24 rfl rfl
theorem d_11_13_89 : decode prog_11_method_13_code 89 = .ok (.iinc 5 1, 3) := D_132 W_prog_11_method_13_code_64 25 rfl rfl rfl
theorem d_11_13_92 : decode prog_11_method_13_code 92 = .ok (.goto (-49), 3) := D_167 W_prog_11_method_13_code_64 28 rfl rfl rfl
theorem d_11_13_95 : decode prog_11_method_13_code 95 = .ok (.iinc 3 1, 3) := D_132 W_prog_11_method_13_code_64 31 rfl rfl rfl
theorem d_11_13_98 : decode prog_11_method_13_code 98 = .ok (.goto (-75), 3) := D_167 W_prog_11_method_13_code_96 2 rfl rfl rfl
theorem W_prog_11_method_14_code_0 : chW prog_11_method_14_code 0 [42, 180, 0, 40, 27, 46, 4, 100, 184, 0, 142, 5, 100, 172] := chW_of (by decide +kernel)
theorem d_11_14_0 : decode prog_11_method_14_code 0 = .ok (.aload_n 0, 1) := D_42 W_prog_11_method_14_code_0 0 rfl rfl
theorem d_11_14_1 : decode prog_11_method_14_code 1 = .ok (.getfield 40, 3) := D_180 W_prog_11_method_14_code_0 1 rfl rfl rfl
theorem d_11_14_4 : decode prog_11_method_14_code 4 = .ok (.iload_n 1, 1) := D_27 W_prog_11_method_14_code_0 4 rfl rfl
theorem d_11_14_5 : decode prog_11_method_14_code 5 = .ok (.iaload, 1) := D_46 W_prog_11_method_14_code_0 5 rfl rfl
theorem d_11_14_6 : decode prog_11_method_14_code 6 = .ok (.iconst 1, 1) := D_4 W_prog_11_method_14_code_0 6 rfl rfl
theorem d_11_14_7 : decode prog_11_method_14_code 7 = .ok (.isub, 1) := D_100 W_prog_11_method_14_code_0 7 rfl rfl
theorem d_11_14_8 : decode prog_11_method_14_code 8 = .ok (.invokestatic 142, 3) := D_184 W_prog_11_method_14_code_0 8 rfl rfl rfl
theorem d_11_14_11 : decode prog_11_method_14_code 11 = .ok (.iconst 2, 1) := D_5 W_prog_11_method_14_code_0 11 rfl rfl
theorem d_11_14_12 : decode prog_11_method_14_code 12 = .ok (.isub, 1) := D_100 W_prog_11_method_14_code_0 12 rfl rfl
theorem d_11_14_13 : decode prog_11_method_14_code 13 = .ok (.ireturn, 1) := D_172 W_prog_11_method_14_code_0 13 rfl rfl
theorem W_prog_11_method_18_code_0 : chW prog_11_method_18_code 0 [7, 42, 180, 0, 183, 104, 42, 180, 0, 186, 4, 160, 0, 7, 8, 167, 0, 4, 3, 96, 16, 7, 184, 0, 130, 172] := chW_of (by decide +kernel)
theorem d_11_18_0 : decode prog_11_method_18_code 0 = .ok (.iconst 4, 1) := D_7 W_prog_11_method_18_code_0 0 rfl rfl
theorem d_11_18_1 : decode prog_11_method_18_code 1 = .ok (.aload_n 0, 1) := D_42 W_prog_11_method_18_code_0 1 rfl rfl
theorem d_11_18_2 : decode prog_11_method_18_code 2 = .ok (.getfield 183, 3) := D_180 W_prog_11_method_18_code_0 2 rfl rfl rfl
theorem d_11_18_5 : decode prog_11_method_18_code 5 = .ok (.imul, 1) := D_104 W_prog_11_method_18_code_0 5 rfl rfl
theorem d_11_18_6 : decode prog_11_method_18_code 6 = .ok (.aload_n 0, 1) := D_42 W_prog_11_method_18_code_0 6 rfl rfl
theorem d_11_18_7 : decode prog_11_method_18_code 7 = .ok (.getfield 186, 3) := D_180 W_prog_11_method_18_code_0 7 rfl rfl rfl
theorem d_11_18_10 : decode prog_11_method_18_code 10 = .ok (.iconst 1, 1) := D_4 W_prog_11_method_18_code_0 10 rfl rfl
theorem d_11_18_11 : decode prog_11_method_18_code 11 = .ok (.if_icmp .ne 7, 3) := D_160 W_prog_11_method_18_code_0 11 rfl rfl rfl
theorem d_11_18_18 : decode prog_11_method_18_code 18 = .ok (.iconst 0, 1) := D_3 W_prog_11_method_18_code_0 18 rfl rfl
theorem d_11_18_14 : decode prog_11_method_18_code 14 = .ok (.iconst 5, 1) := D_8 W_prog_11_method_18_code_0 14 rfl rfl
theorem d_11_18_15 : decode prog_11_method_18_code 15 = .ok (.goto 4, 3) := D_167 W_prog_11_method_18_code_0 15 rfl rfl rfl
theorem d_11_18_19 : decode prog_11_method_18_code 19 = .ok (.iadd, 1) := D_96 W_prog_11_method_18_code_0 19 rfl rfl
theorem d_11_18_20 : decode prog_11_method_18_code 20 = .ok (.bipush 7, 2) := D_16 W_prog_11_method_18_code_0 20 rfl rfl rfl
theorem d_11_18_22 : decode prog_11_method_18_code 22 = .ok (.invokestatic 130, 3) := D_184 W_prog_11_method_18_code_0 22 rfl rfl rfl
theorem d_11_18_25 : decode prog_11_method_18_code 25 = .ok (.ireturn, 1) := D_172 W_prog_11_method_18_code_0 25 rfl rfl
theorem W_prog_11_method_19_code_0 : chW prog_11_method_19_code 0 [3, 61, 28, 16, 7, 162, 0, 37, 4, 43, 180, 0, 183, 28, 184, 0, 189, 5, 96, 120, 62, 42, 180, 0, 40, 28, 46, 29, 2, 130, 126, 153, 0, 5, 4, 172] := chW_of (by decide +kernel)
theorem d_11_19_0 : decode prog_11_method_19_code 0 = .ok (.iconst 0, 1) := D_3 W_prog_11_method_19_code_0 0 rfl rfl
theorem d_11_19_1 : decode prog_11_method_19_code 1 = .ok (.istore_n 2, 1) := D_61 W_prog_11_method_19_code_0 1 rfl rfl
theorem d_11_19_2 : decode prog_11_method_19_code 2 = .ok (.iload_n 2, 1) := D_28 W_prog_11_method_19_code_0 2 rfl rfl
theorem d_11_19_3 : decode prog_11_method_19_code 3 = .ok (.bipush 7, 2) := D_16 W_prog_11_method_19_code_0 3 rfl rfl rfl
theorem d_11_19_5 : decode prog_11_method_19_code 5 = .ok (.if_icmp .ge 37, 3) := D_162 W_prog_11_method_19_code_0 5 rfl rfl rfl
theorem W_prog_11_method_19_code_32 : chW prog_11_method_19_code 32 [0, 5, 4, 172, 132, 2, 1, 167, 255, 219, 3, 172] := chW_of (by decide +kernel)
theorem d_11_19_42 : decode prog_11_method_19_code 42 = .ok (.iconst 0, 1) := D_3 W_prog_11_method_19_code_32 10 rfl rfl
theorem d_11_19_43 : decode prog_11_method_19_code 43 = .ok (.ireturn, 1) := D_172 W_prog_11_method_19_code_32 11 rfl rfl
theorem d_11_19_8 : decode prog_11_method_19_code 8 = .ok (.iconst 1, 1) := D_4 W_prog_11_method_19_code_0 8 rfl rfl
theorem d_11_19_9 : decode prog_11_method_19_code 9 = .ok (.aload_n 1, 1) := D_43 W_prog_11_method_19_code_0 9 rfl rfl
theorem d_11_19_10 : decode prog_11_method_19_code 10 = .ok (.getfield 183, 3) := D_180 W_prog_11_method_19_code_0 10 rfl rfl rfl
theorem d_11_19_13 : decode prog_11_method_19_code 13 = .ok (.iload_n 2, 1) := D_28 W_prog_11_method_19_code_0 13 rfl rfl
theorem d_11_19_14 : decode prog_11_method_19_code 14 = .ok (.invokestatic 189, 3) := D_184 W_prog_11_method_19_code_0 14 rfl rfl rfl
theorem d_11_19_17 : decode prog_11_method_19_code 17 = .ok (.iconst 2, 1) := D_5 W_prog_11_method_19_code_0 17 rfl rfl
theorem d_11_19_18 : decode prog_11_method_19_code 18 = .ok (.iadd, 1) := D_96 W_prog_11_method_19_code_0 18 rfl rfl
theorem d_11_19_19 : decode prog_11_method_19_code 19 = .ok (.ishl, 1) := D_120 W_prog_11_method_19_code_0 19 rfl rfl
theorem d_11_19_20 : decode prog_11_method_19_code 20 = .ok (.istore_n 3, 1) := D_62 W_prog_11_method_19_code_0 20 rfl rfl
theorem d_11_19_21 : decode prog_11_method_19_code 21 = .ok (.aload_n 0, 1) := D_42 W_prog_11_method_19_code_0 21 rfl rfl
theorem d_11_19_22 : decode prog_11_method_19_code 22 = .ok (.getfield 40, 3) := D_180 W_prog_11_method_19_code_0 22 rfl rfl rfl
theorem d_11_19_25 : decode prog_11_method_19_code 25 = .ok (.iload_n 2, 1) := D_28 W_prog_11_method_19_code_0 25 rfl rfl
theorem d_11_19_26 : decode prog_11_method_19_code 26 = .ok (.iaload, 1) := D_46 W_prog_11_method_19_code_0 26 rfl rfl
theorem d_11_19_27 : decode prog_11_method_19_code 27 = .ok (.iload_n 3, 1) := D_29 W_prog_11_method_19_code_0 27 rfl rfl
theorem d_11_19_28 : decode prog_11_method_19_code 28 = .ok (.iconst (-1), 1) := D_2 W_prog_11_method_19_code_0 28 rfl rfl
theorem d_11_19_29 : decode prog_11_method_19_code 29 = .ok (.ixor, 1) := D_130 W_prog_11_method_19_code_0 29 rfl rfl
theorem d_11_19_30 : decode prog_11_method_19_code 30 = .ok (.iand, 1) := D_126 W_prog_11_method_19_code_0 30 rfl rfl
theorem d_11_19_31 : decode prog_11_method_19_code 31 = .ok (.ifCond .eq 5, 3) := D_153 W_prog_11_method_19_code_0 31 rfl rfl rfl
theorem d_11_19_36 : decode prog_11_method_19_code 36 = .ok (.iinc 2 1, 3) := D_132 W_prog_11_method_19_code_32 4 rfl rfl rfl
theorem d_11_19_39 : decode prog_11_method_19_code 39 = .ok (.goto (-37), 3) := D_167 W_prog_11_method_19_code_32 7 rfl rfl rfl
theorem d_11_19_34 : decode prog_11_method_19_code 34 = .ok (.iconst 1, 1) := D_4 W_prog_11_method_19_code_32 2 rfl rfl
theorem d_11_19_35 : decode prog_11_method_19_code 35 = .ok (.ireturn, 1) := D_172 W_prog_11_method_19_code_32 3 rfl rfl
theorem W_prog_6_method_26_code_0 : chW prog_6_method_26_code 0 [3, 60, 27, 42, 180, 0, 31, 162, 0, 23, 42, 180, 0, 11, 27, 50, 182, 0, 146, 154, 0, 5, 27, 172, 132, 1, 1, 167, 255, 231, 2, 172] := chW_of (by decide +kernel)
theorem d_6_26_0 : decode prog_6_method_26_code 0 = .ok (.iconst 0, 1) := D_3 W_prog_6_method_26_code_0 0 rfl rfl
theorem d_6_26_1 : decode prog_6_method_26_code 1 = .ok (.istore_n 1, 1) := D_60 W_prog_6_method_26_code_0 1 rfl rfl
theorem d_6_26_2 : decode prog_6_method_26_code 2 = .ok (.iload_n 1, 1) := D_27 W_prog_6_method_26_code_0 2 rfl rfl
theorem d_6_26_3 : decode prog_6_method_26_code 3 = .ok (.aload_n 0, 1) := D_42 W_prog_6_method_26_code_0 3 rfl rfl
theorem d_6_26_4 : decode prog_6_method_26_code 4 = .ok (.getfield 31, 3) := D_180 W_prog_6_method_26_code_0 4 rfl rfl rfl
theorem d_6_26_7 : decode prog_6_method_26_code 7 = .ok (.if_icmp .ge 23, 3) := D_162 W_prog_6_method_26_code_0 7 rfl rfl rfl
theorem d_6_26_30 : decode prog_6_method_26_code 30 = .ok (.iconst (-1), 1) := D_2 W_prog_6_method_26_code_0 30 rfl rfl
theorem d_6_26_31 : decode prog_6_method_26_code 31 = .ok (.ireturn, 1) := D_172 W_prog_6_method_26_code_0 31 rfl rfl
theorem d_6_26_10 : decode prog_6_method_26_code 10 = .ok (.aload_n 0, 1) := D_42 W_prog_6_method_26_code_0 10 rfl rfl
theorem d_6_26_11 : decode prog_6_method_26_code 11 = .ok (.getfield 11, 3) := D_180 W_prog_6_method_26_code_0 11 rfl rfl rfl
theorem d_6_26_14 : decode prog_6_method_26_code 14 = .ok (.iload_n 1, 1) := D_27 W_prog_6_method_26_code_0 14 rfl rfl
theorem d_6_26_15 : decode prog_6_method_26_code 15 = .ok (.aaload, 1) := D_50 W_prog_6_method_26_code_0 15 rfl rfl
theorem d_6_26_16 : decode prog_6_method_26_code 16 = .ok (.invokevirtual 146, 3) := D_182 W_prog_6_method_26_code_0 16 rfl rfl rfl
theorem d_6_26_19 : decode prog_6_method_26_code 19 = .ok (.ifCond .ne 5, 3) := D_154 W_prog_6_method_26_code_0 19 rfl rfl rfl
theorem d_6_26_24 : decode prog_6_method_26_code 24 = .ok (.iinc 1 1, 3) := D_132 W_prog_6_method_26_code_0 24 rfl rfl rfl
theorem d_6_26_27 : decode prog_6_method_26_code 27 = .ok (.goto (-25), 3) := D_167 W_prog_6_method_26_code_0 27 rfl rfl rfl
theorem d_6_26_22 : decode prog_6_method_26_code 22 = .ok (.iload_n 1, 1) := D_27 W_prog_6_method_26_code_0 22 rfl rfl
theorem d_6_26_23 : decode prog_6_method_26_code 23 = .ok (.ireturn, 1) := D_172 W_prog_6_method_26_code_0 23 rfl rfl
theorem W_prog_6_method_29_code_0 : chW prog_6_method_29_code 0 [42, 180, 0, 87, 43, 180, 0, 87, 184, 0, 235, 10, 184, 0, 238, 55, 4, 44, 180, 0, 87, 45, 180, 0, 87, 184, 0, 235, 10, 184, 0, 238, 55, 6, 42, 180] := chW_of (by decide +kernel)
theorem d_6_29_0 : decode prog_6_method_29_code 0 = .ok (.aload_n 0, 1) := D_42 W_prog_6_method_29_code_0 0 rfl rfl
theorem d_6_29_1 : decode prog_6_method_29_code 1 = .ok (.getfield 87, 3) := D_180 W_prog_6_method_29_code_0 1 rfl rfl rfl
theorem d_6_29_4 : decode prog_6_method_29_code 4 = .ok (.aload_n 1, 1) := D_43 W_prog_6_method_29_code_0 4 rfl rfl
theorem d_6_29_5 : decode prog_6_method_29_code 5 = .ok (.getfield 87, 3) := D_180 W_prog_6_method_29_code_0 5 rfl rfl rfl
theorem d_6_29_8 : decode prog_6_method_29_code 8 = .ok (.invokestatic 235, 3) := D_184 W_prog_6_method_29_code_0 8 rfl rfl rfl
theorem d_6_29_11 : decode prog_6_method_29_code 11 = .ok (.lconst 1, 1) := D_10 W_prog_6_method_29_code_0 11 rfl rfl
theorem d_6_29_12 : decode prog_6_method_29_code 12 = .ok (.invokestatic 238, 3) := D_184 W_prog_6_method_29_code_0 12 rfl rfl rfl
theorem d_6_29_15 : decode prog_6_method_29_code 15 = .ok (.lstore 4, 2) := D_55 W_prog_6_method_29_code_0 15 rfl rfl
theorem d_6_29_17 : decode prog_6_method_29_code 17 = .ok (.aload_n 2, 1) := D_44 W_prog_6_method_29_code_0 17 rfl rfl
theorem d_6_29_18 : decode prog_6_method_29_code 18 = .ok (.getfield 87, 3) := D_180 W_prog_6_method_29_code_0 18 rfl rfl rfl
theorem d_6_29_21 : decode prog_6_method_29_code 21 = .ok (.aload_n 3, 1) := D_45 W_prog_6_method_29_code_0 21 rfl rfl
theorem d_6_29_22 : decode prog_6_method_29_code 22 = .ok (.getfield 87, 3) := D_180 W_prog_6_method_29_code_0 22 rfl rfl rfl
theorem d_6_29_25 : decode prog_6_method_29_code 25 = .ok (.invokestatic 235, 3) := D_184 W_prog_6_method_29_code_0 25 rfl rfl rfl
theorem d_6_29_28 : decode prog_6_method_29_code 28 = .ok (.lconst 1, 1) := D_10 W_prog_6_method_29_code_0 28 rfl rfl
theorem d_6_29_29 : decode prog_6_method_29_code 29 = .ok (.invokestatic 238, 3) := D_184 W_prog_6_method_29_code_0 29 rfl rfl rfl
theorem W_prog_6_method_29_code_32 : chW prog_6_method_29_code 32 [55, 6, 42, 180, 0, 87, 22, 4, 109, 44, 180, 0, 87, 22, 6, 109, 148, 154, 0, 25, 43, 180, 0, 87, 22, 4, 109, 45, 180, 0, 87, 22, 6, 109, 148, 154] := chW_of (by decide +kernel)
theorem d_6_29_32 : decode prog_6_method_29_code 32 = .ok (.lstore 6, 2) := D_55 W_prog_6_method_29_code_32 0 rfl rfl
theorem d_6_29_34 : decode prog_6_method_29_code 34 = .ok (.aload_n 0, 1) := D_42 W_prog_6_method_29_code_32 2 rfl rfl
theorem d_6_29_35 : decode prog_6_method_29_code 35 = .ok (.getfield 87, 3) := D_180 W_prog_6_method_29_code_32 3 rfl rfl rfl
theorem d_6_29_38 : decode prog_6_method_29_code 38 = .ok (.lload 4, 2) := D_22 W_prog_6_method_29_code_32 6 rfl rfl
theorem d_6_29_40 : decode prog_6_method_29_code 40 = .ok (.ldiv, 1) := D_109 W_prog_6_method_29_code_32 8 rfl rfl
theorem d_6_29_41 : decode prog_6_method_29_code 41 = .ok (.aload_n 2, 1) := D_44 W_prog_6_method_29_code_32 9 rfl rfl
theorem d_6_29_42 : decode prog_6_method_29_code 42 = .ok (.getfield 87, 3) := D_180 W_prog_6_method_29_code_32 10 rfl rfl rfl
theorem d_6_29_45 : decode prog_6_method_29_code 45 = .ok (.lload 6, 2) := D_22 W_prog_6_method_29_code_32 13 rfl rfl
theorem d_6_29_47 : decode prog_6_method_29_code 47 = .ok (.ldiv, 1) := D_109 W_prog_6_method_29_code_32 15 rfl rfl
theorem d_6_29_48 : decode prog_6_method_29_code 48 = .ok (.lcmp, 1) := D_148 W_prog_6_method_29_code_32 16 rfl rfl
theorem d_6_29_49 : decode prog_6_method_29_code 49 = .ok (.ifCond .ne 25, 3) := D_154 W_prog_6_method_29_code_32 17 rfl rfl rfl
theorem d_6_29_52 : decode prog_6_method_29_code 52 = .ok (.aload_n 1, 1) := D_43 W_prog_6_method_29_code_32 20 rfl rfl
theorem d_6_29_53 : decode prog_6_method_29_code 53 = .ok (.getfield 87, 3) := D_180 W_prog_6_method_29_code_32 21 rfl rfl rfl
theorem d_6_29_56 : decode prog_6_method_29_code 56 = .ok (.lload 4, 2) := D_22 W_prog_6_method_29_code_32 24 rfl rfl
theorem d_6_29_58 : decode prog_6_method_29_code 58 = .ok (.ldiv, 1) := D_109 W_prog_6_method_29_code_32 26 rfl rfl
theorem d_6_29_59 : decode prog_6_method_29_code 59 = .ok (.aload_n 3, 1) := D_45 W_prog_6_method_29_code_32 27 rfl rfl
theorem d_6_29_60 : decode prog_6_method_29_code 60 = .ok (.getfield 87, 3) := D_180 W_prog_6_method_29_code_32 28 rfl rfl rfl
theorem d_6_29_63 : decode prog_6_method_29_code 63 = .ok (.lload 6, 2) := D_22 W_prog_6_method_29_code_32 31 rfl rfl
theorem W_prog_6_method_29_code_64 : chW prog_6_method_29_code 64 [6, 109, 148, 154, 0, 7, 4, 167, 0, 4, 3, 172] := chW_of (by decide +kernel)
theorem d_6_29_65 : decode prog_6_method_29_code 65 = .ok (.ldiv, 1) := D_109 W_prog_6_method_29_code_64 1 rfl rfl
theorem d_6_29_66 : decode prog_6_method_29_code 66 = .ok (.lcmp, 1) := D_148 W_prog_6_method_29_code_64 2 rfl rfl
theorem d_6_29_67 : decode prog_6_method_29_code 67 = .ok (.ifCond .ne 7, 3) := D_154 W_prog_6_method_29_code_64 3 rfl rfl rfl
theorem d_6_29_70 : decode prog_6_method_29_code 70 = .ok (.iconst 1, 1) := D_4 W_prog_6_method_29_code_64 6 rfl rfl
theorem d_6_29_71 : decode prog_6_method_29_code 71 = .ok (.goto 4, 3) := D_167 W_prog_6_method_29_code_64 7 rfl rfl rfl
theorem d_6_29_75 : decode prog_6_method_29_code 75 = .ok (.ireturn, 1) := D_172 W_prog_6_method_29_code_64 11 rfl rfl
theorem d_6_29_74 : decode prog_6_method_29_code 74 = .ok (.iconst 0, 1) := D_3 W_prog_6_method_29_code_64 10 rfl rfl
theorem d_1_2_6 : decode prog_1_method_2_code 6 = .ok (.aload_n 0, 1) := D_42 W_prog_1_method_2_code_0 6 rfl rfl
theorem d_1_2_7 : decode prog_1_method_2_code 7 = .ok (.iconst 4, 1) := D_7 W_prog_1_method_2_code_0 7 rfl rfl
theorem d_1_2_8 : decode prog_1_method_2_code 8 = .ok (.iload_n 2, 1) := D_28 W_prog_1_method_2_code_0 8 rfl rfl
theorem d_1_2_9 : decode prog_1_method_2_code 9 = .ok (.invokevirtual 52, 3) := D_182 W_prog_1_method_2_code_0 9 rfl rfl rfl
theorem d_1_2_12 : decode prog_1_method_2_code 12 = .ok (.aload_n 0, 1) := D_42 W_prog_1_method_2_code_0 12 rfl rfl
theorem d_1_2_13 : decode prog_1_method_2_code 13 = .ok (.bipush 8, 2) := D_16 W_prog_1_method_2_code_0 13 rfl rfl rfl
theorem d_1_2_15 : decode prog_1_method_2_code 15 = .ok (.iload_n 3, 1) := D_29 W_prog_1_method_2_code_0 15 rfl rfl
theorem d_1_2_16 : decode prog_1_method_2_code 16 = .ok (.invokevirtual 52, 3) := D_182 W_prog_1_method_2_code_0 16 rfl rfl rfl
theorem d_1_2_19 : decode prog_1_method_2_code 19 = .ok (.aload_n 0, 1) := D_42 W_prog_1_method_2_code_0 19 rfl rfl
theorem d_1_2_20 : decode prog_1_method_2_code 20 = .ok (.bipush 12, 2) := D_16 W_prog_1_method_2_code_0 20 rfl rfl rfl
theorem d_1_2_22 : decode prog_1_method_2_code 22 = .ok (.iload 4, 2) := D_21 W_prog_1_method_2_code_0 22 rfl rfl
theorem d_1_2_24 : decode prog_1_method_2_code 24 = .ok (.invokevirtual 52, 3) := D_182 W_prog_1_method_2_code_0 24 rfl rfl rfl
theorem d_1_2_27 : decode prog_1_method_2_code 27 = .ok (.aload_n 0, 1) := D_42 W_prog_1_method_2_code_0 27 rfl rfl
theorem d_1_2_28 : decode prog_1_method_2_code 28 = .ok (.bipush 16, 2) := D_16 W_prog_1_method_2_code_0 28 rfl rfl rfl
theorem d_1_2_30 : decode prog_1_method_2_code 30 = .ok (.iload 5, 2) := D_21 W_prog_1_method_2_code_0 30 rfl rfl
theorem W_prog_1_method_2_code_32 : chW prog_1_method_2_code 32 [182, 0, 52, 177] := chW_of (by decide +kernel)
theorem d_1_2_32 : decode prog_1_method_2_code 32 = .ok (.invokevirtual 52, 3) := D_182 W_prog_1_method_2_code_32 0 rfl rfl rfl
theorem d_1_2_35 : decode prog_1_method_2_code 35 = .ok (.return_, 1) := D_177 W_prog_1_method_2_code_32 3 rfl rfl
theorem d_1_4_47 : decode prog_1_method_4_code 47 = .ok (.iinc 2 1, 3) := D_132 W_prog_1_method_4_code_32 15 rfl rfl rfl
theorem d_1_4_50 : decode prog_1_method_4_code 50 = .ok (.goto (-21), 3) := D_167 W_prog_1_method_4_code_32 18 rfl rfl rfl
theorem d_12_14_4 : decode prog_12_method_14_code 4 = .ok (.ifCond .ne 16, 3) := D_154 W_prog_12_method_14_code_0 4 rfl rfl rfl
theorem d_12_14_7 : decode prog_12_method_14_code 7 = .ok (.iload_n 0, 1) := D_26 W_prog_12_method_14_code_0 7 rfl rfl
theorem d_12_14_8 : decode prog_12_method_14_code 8 = .ok (.invokestatic 79, 3) := D_184 W_prog_12_method_14_code_0 8 rfl rfl rfl
theorem d_12_14_11 : decode prog_12_method_14_code 11 = .ok (.ifCond .ne 9, 3) := D_154 W_prog_12_method_14_code_0 11 rfl rfl rfl
theorem d_12_14_14 : decode prog_12_method_14_code 14 = .ok (.iload_n 0, 1) := D_26 W_prog_12_method_14_code_0 14 rfl rfl
theorem d_12_14_15 : decode prog_12_method_14_code 15 = .ok (.bipush 35, 2) := D_16 W_prog_12_method_14_code_0 15 rfl rfl rfl
theorem d_12_14_17 : decode prog_12_method_14_code 17 = .ok (.if_icmp .ne 7, 3) := D_160 W_prog_12_method_14_code_0 17 rfl rfl rfl
theorem d_12_14_24 : decode prog_12_method_14_code 24 = .ok (.iconst 0, 1) := D_3 W_prog_12_method_14_code_0 24 rfl rfl
theorem d_12_14_20 : decode prog_12_method_14_code 20 = .ok (.iconst 1, 1) := D_4 W_prog_12_method_14_code_0 20 rfl rfl
theorem d_12_14_21 : decode prog_12_method_14_code 21 = .ok (.goto 4, 3) := D_167 W_prog_12_method_14_code_0 21 rfl rfl rfl
theorem d_12_14_25 : decode prog_12_method_14_code 25 = .ok (.ireturn, 1) := D_172 W_prog_12_method_14_code_0 25 rfl rfl
theorem d_12_6_18 : decode prog_12_method_6_code 18 = .ok (.ifCond .eq 9, 3) := D_153 W_prog_12_method_6_code_0 18 rfl rfl rfl
theorem d_12_6_21 : decode prog_12_method_6_code 21 = .ok (.iinc 2 1, 3) := D_132 W_prog_12_method_6_code_0 21 rfl rfl rfl
theorem d_12_6_24 : decode prog_12_method_6_code 24 = .ok (.goto (-22), 3) := D_167 W_prog_12_method_6_code_0 24 rfl rfl rfl
theorem d_12_6_27 : decode prog_12_method_6_code 27 = .ok (.iload_n 2, 1) := D_28 W_prog_12_method_6_code_0 27 rfl rfl
theorem d_12_6_28 : decode prog_12_method_6_code 28 = .ok (.ireturn, 1) := D_172 W_prog_12_method_6_code_0 28 rfl rfl
theorem d_12_7_93 : decode prog_12_method_7_code 93 = .ok (.ifCond .eq 26, 3) := D_153 W_prog_12_method_7_code_64 29 rfl rfl rfl
theorem W_prog_12_method_7_code_96 : chW prog_12_method_7_code 96 [42, 180, 0, 9, 28, 5, 79, 42, 180, 0, 18, 28, 43, 29, 21, 7, 184, 0, 86, 80, 167, 0, 81, 21, 6, 21, 7, 160, 0, 36, 21, 7, 7, 163, 0, 30] := chW_of (by decide +kernel)
theorem d_12_7_119 : decode prog_12_method_7_code 119 = .ok (.iload 6, 2) := D_21 W_prog_12_method_7_code_96 23 rfl rfl
theorem d_12_7_121 : decode prog_12_method_7_code 121 = .ok (.iload 7, 2) := D_21 W_prog_12_method_7_code_96 25 rfl rfl
theorem d_12_7_123 : decode prog_12_method_7_code 123 = .ok (.if_icmp .ne 36, 3) := D_160 W_prog_12_method_7_code_96 27 rfl rfl rfl
theorem d_12_7_126 : decode prog_12_method_7_code 126 = .ok (.iload 7, 2) := D_21 W_prog_12_method_7_code_96 30 rfl rfl
theorem W_prog_12_method_7_code_128 : chW prog_12_method_7_code 128 [7, 163, 0, 30, 42, 180, 0, 9, 28, 6, 79, 42, 180, 0, 18, 28, 43, 29, 21, 7, 16, 10, 16, 48, 184, 0, 90, 80, 167, 0, 41, 21, 5, 21, 7, 160] := chW_of (by decide +kernel)
theorem d_12_7_128 : decode prog_12_method_7_code 128 = .ok (.iconst 4, 1) := D_7 W_prog_12_method_7_code_128 0 rfl rfl
theorem d_12_7_129 : decode prog_12_method_7_code 129 = .ok (.if_icmp .gt 30, 3) := D_163 W_prog_12_method_7_code_128 1 rfl rfl rfl
theorem d_12_7_132 : decode prog_12_method_7_code 132 = .ok (.aload_n 0, 1) := D_42 W_prog_12_method_7_code_128 4 rfl rfl
theorem d_12_7_133 : decode prog_12_method_7_code 133 = .ok (.getfield 9, 3) := D_180 W_prog_12_method_7_code_128 5 rfl rfl rfl
theorem d_12_7_136 : decode prog_12_method_7_code 136 = .ok (.iload_n 2, 1) := D_28 W_prog_12_method_7_code_128 8 rfl rfl
theorem d_12_7_137 : decode prog_12_method_7_code 137 = .ok (.iconst 3, 1) := D_6 W_prog_12_method_7_code_128 9 rfl rfl
theorem d_12_7_138 : decode prog_12_method_7_code 138 = .ok (.iastore, 1) := D_79 W_prog_12_method_7_code_128 10 rfl rfl
theorem d_12_7_139 : decode prog_12_method_7_code 139 = .ok (.aload_n 0, 1) := D_42 W_prog_12_method_7_code_128 11 rfl rfl
theorem d_12_7_140 : decode prog_12_method_7_code 140 = .ok (.getfield 18, 3) := D_180 W_prog_12_method_7_code_128 12 rfl rfl rfl
theorem d_12_7_143 : decode prog_12_method_7_code 143 = .ok (.iload_n 2, 1) := D_28 W_prog_12_method_7_code_128 15 rfl rfl
theorem d_12_7_144 : decode prog_12_method_7_code 144 = .ok (.aload_n 1, 1) := D_43 W_prog_12_method_7_code_128 16 rfl rfl
theorem d_12_7_145 : decode prog_12_method_7_code 145 = .ok (.iload_n 3, 1) := D_29 W_prog_12_method_7_code_128 17 rfl rfl
theorem d_12_7_146 : decode prog_12_method_7_code 146 = .ok (.iload 7, 2) := D_21 W_prog_12_method_7_code_128 18 rfl rfl
theorem d_12_7_148 : decode prog_12_method_7_code 148 = .ok (.bipush 10, 2) := D_16 W_prog_12_method_7_code_128 20 rfl rfl rfl
theorem d_12_7_150 : decode prog_12_method_7_code 150 = .ok (.bipush 48, 2) := D_16 W_prog_12_method_7_code_128 22 rfl rfl rfl
theorem d_12_7_152 : decode prog_12_method_7_code 152 = .ok (.invokestatic 90, 3) := D_184 W_prog_12_method_7_code_128 24 rfl rfl rfl
theorem d_12_7_155 : decode prog_12_method_7_code 155 = .ok (.lastore, 1) := D_80 W_prog_12_method_7_code_128 27 rfl rfl
theorem d_12_7_156 : decode prog_12_method_7_code 156 = .ok (.goto 41, 3) := D_167 W_prog_12_method_7_code_128 28 rfl rfl rfl
theorem d_12_7_96 : decode prog_12_method_7_code 96 = .ok (.aload_n 0, 1) := D_42 W_prog_12_method_7_code_96 0 rfl rfl
theorem d_12_7_97 : decode prog_12_method_7_code 97 = .ok (.getfield 9, 3) := D_180 W_prog_12_method_7_code_96 1 rfl rfl rfl
theorem d_12_7_100 : decode prog_12_method_7_code 100 = .ok (.iload_n 2, 1) := D_28 W_prog_12_method_7_code_96 4 rfl rfl
theorem d_12_7_101 : decode prog_12_method_7_code 101 = .ok (.iconst 2, 1) := D_5 W_prog_12_method_7_code_96 5 rfl rfl
theorem d_12_7_102 : decode prog_12_method_7_code 102 = .ok (.iastore, 1) := D_79 W_prog_12_method_7_code_96 6 rfl rfl
theorem d_12_7_103 : decode prog_12_method_7_code 103 = .ok (.aload_n 0, 1) := D_42 W_prog_12_method_7_code_96 7 rfl rfl
theorem d_12_7_104 : decode prog_12_method_7_code 104 = .ok (.getfield 18, 3) := D_180 W_prog_12_method_7_code_96 8 rfl rfl rfl
theorem d_12_7_107 : decode prog_12_method_7_code 107 = .ok (.iload_n 2, 1) := D_28 W_prog_12_method_7_code_96 11 rfl rfl
theorem d_12_7_108 : decode prog_12_method_7_code 108 = .ok (.aload_n 1, 1) := D_43 W_prog_12_method_7_code_96 12 rfl rfl
theorem d_12_7_109 : decode prog_12_method_7_code 109 = .ok (.iload_n 3, 1) := D_29 W_prog_12_method_7_code_96 13 rfl rfl
theorem d_12_7_110 : decode prog_12_method_7_code 110 = .ok (.iload 7, 2) := D_21 W_prog_12_method_7_code_96 14 rfl rfl
theorem d_12_7_112 : decode prog_12_method_7_code 112 = .ok (.invokestatic 86, 3) := D_184 W_prog_12_method_7_code_96 16 rfl rfl rfl
theorem d_12_7_115 : decode prog_12_method_7_code 115 = .ok (.lastore, 1) := D_80 W_prog_12_method_7_code_96 19 rfl rfl
theorem d_12_7_116 : decode prog_12_method_7_code 116 = .ok (.goto 81, 3) := D_167 W_prog_12_method_7_code_96 20 rfl rfl rfl
theorem d_12_7_16 : decode prog_12_method_7_code 16 = .ok (.iload 5, 2) := D_21 W_prog_12_method_7_code_0 16 rfl rfl
theorem d_12_7_18 : decode prog_12_method_7_code 18 = .ok (.aload_n 1, 1) := D_43 W_prog_12_method_7_code_0 18 rfl rfl
theorem d_12_7_19 : decode prog_12_method_7_code 19 = .ok (.iload 7, 2) := D_21 W_prog_12_method_7_code_0 19 rfl rfl
theorem d_12_7_21 : decode prog_12_method_7_code 21 = .ok (.invokevirtual 28, 3) := D_182 W_prog_12_method_7_code_0 21 rfl rfl rfl
theorem d_12_7_24 : decode prog_12_method_7_code 24 = .ok (.invokestatic 76, 3) := D_184 W_prog_12_method_7_code_0 24 rfl rfl rfl
theorem d_12_7_27 : decode prog_12_method_7_code 27 = .ok (.ifCond .eq 7, 3) := D_153 W_prog_12_method_7_code_0 27 rfl rfl rfl
theorem W_prog_12_method_7_code_32 : chW prog_12_method_7_code 32 [0, 4, 3, 96, 54, 5, 21, 6, 43, 21, 7, 182, 0, 28, 184, 0, 79, 153, 0, 7, 4, 167, 0, 4, 3, 96, 54, 6, 132, 7, 1, 167, 255, 202, 21, 4] := chW_of (by decide +kernel)
theorem d_12_7_34 : decode prog_12_method_7_code 34 = .ok (.iconst 0, 1) := D_3 W_prog_12_method_7_code_32 2 rfl rfl
theorem d_12_7_30 : decode prog_12_method_7_code 30 = .ok (.iconst 1, 1) := D_4 W_prog_12_method_7_code_0 30 rfl rfl
theorem d_12_7_31 : decode prog_12_method_7_code 31 = .ok (.goto 4, 3) := D_167 W_prog_12_method_7_code_0 31 rfl rfl rfl
theorem d_12_7_35 : decode prog_12_method_7_code 35 = .ok (.iadd, 1) := D_96 W_prog_12_method_7_code_32 3 rfl rfl
theorem d_12_7_36 : decode prog_12_method_7_code 36 = .ok (.istore 5, 2) := D_54 W_prog_12_method_7_code_32 4 rfl rfl
theorem d_12_7_38 : decode prog_12_method_7_code 38 = .ok (.iload 6, 2) := D_21 W_prog_12_method_7_code_32 6 rfl rfl
theorem d_12_7_40 : decode prog_12_method_7_code 40 = .ok (.aload_n 1, 1) := D_43 W_prog_12_method_7_code_32 8 rfl rfl
theorem d_12_7_41 : decode prog_12_method_7_code 41 = .ok (.iload 7, 2) := D_21 W_prog_12_method_7_code_32 9 rfl rfl
theorem d_12_7_43 : decode prog_12_method_7_code 43 = .ok (.invokevirtual 28, 3) := D_182 W_prog_12_method_7_code_32 11 rfl rfl rfl
theorem d_12_7_46 : decode prog_12_method_7_code 46 = .ok (.invokestatic 79, 3) := D_184 W_prog_12_method_7_code_32 14 rfl rfl rfl
theorem d_12_7_49 : decode prog_12_method_7_code 49 = .ok (.ifCond .eq 7, 3) := D_153 W_prog_12_method_7_code_32 17 rfl rfl rfl
theorem d_12_7_56 : decode prog_12_method_7_code 56 = .ok (.iconst 0, 1) := D_3 W_prog_12_method_7_code_32 24 rfl rfl
theorem d_12_7_52 : decode prog_12_method_7_code 52 = .ok (.iconst 1, 1) := D_4 W_prog_12_method_7_code_32 20 rfl rfl
theorem d_12_7_53 : decode prog_12_method_7_code 53 = .ok (.goto 4, 3) := D_167 W_prog_12_method_7_code_32 21 rfl rfl rfl
theorem d_12_7_57 : decode prog_12_method_7_code 57 = .ok (.iadd, 1) := D_96 W_prog_12_method_7_code_32 25 rfl rfl
theorem d_12_7_58 : decode prog_12_method_7_code 58 = .ok (.istore 6, 2) := D_54 W_prog_12_method_7_code_32 26 rfl rfl
theorem d_12_7_60 : decode prog_12_method_7_code 60 = .ok (.iinc 7 1, 3) := D_132 W_prog_12_method_7_code_32 28 rfl rfl rfl
theorem d_12_7_63 : decode prog_12_method_7_code 63 = .ok (.goto (-54), 3) := D_167 W_prog_12_method_7_code_32 31 rfl rfl rfl
theorem W_prog_12_method_7_code_192 : chW prog_12_method_7_code 192 [3, 184, 0, 90, 80, 177] := chW_of (by decide +kernel)
theorem d_12_7_197 : decode prog_12_method_7_code 197 = .ok (.return_, 1) := D_177 W_prog_12_method_7_code_192 5 rfl rfl
theorem d_12_7_159 : decode prog_12_method_7_code 159 = .ok (.iload 5, 2) := D_21 W_prog_12_method_7_code_128 31 rfl rfl
theorem W_prog_12_method_7_code_160 : chW prog_12_method_7_code 160 [5, 21, 7, 160, 0, 34, 21, 7, 16, 8, 163, 0, 27, 42, 180, 0, 9, 28, 7, 79, 42, 180, 0, 18, 28, 43, 29, 21, 7, 17, 1, 0, 3, 184, 0, 90] := chW_of (by decide +kernel)
theorem d_12_7_161 : decode prog_12_method_7_code 161 = .ok (.iload 7, 2) := D_21 W_prog_12_method_7_code_160 1 rfl rfl
theorem d_12_7_163 : decode prog_12_method_7_code 163 = .ok (.if_icmp .ne 34, 3) := D_160 W_prog_12_method_7_code_160 3 rfl rfl rfl
theorem d_12_7_166 : decode prog_12_method_7_code 166 = .ok (.iload 7, 2) := D_21 W_prog_12_method_7_code_160 6 rfl rfl
theorem d_12_7_168 : decode prog_12_method_7_code 168 = .ok (.bipush 8, 2) := D_16 W_prog_12_method_7_code_160 8 rfl rfl rfl
theorem d_12_7_170 : decode prog_12_method_7_code 170 = .ok (.if_icmp .gt 27, 3) := D_163 W_prog_12_method_7_code_160 10 rfl rfl rfl
theorem d_12_7_173 : decode prog_12_method_7_code 173 = .ok (.aload_n 0, 1) := D_42 W_prog_12_method_7_code_160 13 rfl rfl
theorem d_12_7_174 : decode prog_12_method_7_code 174 = .ok (.getfield 9, 3) := D_180 W_prog_12_method_7_code_160 14 rfl rfl rfl
theorem d_12_7_177 : decode prog_12_method_7_code 177 = .ok (.iload_n 2, 1) := D_28 W_prog_12_method_7_code_160 17 rfl rfl
theorem d_12_7_178 : decode prog_12_method_7_code 178 = .ok (.iconst 4, 1) := D_7 W_prog_12_method_7_code_160 18 rfl rfl
theorem d_12_7_179 : decode prog_12_method_7_code 179 = .ok (.iastore, 1) := D_79 W_prog_12_method_7_code_160 19 rfl rfl
theorem d_12_7_180 : decode prog_12_method_7_code 180 = .ok (.aload_n 0, 1) := D_42 W_prog_12_method_7_code_160 20 rfl rfl
theorem d_12_7_181 : decode prog_12_method_7_code 181 = .ok (.getfield 18, 3) := D_180 W_prog_12_method_7_code_160 21 rfl rfl rfl
theorem d_12_7_184 : decode prog_12_method_7_code 184 = .ok (.iload_n 2, 1) := D_28 W_prog_12_method_7_code_160 24 rfl rfl
theorem d_12_7_185 : decode prog_12_method_7_code 185 = .ok (.aload_n 1, 1) := D_43 W_prog_12_method_7_code_160 25 rfl rfl
theorem d_12_7_186 : decode prog_12_method_7_code 186 = .ok (.iload_n 3, 1) := D_29 W_prog_12_method_7_code_160 26 rfl rfl
theorem d_12_7_187 : decode prog_12_method_7_code 187 = .ok (.iload 7, 2) := D_21 W_prog_12_method_7_code_160 27 rfl rfl
theorem d_12_7_189 : decode prog_12_method_7_code 189 = .ok (.sipush 256, 3) := D_17 W_prog_12_method_7_code_160 29 rfl rfl rfl
theorem d_12_7_192 : decode prog_12_method_7_code 192 = .ok (.iconst 0, 1) := D_3 W_prog_12_method_7_code_192 0 rfl rfl
theorem d_12_7_193 : decode prog_12_method_7_code 193 = .ok (.invokestatic 90, 3) := D_184 W_prog_12_method_7_code_192 1 rfl rfl rfl
theorem d_12_7_196 : decode prog_12_method_7_code 196 = .ok (.lastore, 1) := D_80 W_prog_12_method_7_code_192 4 rfl rfl
theorem d_22_22_4 : decode prog_22_method_22_code 4 = .ok (.ifCond .ne 5, 3) := D_154 W_prog_22_method_22_code_0 4 rfl rfl rfl
theorem d_22_22_9 : decode prog_22_method_22_code 9 = .ok (.iload_n 2, 1) := D_28 W_prog_22_method_22_code_0 9 rfl rfl
theorem d_22_22_10 : decode prog_22_method_22_code 10 = .ok (.iconst 0, 1) := D_3 W_prog_22_method_22_code_0 10 rfl rfl
theorem d_22_22_11 : decode prog_22_method_22_code 11 = .ok (.invokestatic 92, 3) := D_184 W_prog_22_method_22_code_0 11 rfl rfl rfl
theorem d_22_22_14 : decode prog_22_method_22_code 14 = .ok (.istore_n 2, 1) := D_61 W_prog_22_method_22_code_0 14 rfl rfl
theorem d_22_22_15 : decode prog_22_method_22_code 15 = .ok (.iload_n 3, 1) := D_29 W_prog_22_method_22_code_0 15 rfl rfl
theorem d_22_22_16 : decode prog_22_method_22_code 16 = .ok (.aload_n 0, 1) := D_42 W_prog_22_method_22_code_0 16 rfl rfl
theorem d_22_22_17 : decode prog_22_method_22_code 17 = .ok (.arraylength, 1) := D_190 W_prog_22_method_22_code_0 17 rfl rfl
theorem d_22_22_18 : decode prog_22_method_22_code 18 = .ok (.invokestatic 38, 3) := D_184 W_prog_22_method_22_code_0 18 rfl rfl rfl
theorem d_22_22_21 : decode prog_22_method_22_code 21 = .ok (.istore_n 3, 1) := D_62 W_prog_22_method_22_code_0 21 rfl rfl
theorem d_22_22_22 : decode prog_22_method_22_code 22 = .ok (.iload_n 2, 1) := D_28 W_prog_22_method_22_code_0 22 rfl rfl
theorem d_22_22_23 : decode prog_22_method_22_code 23 = .ok (.iload_n 3, 1) := D_29 W_prog_22_method_22_code_0 23 rfl rfl
theorem d_22_22_24 : decode prog_22_method_22_code 24 = .ok (.if_icmp .lt 5, 3) := D_161 W_prog_22_method_22_code_0 24 rfl rfl rfl
theorem d_22_22_29 : decode prog_22_method_22_code 29 = .ok (.aload_n 0, 1) := D_42 W_prog_22_method_22_code_0 29 rfl rfl
theorem d_22_22_30 : decode prog_22_method_22_code 30 = .ok (.iload_n 1, 1) := D_27 W_prog_22_method_22_code_0 30 rfl rfl
theorem d_22_22_31 : decode prog_22_method_22_code 31 = .ok (.iload_n 2, 1) := D_28 W_prog_22_method_22_code_0 31 rfl rfl
theorem W_prog_22_method_22_code_32 : chW prog_22_method_22_code 32 [29, 184, 0, 95, 172] := chW_of (by decide +kernel)
theorem d_22_22_32 : decode prog_22_method_22_code 32 = .ok (.iload_n 3, 1) := D_29 W_prog_22_method_22_code_32 0 rfl rfl
theorem d_22_22_33 : decode prog_22_method_22_code 33 = .ok (.invokestatic 95, 3) := D_184 W_prog_22_method_22_code_32 1 rfl rfl rfl
theorem d_22_22_36 : decode prog_22_method_22_code 36 = .ok (.ireturn, 1) := D_172 W_prog_22_method_22_code_32 4 rfl rfl
theorem d_22_22_27 : decode prog_22_method_22_code 27 = .ok (.iconst (-1), 1) := D_2 W_prog_22_method_22_code_0 27 rfl rfl
theorem d_22_22_28 : decode prog_22_method_22_code 28 = .ok (.ireturn, 1) := D_172 W_prog_22_method_22_code_0 28 rfl rfl
theorem d_22_22_7 : decode prog_22_method_22_code 7 = .ok (.iconst (-1), 1) := D_2 W_prog_22_method_22_code_0 7 rfl rfl
theorem d_22_22_8 : decode prog_22_method_22_code 8 = .ok (.ireturn, 1) := D_172 W_prog_22_method_22_code_0 8 rfl rfl
theorem d_5_4_10 : decode prog_5_method_4_code 10 = .ok (.ifCond .eq 18, 3) := D_153 W_prog_5_method_4_code_0 10 rfl rfl rfl
theorem d_5_4_28 : decode prog_5_method_4_code 28 = .ok (.aload_n 0, 1) := D_42 W_prog_5_method_4_code_0 28 rfl rfl
theorem d_5_4_29 : decode prog_5_method_4_code 29 = .ok (.invokevirtual 112, 3) := D_182 W_prog_5_method_4_code_0 29 rfl rfl rfl
theorem W_prog_5_method_4_code_32 : chW prog_5_method_4_code 32 [153, 0, 19, 42, 180, 0, 69, 42, 182, 0, 112, 126, 154, 0, 7, 4, 167, 0, 4, 3, 172] := chW_of (by decide +kernel)
theorem d_5_4_32 : decode prog_5_method_4_code 32 = .ok (.ifCond .eq 19, 3) := D_153 W_prog_5_method_4_code_32 0 rfl rfl rfl
theorem d_5_4_35 : decode prog_5_method_4_code 35 = .ok (.aload_n 0, 1) := D_42 W_prog_5_method_4_code_32 3 rfl rfl
theorem d_5_4_36 : decode prog_5_method_4_code 36 = .ok (.getfield 69, 3) := D_180 W_prog_5_method_4_code_32 4 rfl rfl rfl
theorem d_5_4_39 : decode prog_5_method_4_code 39 = .ok (.aload_n 0, 1) := D_42 W_prog_5_method_4_code_32 7 rfl rfl
theorem d_5_4_40 : decode prog_5_method_4_code 40 = .ok (.invokevirtual 112, 3) := D_182 W_prog_5_method_4_code_32 8 rfl rfl rfl
theorem d_5_4_43 : decode prog_5_method_4_code 43 = .ok (.iand, 1) := D_126 W_prog_5_method_4_code_32 11 rfl rfl
theorem d_5_4_44 : decode prog_5_method_4_code 44 = .ok (.ifCond .ne 7, 3) := D_154 W_prog_5_method_4_code_32 12 rfl rfl rfl
theorem d_5_4_47 : decode prog_5_method_4_code 47 = .ok (.iconst 1, 1) := D_4 W_prog_5_method_4_code_32 15 rfl rfl
theorem d_5_4_48 : decode prog_5_method_4_code 48 = .ok (.goto 4, 3) := D_167 W_prog_5_method_4_code_32 16 rfl rfl rfl
theorem d_5_4_13 : decode prog_5_method_4_code 13 = .ok (.aload_n 0, 1) := D_42 W_prog_5_method_4_code_0 13 rfl rfl
theorem d_5_4_14 : decode prog_5_method_4_code 14 = .ok (.getfield 66, 3) := D_180 W_prog_5_method_4_code_0 14 rfl rfl rfl
theorem d_5_4_17 : decode prog_5_method_4_code 17 = .ok (.bipush 6, 2) := D_16 W_prog_5_method_4_code_0 17 rfl rfl rfl
theorem d_5_4_19 : decode prog_5_method_4_code 19 = .ok (.if_icmp .ge 7, 3) := D_162 W_prog_5_method_4_code_0 19 rfl rfl rfl
theorem d_5_4_26 : decode prog_5_method_4_code 26 = .ok (.iconst 0, 1) := D_3 W_prog_5_method_4_code_0 26 rfl rfl
theorem d_5_4_22 : decode prog_5_method_4_code 22 = .ok (.iconst 1, 1) := D_4 W_prog_5_method_4_code_0 22 rfl rfl
theorem d_5_4_23 : decode prog_5_method_4_code 23 = .ok (.goto 4, 3) := D_167 W_prog_5_method_4_code_0 23 rfl rfl rfl
theorem d_5_4_27 : decode prog_5_method_4_code 27 = .ok (.ireturn, 1) := D_172 W_prog_5_method_4_code_0 27 rfl rfl
theorem d_5_4_52 : decode prog_5_method_4_code 52 = .ok (.ireturn, 1) := D_172 W_prog_5_method_4_code_32 20 rfl rfl
theorem d_5_4_51 : decode prog_5_method_4_code 51 = .ok (.iconst 0, 1) := D_3 W_prog_5_method_4_code_32 19 rfl rfl
theorem d_5_12_26 : decode prog_5_method_12_code 26 = .ok (.iconst (-1), 1) := D_2 W_prog_5_method_12_code_0 26 rfl rfl
theorem d_5_12_27 : decode prog_5_method_12_code 27 = .ok (.if_icmp .ne 40, 3) := D_160 W_prog_5_method_12_code_0 27 rfl rfl rfl
theorem d_5_12_30 : decode prog_5_method_12_code 30 = .ok (.getstatic 215, 3) := D_178 W_prog_5_method_12_code_0 30 rfl rfl rfl
theorem W_prog_5_method_12_code_32 : chW prog_5_method_12_code 32 [215, 31, 184, 0, 193, 2, 160, 0, 29, 178, 0, 218, 31, 184, 0, 193, 2, 160, 0, 18, 178, 0, 221, 31, 184, 0, 193, 2, 160, 0, 7, 4, 167, 0, 4, 3] := chW_of (by decide +kernel)
theorem d_5_12_33 : decode prog_5_method_12_code 33 = .ok (.lload_n 1, 1) := D_31 W_prog_5_method_12_code_32 1 rfl rfl
theorem d_5_12_34 : decode prog_5_method_12_code 34 = .ok (.invokestatic 193, 3) := D_184 W_prog_5_method_12_code_32 2 rfl rfl rfl
theorem d_5_12_37 : decode prog_5_method_12_code 37 = .ok (.iconst (-1), 1) := D_2 W_prog_5_method_12_code_32 5 rfl rfl
theorem d_5_12_38 : decode prog_5_method_12_code 38 = .ok (.if_icmp .ne 29, 3) := D_160 W_prog_5_method_12_code_32 6 rfl rfl rfl
theorem d_5_12_41 : decode prog_5_method_12_code 41 = .ok (.getstatic 218, 3) := D_178 W_prog_5_method_12_code_32 9 rfl rfl rfl
theorem d_5_12_44 : decode prog_5_method_12_code 44 = .ok (.lload_n 1, 1) := D_31 W_prog_5_method_12_code_32 12 rfl rfl
theorem d_5_12_45 : decode prog_5_method_12_code 45 = .ok (.invokestatic 193, 3) := D_184 W_prog_5_method_12_code_32 13 rfl rfl rfl
theorem d_5_12_48 : decode prog_5_method_12_code 48 = .ok (.iconst (-1), 1) := D_2 W_prog_5_method_12_code_32 16 rfl rfl
theorem d_5_12_49 : decode prog_5_method_12_code 49 = .ok (.if_icmp .ne 18, 3) := D_160 W_prog_5_method_12_code_32 17 rfl rfl rfl
theorem d_5_12_52 : decode prog_5_method_12_code 52 = .ok (.getstatic 221, 3) := D_178 W_prog_5_method_12_code_32 20 rfl rfl rfl
theorem d_5_12_55 : decode prog_5_method_12_code 55 = .ok (.lload_n 1, 1) := D_31 W_prog_5_method_12_code_32 23 rfl rfl
theorem d_5_12_56 : decode prog_5_method_12_code 56 = .ok (.invokestatic 193, 3) := D_184 W_prog_5_method_12_code_32 24 rfl rfl rfl
theorem d_5_12_59 : decode prog_5_method_12_code 59 = .ok (.iconst (-1), 1) := D_2 W_prog_5_method_12_code_32 27 rfl rfl
theorem d_5_12_60 : decode prog_5_method_12_code 60 = .ok (.if_icmp .ne 7, 3) := D_160 W_prog_5_method_12_code_32 28 rfl rfl rfl
theorem d_5_12_63 : decode prog_5_method_12_code 63 = .ok (.iconst 1, 1) := D_4 W_prog_5_method_12_code_32 31 rfl rfl
theorem W_prog_5_method_12_code_64 : chW prog_5_method_12_code 64 [167, 0, 4, 3, 172] := chW_of (by decide +kernel)
theorem d_5_12_64 : decode prog_5_method_12_code 64 = .ok (.goto 4, 3) := D_167 W_prog_5_method_12_code_64 0 rfl rfl rfl
theorem d_5_12_68 : decode prog_5_method_12_code 68 = .ok (.ireturn, 1) := D_172 W_prog_5_method_12_code_64 4 rfl rfl
theorem d_5_12_67 : decode prog_5_method_12_code 67 = .ok (.iconst 0, 1) := D_3 W_prog_5_method_12_code_64 3 rfl rfl
theorem d_5_14_8 : decode prog_5_method_14_code 8 = .ok (.ifCond .ne 9, 3) := D_154 W_prog_5_method_14_code_0 8 rfl rfl rfl
theorem d_5_14_17 : decode prog_5_method_14_code 17 = .ok (.aload_n 0, 1) := D_42 W_prog_5_method_14_code_0 17 rfl rfl
theorem d_5_14_18 : decode prog_5_method_14_code 18 = .ok (.getfield 48, 3) := D_180 W_prog_5_method_14_code_0 18 rfl rfl rfl
theorem d_5_14_21 : decode prog_5_method_14_code 21 = .ok (.invokevirtual 122, 3) := D_182 W_prog_5_method_14_code_0 21 rfl rfl rfl
theorem d_5_14_24 : decode prog_5_method_14_code 24 = .ok (.iconst 1, 1) := D_4 W_prog_5_method_14_code_0 24 rfl rfl
theorem d_5_14_25 : decode prog_5_method_14_code 25 = .ok (.ireturn, 1) := D_172 W_prog_5_method_14_code_0 25 rfl rfl
theorem d_5_14_11 : decode prog_5_method_14_code 11 = .ok (.aload_n 0, 1) := D_42 W_prog_5_method_14_code_0 11 rfl rfl
theorem d_5_14_12 : decode prog_5_method_14_code 12 = .ok (.iconst 2, 1) := D_5 W_prog_5_method_14_code_0 12 rfl rfl
theorem d_5_14_13 : decode prog_5_method_14_code 13 = .ok (.invokevirtual 101, 3) := D_182 W_prog_5_method_14_code_0 13 rfl rfl rfl
theorem d_5_14_16 : decode prog_5_method_14_code 16 = .ok (.ireturn, 1) := D_172 W_prog_5_method_14_code_0 16 rfl rfl
theorem d_5_25_47 : decode prog_5_method_25_code 47 = .ok (.aload_n 0, 1) := D_42 W_prog_5_method_25_code_32 15 rfl rfl
theorem d_5_25_48 : decode prog_5_method_25_code 48 = .ok (.iconst 2, 1) := D_5 W_prog_5_method_25_code_32 16 rfl rfl
theorem d_5_25_49 : decode prog_5_method_25_code 49 = .ok (.invokevirtual 101, 3) := D_182 W_prog_5_method_25_code_32 17 rfl rfl rfl
theorem d_5_25_52 : decode prog_5_method_25_code 52 = .ok (.goto 9, 3) := D_167 W_prog_5_method_25_code_32 20 rfl rfl rfl
theorem d_5_25_61 : decode prog_5_method_25_code 61 = .ok (.ireturn, 1) := D_172 W_prog_5_method_25_code_32 29 rfl rfl
theorem d_5_15_69 : decode prog_5_method_15_code 69 = .ok (.iconst 1, 1) := D_4 W_prog_5_method_15_code_64 5 rfl rfl
theorem d_5_15_70 : decode prog_5_method_15_code 70 = .ok (.if_icmp .eq 9, 3) := D_159 W_prog_5_method_15_code_64 6 rfl rfl rfl
theorem d_5_15_73 : decode prog_5_method_15_code 73 = .ok (.aload_n 0, 1) := D_42 W_prog_5_method_15_code_64 9 rfl rfl
theorem d_5_15_74 : decode prog_5_method_15_code 74 = .ok (.iconst 5, 1) := D_8 W_prog_5_method_15_code_64 10 rfl rfl
theorem d_5_15_75 : decode prog_5_method_15_code 75 = .ok (.invokevirtual 101, 3) := D_182 W_prog_5_method_15_code_64 11 rfl rfl rfl
theorem d_5_15_78 : decode prog_5_method_15_code 78 = .ok (.ireturn, 1) := D_172 W_prog_5_method_15_code_64 14 rfl rfl
theorem d_5_15_79 : decode prog_5_method_15_code 79 = .ok (.aload_n 0, 1) := D_42 W_prog_5_method_15_code_64 15 rfl rfl
theorem d_5_15_80 : decode prog_5_method_15_code 80 = .ok (.aload_n 0, 1) := D_42 W_prog_5_method_15_code_64 16 rfl rfl
theorem d_5_15_81 : decode prog_5_method_15_code 81 = .ok (.getfield 48, 3) := D_180 W_prog_5_method_15_code_64 17 rfl rfl rfl
theorem d_5_15_84 : decode prog_5_method_15_code 84 = .ok (.getfield 173, 3) := D_180 W_prog_5_method_15_code_64 20 rfl rfl rfl
theorem d_5_15_87 : decode prog_5_method_15_code 87 = .ok (.l2i, 1) := D_136 W_prog_5_method_15_code_64 23 rfl rfl
theorem d_5_15_88 : decode prog_5_method_15_code 88 = .ok (.putfield 135, 3) := D_181 W_prog_5_method_15_code_64 24 rfl rfl rfl
theorem d_5_15_91 : decode prog_5_method_15_code 91 = .ok (.aload_n 0, 1) := D_42 W_prog_5_method_15_code_64 27 rfl rfl
