theorem d_11_11_142 : decode prog_11_method_11_code 142 = .ok (.bipush 7, 2) := D_16 W_prog_11_method_11_code_128 14 rfl rfl rfl
theorem d_11_11_144 : decode prog_11_method_11_code 144 = .ok (.irem, 1) := D_112 W_prog_11_method_11_code_128 16 rfl rfl
theorem d_11_11_145 : decode prog_11_method_11_code 145 = .ok (.iaload, 1) := D_46 W_prog_11_method_11_code_128 17 rfl rfl
theorem d_11_11_146 : decode prog_11_method_11_code 146 = .ok (.if_icmp .lt 16, 3) := D_161 W_prog_11_method_11_code_128 18 rfl rfl rfl
theorem d_11_11_149 : decode prog_11_method_11_code 149 = .ok (.iload 6, 2) := D_21 W_prog_11_method_11_code_128 21 rfl rfl
theorem d_11_11_151 : decode prog_11_method_11_code 151 = .ok (.getstatic 136, 3) := D_178 W_prog_11_method_11_code_128 23 rfl rfl rfl
theorem d_11_11_154 : decode prog_11_method_11_code 154 = .ok (.iload_n 3, 1) := D_29 W_prog_11_method_11_code_128 26 rfl rfl
theorem d_11_11_155 : decode prog_11_method_11_code 155 = .ok (.bipush 7, 2) := D_16 W_prog_11_method_11_code_128 27 rfl rfl rfl
theorem d_11_11_157 : decode prog_11_method_11_code 157 = .ok (.irem, 1) := D_112 W_prog_11_method_11_code_128 29 rfl rfl
theorem d_11_11_158 : decode prog_11_method_11_code 158 = .ok (.iaload, 1) := D_46 W_prog_11_method_11_code_128 30 rfl rfl
theorem d_11_11_159 : decode prog_11_method_11_code 159 = .ok (.if_icmp .le 7, 3) := D_164 W_prog_11_method_11_code_128 31 rfl rfl rfl
theorem W_prog_11_method_11_code_160 : chW prog_11_method_11_code 160 [0, 7, 4, 167, 0, 4, 3, 172] := chW_of (by decide +kernel)
theorem d_11_11_166 : decode prog_11_method_11_code 166 = .ok (.iconst 0, 1) := D_3 W_prog_11_method_11_code_160 6 rfl rfl
theorem d_11_11_162 : decode prog_11_method_11_code 162 = .ok (.iconst 1, 1) := D_4 W_prog_11_method_11_code_160 2 rfl rfl
theorem d_11_11_163 : decode prog_11_method_11_code 163 = .ok (.goto 4, 3) := D_167 W_prog_11_method_11_code_160 3 rfl rfl rfl
theorem d_11_11_167 : decode prog_11_method_11_code 167 = .ok (.ireturn, 1) := D_172 W_prog_11_method_11_code_160 7 rfl rfl
theorem W_prog_7_method_4_code_0 : chW prog_7_method_4_code 0 [20, 0, 92, 30, 105, 20, 0, 94, 109, 136, 172] := chW_of (by decide +kernel)
theorem d_7_4_0 : decode prog_7_method_4_code 0 = .ok (.ldc2_w 92, 3) := D_20 W_prog_7_method_4_code_0 0 rfl rfl rfl
theorem d_7_4_3 : decode prog_7_method_4_code 3 = .ok (.lload_n 0, 1) := D_30 W_prog_7_method_4_code_0 3 rfl rfl
theorem d_7_4_4 : decode prog_7_method_4_code 4 = .ok (.lmul, 1) := D_105 W_prog_7_method_4_code_0 4 rfl rfl
theorem d_7_4_5 : decode prog_7_method_4_code 5 = .ok (.ldc2_w 94, 3) := D_20 W_prog_7_method_4_code_0 5 rfl rfl rfl
theorem d_7_4_8 : decode prog_7_method_4_code 8 = .ok (.ldiv, 1) := D_109 W_prog_7_method_4_code_0 8 rfl rfl
theorem d_7_4_9 : decode prog_7_method_4_code 9 = .ok (.l2i, 1) := D_136 W_prog_7_method_4_code_0 9 rfl rfl
theorem d_7_4_10 : decode prog_7_method_4_code 10 = .ok (.ireturn, 1) := D_172 W_prog_7_method_4_code_0 10 rfl rfl
theorem W_prog_7_method_5_code_0 : chW prog_7_method_5_code 0 [16, 20, 16, 13, 42, 180, 0, 96, 104, 96, 42, 16, 16, 182, 0, 77, 153, 0, 8, 16, 15, 167, 0, 4, 3, 96, 16, 127, 184, 0, 99, 172] := chW_of (by decide +kernel)
theorem d_7_5_0 : decode prog_7_method_5_code 0 = .ok (.bipush 20, 2) := D_16 W_prog_7_method_5_code_0 0 rfl rfl rfl
theorem d_7_5_2 : decode prog_7_method_5_code 2 = .ok (.bipush 13, 2) := D_16 W_prog_7_method_5_code_0 2 rfl rfl rfl
theorem d_7_5_4 : decode prog_7_method_5_code 4 = .ok (.aload_n 0, 1) := D_42 W_prog_7_method_5_code_0 4 rfl rfl
theorem d_7_5_5 : decode prog_7_method_5_code 5 = .ok (.getfield 96, 3) := D_180 W_prog_7_method_5_code_0 5 rfl rfl rfl
theorem d_7_5_8 : decode prog_7_method_5_code 8 = .ok (.imul, 1) := D_104 W_prog_7_method_5_code_0 8 rfl rfl
theorem d_7_5_9 : decode prog_7_method_5_code 9 = .ok (.iadd, 1) := D_96 W_prog_7_method_5_code_0 9 rfl rfl
theorem d_7_5_10 : decode prog_7_method_5_code 10 = .ok (.aload_n 0, 1) := D_42 W_prog_7_method_5_code_0 10 rfl rfl
theorem d_7_5_11 : decode prog_7_method_5_code 11 = .ok (.bipush 16, 2) := D_16 W_prog_7_method_5_code_0 11 rfl rfl rfl
theorem d_7_5_13 : decode prog_7_method_5_code 13 = .ok (.invokevirtual 77, 3) := D_182 W_prog_7_method_5_code_0 13 rfl rfl rfl
theorem d_7_5_16 : decode prog_7_method_5_code 16 = .ok (.ifCond .eq 8, 3) := D_153 W_prog_7_method_5_code_0 16 rfl rfl rfl
theorem d_7_5_24 : decode prog_7_method_5_code 24 = .ok (.iconst 0, 1) := D_3 W_prog_7_method_5_code_0 24 rfl rfl
theorem d_7_5_19 : decode prog_7_method_5_code 19 = .ok (.bipush 15, 2) := D_16 W_prog_7_method_5_code_0 19 rfl rfl rfl
theorem d_7_5_21 : decode prog_7_method_5_code 21 = .ok (.goto 4, 3) := D_167 W_prog_7_method_5_code_0 21 rfl rfl rfl
theorem d_7_5_25 : decode prog_7_method_5_code 25 = .ok (.iadd, 1) := D_96 W_prog_7_method_5_code_0 25 rfl rfl
theorem d_7_5_26 : decode prog_7_method_5_code 26 = .ok (.bipush 127, 2) := D_16 W_prog_7_method_5_code_0 26 rfl rfl rfl
theorem d_7_5_28 : decode prog_7_method_5_code 28 = .ok (.invokestatic 99, 3) := D_184 W_prog_7_method_5_code_0 28 rfl rfl rfl
theorem d_7_5_31 : decode prog_7_method_5_code 31 = .ok (.ireturn, 1) := D_172 W_prog_7_method_5_code_0 31 rfl rfl
theorem W_prog_7_method_8_code_0 : chW prog_7_method_8_code 0 [42, 180, 0, 73, 27, 50, 180, 0, 135, 28, 46, 62, 42, 180, 0, 73, 27, 50, 180, 0, 138, 28, 46, 54, 4, 27, 54, 5, 21, 5, 4, 96, 42, 180, 0, 56] := chW_of (by decide +kernel)
theorem d_7_8_0 : decode prog_7_method_8_code 0 = .ok (.aload_n 0, 1) := D_42 W_prog_7_method_8_code_0 0 rfl rfl
theorem d_7_8_1 : decode prog_7_method_8_code 1 = .ok (.getfield 73, 3) := D_180 W_prog_7_method_8_code_0 1 rfl rfl rfl
theorem d_7_8_4 : decode prog_7_method_8_code 4 = .ok (.iload_n 1, 1) := D_27 W_prog_7_method_8_code_0 4 rfl rfl
theorem d_7_8_5 : decode prog_7_method_8_code 5 = .ok (.aaload, 1) := D_50 W_prog_7_method_8_code_0 5 rfl rfl
theorem d_7_8_6 : decode prog_7_method_8_code 6 = .ok (.getfield 135, 3) := D_180 W_prog_7_method_8_code_0 6 rfl rfl rfl
theorem d_7_8_9 : decode prog_7_method_8_code 9 = .ok (.iload_n 2, 1) := D_28 W_prog_7_method_8_code_0 9 rfl rfl
theorem d_7_8_10 : decode prog_7_method_8_code 10 = .ok (.iaload, 1) := D_46 W_prog_7_method_8_code_0 10 rfl rfl
theorem d_7_8_11 : decode prog_7_method_8_code 11 = .ok (.istore_n 3, 1) := D_62 W_prog_7_method_8_code_0 11 rfl rfl
theorem d_7_8_12 : decode prog_7_method_8_code 12 = .ok (.aload_n 0, 1) := D_42 W_prog_7_method_8_code_0 12 rfl rfl
theorem d_7_8_13 : decode prog_7_method_8_code 13 = .ok (.getfield 73, 3) := D_180 W_prog_7_method_8_code_0 13 rfl rfl rfl
theorem d_7_8_16 : decode prog_7_method_8_code 16 = .ok (.iload_n 1, 1) := D_27 W_prog_7_method_8_code_0 16 rfl rfl
theorem d_7_8_17 : decode prog_7_method_8_code 17 = .ok (.aaload, 1) := D_50 W_prog_7_method_8_code_0 17 rfl rfl
theorem d_7_8_18 : decode prog_7_method_8_code 18 = .ok (.getfield 138, 3) := D_180 W_prog_7_method_8_code_0 18 rfl rfl rfl
theorem d_7_8_21 : decode prog_7_method_8_code 21 = .ok (.iload_n 2, 1) := D_28 W_prog_7_method_8_code_0 21 rfl rfl
theorem d_7_8_22 : decode prog_7_method_8_code 22 = .ok (.iaload, 1) := D_46 W_prog_7_method_8_code_0 22 rfl rfl
theorem d_7_8_23 : decode prog_7_method_8_code 23 = .ok (.istore 4, 2) := D_54 W_prog_7_method_8_code_0 23 rfl rfl
theorem d_7_8_25 : decode prog_7_method_8_code 25 = .ok (.iload_n 1, 1) := D_27 W_prog_7_method_8_code_0 25 rfl rfl
theorem d_7_8_26 : decode prog_7_method_8_code 26 = .ok (.istore 5, 2) := D_54 W_prog_7_method_8_code_0 26 rfl rfl
theorem d_7_8_28 : decode prog_7_method_8_code 28 = .ok (.iload 5, 2) := D_21 W_prog_7_method_8_code_0 28 rfl rfl
theorem d_7_8_30 : decode prog_7_method_8_code 30 = .ok (.iconst 1, 1) := D_4 W_prog_7_method_8_code_0 30 rfl rfl
theorem d_7_8_31 : decode prog_7_method_8_code 31 = .ok (.iadd, 1) := D_96 W_prog_7_method_8_code_0 31 rfl rfl
theorem W_prog_7_method_8_code_32 : chW prog_7_method_8_code 32 [42, 180, 0, 56, 162, 0, 41, 42, 180, 0, 73, 21, 5, 50, 4, 182, 0, 77, 153, 0, 27, 42, 180, 0, 73, 21, 5, 4, 96, 50, 29, 21, 4, 182, 0, 141] := chW_of (by decide +kernel)
theorem d_7_8_32 : decode prog_7_method_8_code 32 = .ok (.aload_n 0, 1) := D_42 W_prog_7_method_8_code_32 0 rfl rfl
theorem d_7_8_33 : decode prog_7_method_8_code 33 = .ok (.getfield 56, 3) := D_180 W_prog_7_method_8_code_32 1 rfl rfl rfl
theorem d_7_8_36 : decode prog_7_method_8_code 36 = .ok (.if_icmp .ge 41, 3) := D_162 W_prog_7_method_8_code_32 4 rfl rfl rfl
theorem d_7_8_39 : decode prog_7_method_8_code 39 = .ok (.aload_n 0, 1) := D_42 W_prog_7_method_8_code_32 7 rfl rfl
theorem d_7_8_40 : decode prog_7_method_8_code 40 = .ok (.getfield 73, 3) := D_180 W_prog_7_method_8_code_32 8 rfl rfl rfl
theorem d_7_8_43 : decode prog_7_method_8_code 43 = .ok (.iload 5, 2) := D_21 W_prog_7_method_8_code_32 11 rfl rfl
theorem d_7_8_45 : decode prog_7_method_8_code 45 = .ok (.aaload, 1) := D_50 W_prog_7_method_8_code_32 13 rfl rfl
theorem d_7_8_46 : decode prog_7_method_8_code 46 = .ok (.iconst 1, 1) := D_4 W_prog_7_method_8_code_32 14 rfl rfl
theorem d_7_8_47 : decode prog_7_method_8_code 47 = .ok (.invokevirtual 77, 3) := D_182 W_prog_7_method_8_code_32 15 rfl rfl rfl
theorem d_7_8_50 : decode prog_7_method_8_code 50 = .ok (.ifCond .eq 27, 3) := D_153 W_prog_7_method_8_code_32 18 rfl rfl rfl
theorem d_7_8_53 : decode prog_7_method_8_code 53 = .ok (.aload_n 0, 1) := D_42 W_prog_7_method_8_code_32 21 rfl rfl
theorem d_7_8_54 : decode prog_7_method_8_code 54 = .ok (.getfield 73, 3) := D_180 W_prog_7_method_8_code_32 22 rfl rfl rfl
theorem d_7_8_57 : decode prog_7_method_8_code 57 = .ok (.iload 5, 2) := D_21 W_prog_7_method_8_code_32 25 rfl rfl
theorem d_7_8_59 : decode prog_7_method_8_code 59 = .ok (.iconst 1, 1) := D_4 W_prog_7_method_8_code_32 27 rfl rfl
theorem d_7_8_60 : decode prog_7_method_8_code 60 = .ok (.iadd, 1) := D_96 W_prog_7_method_8_code_32 28 rfl rfl
theorem d_7_8_61 : decode prog_7_method_8_code 61 = .ok (.aaload, 1) := D_50 W_prog_7_method_8_code_32 29 rfl rfl
theorem d_7_8_62 : decode prog_7_method_8_code 62 = .ok (.iload_n 3, 1) := D_29 W_prog_7_method_8_code_32 30 rfl rfl
theorem d_7_8_63 : decode prog_7_method_8_code 63 = .ok (.iload 4, 2) := D_21 W_prog_7_method_8_code_32 31 rfl rfl
theorem W_prog_7_method_8_code_64 : chW prog_7_method_8_code 64 [4, 182, 0, 141, 153, 0, 9, 132, 5, 1, 167, 255, 210, 21, 5, 172] := chW_of (by decide +kernel)
theorem d_7_8_65 : decode prog_7_method_8_code 65 = .ok (.invokevirtual 141, 3) := D_182 W_prog_7_method_8_code_64 1 rfl rfl rfl
theorem d_7_8_68 : decode prog_7_method_8_code 68 = .ok (.ifCond .eq 9, 3) := D_153 W_prog_7_method_8_code_64 4 rfl rfl rfl
theorem d_7_8_71 : decode prog_7_method_8_code 71 = .ok (.iinc 5 1, 3) := D_132 W_prog_7_method_8_code_64 7 rfl rfl rfl
theorem d_7_8_74 : decode prog_7_method_8_code 74 = .ok (.goto (-46), 3) := D_167 W_prog_7_method_8_code_64 10 rfl rfl rfl
theorem d_7_8_77 : decode prog_7_method_8_code 77 = .ok (.iload 5, 2) := D_21 W_prog_7_method_8_code_64 13 rfl rfl
theorem d_7_8_79 : decode prog_7_method_8_code 79 = .ok (.ireturn, 1) := D_172 W_prog_7_method_8_code_64 15 rfl rfl
theorem W_prog_7_method_9_code_0 : chW prog_7_method_9_code 0 [42, 16, 8, 182, 0, 77, 153, 0, 11, 4, 27, 5, 108, 184, 0, 144, 172, 42, 16, 32, 182, 0, 77, 154, 0, 10, 42, 180, 0, 147, 153, 0, 7, 27, 167, 0] := chW_of (by decide +kernel)
theorem d_7_9_0 : decode prog_7_method_9_code 0 = .ok (.aload_n 0, 1) := D_42 W_prog_7_method_9_code_0 0 rfl rfl
theorem d_7_9_1 : decode prog_7_method_9_code 1 = .ok (.bipush 8, 2) := D_16 W_prog_7_method_9_code_0 1 rfl rfl rfl
theorem d_7_9_3 : decode prog_7_method_9_code 3 = .ok (.invokevirtual 77, 3) := D_182 W_prog_7_method_9_code_0 3 rfl rfl rfl
theorem d_7_9_6 : decode prog_7_method_9_code 6 = .ok (.ifCond .eq 11, 3) := D_153 W_prog_7_method_9_code_0 6 rfl rfl rfl
theorem d_7_9_17 : decode prog_7_method_9_code 17 = .ok (.aload_n 0, 1) := D_42 W_prog_7_method_9_code_0 17 rfl rfl
theorem d_7_9_18 : decode prog_7_method_9_code 18 = .ok (.bipush 32, 2) := D_16 W_prog_7_method_9_code_0 18 rfl rfl rfl
theorem d_7_9_20 : decode prog_7_method_9_code 20 = .ok (.invokevirtual 77, 3) := D_182 W_prog_7_method_9_code_0 20 rfl rfl rfl
theorem d_7_9_23 : decode prog_7_method_9_code 23 = .ok (.ifCond .ne 10, 3) := D_154 W_prog_7_method_9_code_0 23 rfl rfl rfl
theorem d_7_9_26 : decode prog_7_method_9_code 26 = .ok (.aload_n 0, 1) := D_42 W_prog_7_method_9_code_0 26 rfl rfl
theorem d_7_9_27 : decode prog_7_method_9_code 27 = .ok (.getfield 147, 3) := D_180 W_prog_7_method_9_code_0 27 rfl rfl rfl
theorem d_7_9_30 : decode prog_7_method_9_code 30 = .ok (.ifCond .eq 7, 3) := D_153 W_prog_7_method_9_code_0 30 rfl rfl rfl
theorem W_prog_7_method_9_code_32 : chW prog_7_method_9_code 32 [7, 27, 167, 0, 9, 27, 27, 16, 8, 108, 100, 172] := chW_of (by decide +kernel)
theorem d_7_9_37 : decode prog_7_method_9_code 37 = .ok (.iload_n 1, 1) := D_27 W_prog_7_method_9_code_32 5 rfl rfl
theorem d_7_9_38 : decode prog_7_method_9_code 38 = .ok (.iload_n 1, 1) := D_27 W_prog_7_method_9_code_32 6 rfl rfl
theorem d_7_9_39 : decode prog_7_method_9_code 39 = .ok (.bipush 8, 2) := D_16 W_prog_7_method_9_code_32 7 rfl rfl rfl
theorem d_7_9_41 : decode prog_7_method_9_code 41 = .ok (.idiv, 1) := D_108 W_prog_7_method_9_code_32 9 rfl rfl
theorem d_7_9_42 : decode prog_7_method_9_code 42 = .ok (.isub, 1) := D_100 W_prog_7_method_9_code_32 10 rfl rfl
theorem d_7_9_9 : decode prog_7_method_9_code 9 = .ok (.iconst 1, 1) := D_4 W_prog_7_method_9_code_0 9 rfl rfl
theorem d_7_9_10 : decode prog_7_method_9_code 10 = .ok (.iload_n 1, 1) := D_27 W_prog_7_method_9_code_0 10 rfl rfl
theorem d_7_9_11 : decode prog_7_method_9_code 11 = .ok (.iconst 2, 1) := D_5 W_prog_7_method_9_code_0 11 rfl rfl
theorem d_7_9_12 : decode prog_7_method_9_code 12 = .ok (.idiv, 1) := D_108 W_prog_7_method_9_code_0 12 rfl rfl
theorem d_7_9_13 : decode prog_7_method_9_code 13 = .ok (.invokestatic 144, 3) := D_184 W_prog_7_method_9_code_0 13 rfl rfl rfl
theorem d_7_9_16 : decode prog_7_method_9_code 16 = .ok (.ireturn, 1) := D_172 W_prog_7_method_9_code_0 16 rfl rfl
theorem d_7_9_33 : decode prog_7_method_9_code 33 = .ok (.iload_n 1, 1) := D_27 W_prog_7_method_9_code_32 1 rfl rfl
theorem d_7_9_34 : decode prog_7_method_9_code 34 = .ok (.goto 9, 3) := D_167 W_prog_7_method_9_code_32 2 rfl rfl rfl
theorem d_7_9_43 : decode prog_7_method_9_code 43 = .ok (.ireturn, 1) := D_172 W_prog_7_method_9_code_32 11 rfl rfl
theorem W_prog_7_method_16_code_0 : chW prog_7_method_16_code 0 [42, 180, 0, 40, 154, 0, 10, 42, 180, 0, 36, 154, 0, 5, 2, 172, 3, 60, 27, 16, 12, 162, 0, 16, 42, 180, 0, 33, 27, 9, 80, 132, 1, 1, 167, 255] := chW_of (by decide +kernel)
theorem d_7_16_0 : decode prog_7_method_16_code 0 = .ok (.aload_n 0, 1) := D_42 W_prog_7_method_16_code_0 0 rfl rfl
theorem d_7_16_1 : decode prog_7_method_16_code 1 = .ok (.getfield 40, 3) := D_180 W_prog_7_method_16_code_0 1 rfl rfl rfl
theorem d_7_16_4 : decode prog_7_method_16_code 4 = .ok (.ifCond .ne 10, 3) := D_154 W_prog_7_method_16_code_0 4 rfl rfl rfl
theorem d_7_16_7 : decode prog_7_method_16_code 7 = .ok (.aload_n 0, 1) := D_42 W_prog_7_method_16_code_0 7 rfl rfl
theorem d_7_16_8 : decode prog_7_method_16_code 8 = .ok (.getfield 36, 3) := D_180 W_prog_7_method_16_code_0 8 rfl rfl rfl
theorem d_7_16_11 : decode prog_7_method_16_code 11 = .ok (.ifCond .ne 5, 3) := D_154 W_prog_7_method_16_code_0 11 rfl rfl rfl
theorem d_7_16_16 : decode prog_7_method_16_code 16 = .ok (.iconst 0, 1) := D_3 W_prog_7_method_16_code_0 16 rfl rfl
theorem d_7_16_17 : decode prog_7_method_16_code 17 = .ok (.istore_n 1, 1) := D_60 W_prog_7_method_16_code_0 17 rfl rfl
theorem d_7_16_14 : decode prog_7_method_16_code 14 = .ok (.iconst (-1), 1) := D_2 W_prog_7_method_16_code_0 14 rfl rfl
theorem d_7_16_15 : decode prog_7_method_16_code 15 = .ok (.ireturn, 1) := D_172 W_prog_7_method_16_code_0 15 rfl rfl
theorem d_7_16_18 : decode prog_7_method_16_code 18 = .ok (.iload_n 1, 1) := D_27 W_prog_7_method_16_code_0 18 rfl rfl
theorem d_7_16_19 : decode prog_7_method_16_code 19 = .ok (.bipush 12, 2) := D_16 W_prog_7_method_16_code_0 19 rfl rfl rfl
theorem d_7_16_21 : decode prog_7_method_16_code 21 = .ok (.if_icmp .ge 16, 3) := D_162 W_prog_7_method_16_code_0 21 rfl rfl rfl
theorem W_prog_7_method_16_code_32 : chW prog_7_method_16_code 32 [1, 1, 167, 255, 240, 3, 60, 27, 42, 180, 0, 36, 162, 0, 46, 42, 180, 0, 33, 42, 180, 0, 23, 5, 50, 27, 46, 16, 12, 112, 92, 47, 42, 180, 0, 23] := chW_of (by decide +kernel)
theorem d_7_16_37 : decode prog_7_method_16_code 37 = .ok (.iconst 0, 1) := D_3 W_prog_7_method_16_code_32 5 rfl rfl
theorem d_7_16_38 : decode prog_7_method_16_code 38 = .ok (.istore_n 1, 1) := D_60 W_prog_7_method_16_code_32 6 rfl rfl
theorem d_7_16_24 : decode prog_7_method_16_code 24 = .ok (.aload_n 0, 1) := D_42 W_prog_7_method_16_code_0 24 rfl rfl
theorem d_7_16_25 : decode prog_7_method_16_code 25 = .ok (.getfield 33, 3) := D_180 W_prog_7_method_16_code_0 25 rfl rfl rfl
theorem d_7_16_28 : decode prog_7_method_16_code 28 = .ok (.iload_n 1, 1) := D_27 W_prog_7_method_16_code_0 28 rfl rfl
theorem d_7_16_29 : decode prog_7_method_16_code 29 = .ok (.lconst 0, 1) := D_9 W_prog_7_method_16_code_0 29 rfl rfl
theorem d_7_16_30 : decode prog_7_method_16_code 30 = .ok (.lastore, 1) := D_80 W_prog_7_method_16_code_0 30 rfl rfl
theorem d_7_16_31 : decode prog_7_method_16_code 31 = .ok (.iinc 1 1, 3) := D_132 W_prog_7_method_16_code_0 31 rfl rfl rfl
theorem d_7_16_34 : decode prog_7_method_16_code 34 = .ok (.goto (-16), 3) := D_167 W_prog_7_method_16_code_32 2 rfl rfl rfl
theorem d_7_16_39 : decode prog_7_method_16_code 39 = .ok (.iload_n 1, 1) := D_27 W_prog_7_method_16_code_32 7 rfl rfl
theorem d_7_16_40 : decode prog_7_method_16_code 40 = .ok (.aload_n 0, 1) := D_42 W_prog_7_method_16_code_32 8 rfl rfl
theorem d_7_16_41 : decode prog_7_method_16_code 41 = .ok (.getfield 36, 3) := D_180 W_prog_7_method_16_code_32 9 rfl rfl rfl
theorem d_7_16_44 : decode prog_7_method_16_code 44 = .ok (.if_icmp .ge 46, 3) := D_162 W_prog_7_method_16_code_32 12 rfl rfl rfl
theorem W_prog_7_method_16_code_64 : chW prog_7_method_16_code 64 [42, 180, 0, 23, 8, 50, 27, 46, 42, 180, 0, 23, 7, 50, 27, 46, 100, 133, 97, 80, 132, 1, 1, 167, 255, 208, 3, 60, 20, 0, 190, 65, 3, 54, 4, 21] := chW_of (by decide +kernel)
theorem d_7_16_90 : decode prog_7_method_16_code 90 = .ok (.iconst 0, 1) := D_3 W_prog_7_method_16_code_64 26 rfl rfl
theorem d_7_16_91 : decode prog_7_method_16_code 91 = .ok (.istore_n 1, 1) := D_60 W_prog_7_method_16_code_64 27 rfl rfl
theorem d_7_16_92 : decode prog_7_method_16_code 92 = .ok (.ldc2_w 190, 3) := D_20 W_prog_7_method_16_code_64 28 rfl rfl rfl
theorem d_7_16_95 : decode prog_7_method_16_code 95 = .ok (.lstore_n 2, 1) := D_65 W_prog_7_method_16_code_64 31 rfl rfl
theorem W_prog_7_method_16_code_96 : chW prog_7_method_16_code 96 [3, 54, 4, 21, 4, 16, 24, 162, 0, 89, 9, 55, 5, 3, 54, 7, 21, 7, 16, 12, 162, 0, 57, 21, 7, 21, 4, 100, 16, 12, 184, 0, 192, 54, 8, 22] := chW_of (by decide +kernel)
theorem d_7_16_96 : decode prog_7_method_16_code 96 = .ok (.iconst 0, 1) := D_3 W_prog_7_method_16_code_96 0 rfl rfl
theorem d_7_16_97 : decode prog_7_method_16_code 97 = .ok (.istore 4, 2) := D_54 W_prog_7_method_16_code_96 1 rfl rfl
theorem d_7_16_47 : decode prog_7_method_16_code 47 = .ok (.aload_n 0, 1) := D_42 W_prog_7_method_16_code_32 15 rfl rfl
theorem d_7_16_48 : decode prog_7_method_16_code 48 = .ok (.getfield 33, 3) := D_180 W_prog_7_method_16_code_32 16 rfl rfl rfl
theorem d_7_16_51 : decode prog_7_method_16_code 51 = .ok (.aload_n 0, 1) := D_42 W_prog_7_method_16_code_32 19 rfl rfl
theorem d_7_16_52 : decode prog_7_method_16_code 52 = .ok (.getfield 23, 3) := D_180 W_prog_7_method_16_code_32 20 rfl rfl rfl
theorem d_7_16_55 : decode prog_7_method_16_code 55 = .ok (.iconst 2, 1) := D_5 W_prog_7_method_16_code_32 23 rfl rfl
theorem d_7_16_56 : decode prog_7_method_16_code 56 = .ok (.aaload, 1) := D_50 W_prog_7_method_16_code_32 24 rfl rfl
theorem d_7_16_57 : decode prog_7_method_16_code 57 = .ok (.iload_n 1, 1) := D_27 W_prog_7_method_16_code_32 25 rfl rfl
theorem d_7_16_58 : decode prog_7_method_16_code 58 = .ok (.iaload, 1) := D_46 W_prog_7_method_16_code_32 26 rfl rfl
theorem d_7_16_59 : decode prog_7_method_16_code 59 = .ok (.bipush 12, 2) := D_16 W_prog_7_method_16_code_32 27 rfl rfl rfl
theorem d_7_16_61 : decode prog_7_method_16_code 61 = .ok (.irem, 1) := D_112 W_prog_7_method_16_code_32 29 rfl rfl
theorem d_7_16_62 : decode prog_7_method_16_code 62 = .ok (.dup2, 1) := D_92 W_prog_7_method_16_code_32 30 rfl rfl
theorem d_7_16_63 : decode prog_7_method_16_code 63 = .ok (.laload, 1) := D_47 W_prog_7_method_16_code_32 31 rfl rfl
theorem d_7_16_64 : decode prog_7_method_16_code 64 = .ok (.aload_n 0, 1) := D_42 W_prog_7_method_16_code_64 0 rfl rfl
theorem d_7_16_65 : decode prog_7_method_16_code 65 = .ok (.getfield 23, 3) := D_180 W_prog_7_method_16_code_64 1 rfl rfl rfl
theorem d_7_16_68 : decode prog_7_method_16_code 68 = .ok (.iconst 5, 1) := D_8 W_prog_7_method_16_code_64 4 rfl rfl
theorem d_7_16_69 : decode prog_7_method_16_code 69 = .ok (.aaload, 1) := D_50 W_prog_7_method_16_code_64 5 rfl rfl
theorem d_7_16_70 : decode prog_7_method_16_code 70 = .ok (.iload_n 1, 1) := D_27 W_prog_7_method_16_code_64 6 rfl rfl
theorem d_7_16_71 : decode prog_7_method_16_code 71 = .ok (.iaload, 1) := D_46 W_prog_7_method_16_code_64 7 rfl rfl
theorem d_7_16_72 : decode prog_7_method_16_code 72 = .ok (.aload_n 0, 1) := D_42 W_prog_7_method_16_code_64 8 rfl rfl
theorem d_7_16_73 : decode prog_7_method_16_code 73 = .ok (.getfield 23, 3) := D_180 W_prog_7_method_16_code_64 9 rfl rfl rfl
theorem d_7_16_76 : decode prog_7_method_16_code 76 = .ok (.iconst 4, 1) := D_7 W_prog_7_method_16_code_64 12 rfl rfl
theorem d_7_16_77 : decode prog_7_method_16_code 77 = .ok (.aaload, 1) := D_50 W_prog_7_method_16_code_64 13 rfl rfl
theorem d_7_16_78 : decode prog_7_method_16_code 78 = .ok (.iload_n 1, 1) := D_27 W_prog_7_method_16_code_64 14 rfl rfl
theorem d_7_16_79 : decode prog_7_method_16_code 79 = .ok (.iaload, 1) := D_46 W_prog_7_method_16_code_64 15 rfl rfl
theorem d_7_16_80 : decode prog_7_method_16_code 80 = .ok (.isub, 1) := D_100 W_prog_7_method_16_code_64 16 rfl rfl
theorem d_7_16_81 : decode prog_7_method_16_code 81 = .ok (.i2l, 1) := D_133 W_prog_7_method_16_code_64 17 rfl rfl
theorem d_7_16_82 : decode prog_7_method_16_code 82 = .ok (.ladd, 1) := D_97 W_prog_7_method_16_code_64 18 rfl rfl
theorem d_7_16_83 : decode prog_7_method_16_code 83 = .ok (.lastore, 1) := D_80 W_prog_7_method_16_code_64 19 rfl rfl
theorem d_7_16_84 : decode prog_7_method_16_code 84 = .ok (.iinc 1 1, 3) := D_132 W_prog_7_method_16_code_64 20 rfl rfl rfl
theorem d_7_16_87 : decode prog_7_method_16_code 87 = .ok (.goto (-48), 3) := D_167 W_prog_7_method_16_code_64 23 rfl rfl rfl
theorem d_7_16_99 : decode prog_7_method_16_code 99 = .ok (.iload 4, 2) := D_21 W_prog_7_method_16_code_96 3 rfl rfl
theorem d_7_16_101 : decode prog_7_method_16_code 101 = .ok (.bipush 24, 2) := D_16 W_prog_7_method_16_code_96 5 rfl rfl rfl
theorem d_7_16_103 : decode prog_7_method_16_code 103 = .ok (.if_icmp .ge 89, 3) := D_162 W_prog_7_method_16_code_96 7 rfl rfl rfl
theorem W_prog_7_method_16_code_192 : chW prog_7_method_16_code 192 [27, 172] := chW_of (by decide +kernel)
theorem d_7_16_192 : decode prog_7_method_16_code 192 = .ok (.iload_n 1, 1) := D_27 W_prog_7_method_16_code_192 0 rfl rfl
theorem d_7_16_193 : decode prog_7_method_16_code 193 = .ok (.ireturn, 1) := D_172 W_prog_7_method_16_code_192 1 rfl rfl
theorem d_7_16_106 : decode prog_7_method_16_code 106 = .ok (.lconst 0, 1) := D_9 W_prog_7_method_16_code_96 10 rfl rfl
theorem d_7_16_107 : decode prog_7_method_16_code 107 = .ok (.lstore 5, 2) := D_55 W_prog_7_method_16_code_96 11 rfl rfl
theorem d_7_16_109 : decode prog_7_method_16_code 109 = .ok (.iconst 0, 1) := D_3 W_prog_7_method_16_code_96 13 rfl rfl
theorem d_7_16_110 : decode prog_7_method_16_code 110 = .ok (.istore 7, 2) := D_54 W_prog_7_method_16_code_96 14 rfl rfl
theorem d_7_16_112 : decode prog_7_method_16_code 112 = .ok (.iload 7, 2) := D_21 W_prog_7_method_16_code_96 16 rfl rfl
theorem d_7_16_114 : decode prog_7_method_16_code 114 = .ok (.bipush 12, 2) := D_16 W_prog_7_method_16_code_96 18 rfl rfl rfl
theorem d_7_16_116 : decode prog_7_method_16_code 116 = .ok (.if_icmp .ge 57, 3) := D_162 W_prog_7_method_16_code_96 20 rfl rfl rfl
theorem W_prog_7_method_16_code_160 : chW prog_7_method_16_code 160 [8, 46, 133, 105, 97, 55, 5, 132, 7, 1, 167, 255, 198, 22, 5, 32, 148, 158, 0, 9, 22, 5, 65, 21, 4, 60, 132, 4, 1, 167, 255, 166, 27, 172] := chW_of (by decide +kernel)
theorem d_7_16_173 : decode prog_7_method_16_code 173 = .ok (.lload 5, 2) := D_22 W_prog_7_method_16_code_160 13 rfl rfl
theorem d_7_16_175 : decode prog_7_method_16_code 175 = .ok (.lload_n 2, 1) := D_32 W_prog_7_method_16_code_160 15 rfl rfl
theorem d_7_16_176 : decode prog_7_method_16_code 176 = .ok (.lcmp, 1) := D_148 W_prog_7_method_16_code_160 16 rfl rfl
theorem d_7_16_177 : decode prog_7_method_16_code 177 = .ok (.ifCond .le 9, 3) := D_158 W_prog_7_method_16_code_160 17 rfl rfl rfl
theorem d_7_16_180 : decode prog_7_method_16_code 180 = .ok (.lload 5, 2) := D_22 W_prog_7_method_16_code_160 20 rfl rfl
theorem d_7_16_182 : decode prog_7_method_16_code 182 = .ok (.lstore_n 2, 1) := D_65 W_prog_7_method_16_code_160 22 rfl rfl
theorem d_7_16_183 : decode prog_7_method_16_code 183 = .ok (.iload 4, 2) := D_21 W_prog_7_method_16_code_160 23 rfl rfl
theorem d_7_16_185 : decode prog_7_method_16_code 185 = .ok (.istore_n 1, 1) := D_60 W_prog_7_method_16_code_160 25 rfl rfl
theorem d_7_16_119 : decode prog_7_method_16_code 119 = .ok (.iload 7, 2) := D_21 W_prog_7_method_16_code_96 23 rfl rfl
theorem d_7_16_121 : decode prog_7_method_16_code 121 = .ok (.iload 4, 2) := D_21 W_prog_7_method_16_code_96 25 rfl rfl
theorem d_7_16_123 : decode prog_7_method_16_code 123 = .ok (.isub, 1) := D_100 W_prog_7_method_16_code_96 27 rfl rfl
theorem d_7_16_124 : decode prog_7_method_16_code 124 = .ok (.bipush 12, 2) := D_16 W_prog_7_method_16_code_96 28 rfl rfl rfl
theorem d_7_16_126 : decode prog_7_method_16_code 126 = .ok (.invokestatic 192, 3) := D_184 W_prog_7_method_16_code_96 30 rfl rfl rfl
theorem W_prog_7_method_16_code_128 : chW prog_7_method_16_code 128 [192, 54, 8, 22, 5, 42, 180, 0, 33, 21, 7, 47, 21, 4, 16, 12, 162, 0, 12, 178, 0, 195, 21, 8, 46, 167, 0, 9, 178, 0, 198, 21, 8, 46, 133, 105] := chW_of (by decide +kernel)
theorem d_7_16_129 : decode prog_7_method_16_code 129 = .ok (.istore 8, 2) := D_54 W_prog_7_method_16_code_128 1 rfl rfl
theorem d_7_16_131 : decode prog_7_method_16_code 131 = .ok (.lload 5, 2) := D_22 W_prog_7_method_16_code_128 3 rfl rfl
theorem d_7_16_133 : decode prog_7_method_16_code 133 = .ok (.aload_n 0, 1) := D_42 W_prog_7_method_16_code_128 5 rfl rfl
theorem d_7_16_134 : decode prog_7_method_16_code 134 = .ok (.getfield 33, 3) := D_180 W_prog_7_method_16_code_128 6 rfl rfl rfl
theorem d_7_16_137 : decode prog_7_method_16_code 137 = .ok (.iload 7, 2) := D_21 W_prog_7_method_16_code_128 9 rfl rfl
theorem d_7_16_139 : decode prog_7_method_16_code 139 = .ok (.laload, 1) := D_47 W_prog_7_method_16_code_128 11 rfl rfl
theorem d_7_16_140 : decode prog_7_method_16_code 140 = .ok (.iload 4, 2) := D_21 W_prog_7_method_16_code_128 12 rfl rfl
theorem d_7_16_142 : decode prog_7_method_16_code 142 = .ok (.bipush 12, 2) := D_16 W_prog_7_method_16_code_128 14 rfl rfl rfl
theorem d_7_16_144 : decode prog_7_method_16_code 144 = .ok (.if_icmp .ge 12, 3) := D_162 W_prog_7_method_16_code_128 16 rfl rfl rfl
theorem d_7_16_156 : decode prog_7_method_16_code 156 = .ok (.getstatic 198, 3) := D_178 W_prog_7_method_16_code_128 28 rfl rfl rfl
theorem d_7_16_159 : decode prog_7_method_16_code 159 = .ok (.iload 8, 2) := D_21 W_prog_7_method_16_code_128 31 rfl rfl
theorem d_7_16_161 : decode prog_7_method_16_code 161 = .ok (.iaload, 1) := D_46 W_prog_7_method_16_code_160 1 rfl rfl
theorem d_7_16_147 : decode prog_7_method_16_code 147 = .ok (.getstatic 195, 3) := D_178 W_prog_7_method_16_code_128 19 rfl rfl rfl
theorem d_7_16_150 : decode prog_7_method_16_code 150 = .ok (.iload 8, 2) := D_21 W_prog_7_method_16_code_128 22 rfl rfl
theorem d_7_16_152 : decode prog_7_method_16_code 152 = .ok (.iaload, 1) := D_46 W_prog_7_method_16_code_128 24 rfl rfl
theorem d_7_16_153 : decode prog_7_method_16_code 153 = .ok (.goto 9, 3) := D_167 W_prog_7_method_16_code_128 25 rfl rfl rfl
theorem d_7_16_162 : decode prog_7_method_16_code 162 = .ok (.i2l, 1) := D_133 W_prog_7_method_16_code_160 2 rfl rfl
theorem d_7_16_163 : decode prog_7_method_16_code 163 = .ok (.lmul, 1) := D_105 W_prog_7_method_16_code_160 3 rfl rfl
theorem d_7_16_164 : decode prog_7_method_16_code 164 = .ok (.ladd, 1) := D_97 W_prog_7_method_16_code_160 4 rfl rfl
theorem d_7_16_165 : decode prog_7_method_16_code 165 = .ok (.lstore 5, 2) := D_55 W_prog_7_method_16_code_160 5 rfl rfl
theorem d_7_16_167 : decode prog_7_method_16_code 167 = .ok (.iinc 7 1, 3) := D_132 W_prog_7_method_16_code_160 7 rfl rfl rfl
theorem d_7_16_170 : decode prog_7_method_16_code 170 = .ok (.goto (-58), 3) := D_167 W_prog_7_method_16_code_160 10 rfl rfl rfl
theorem d_7_16_186 : decode prog_7_method_16_code 186 = .ok (.iinc 4 1, 3) := D_132 W_prog_7_method_16_code_160 26 rfl rfl rfl
theorem d_7_16_189 : decode prog_7_method_16_code 189 = .ok (.goto (-90), 3) := D_167 W_prog_7_method_16_code_160 29 rfl rfl rfl
theorem W_prog_1_method_7_code_0 : chW prog_1_method_7_code 0 [42, 27, 182, 0, 97, 78, 45, 198, 0, 15, 28, 155, 0, 11, 28, 45, 180, 0, 75, 161, 0, 7, 1, 167, 0, 9, 45, 180, 0, 78, 28, 50, 176] := chW_of (by decide +kernel)
theorem d_1_7_0 : decode prog_1_method_7_code 0 = .ok (.aload_n 0, 1) := D_42 W_prog_1_method_7_code_0 0 rfl rfl
theorem d_1_7_1 : decode prog_1_method_7_code 1 = .ok (.iload_n 1, 1) := D_27 W_prog_1_method_7_code_0 1 rfl rfl
theorem d_1_7_2 : decode prog_1_method_7_code 2 = .ok (.invokevirtual 97, 3) := D_182 W_prog_1_method_7_code_0 2 rfl rfl rfl
theorem d_1_7_5 : decode prog_1_method_7_code 5 = .ok (.astore_n 3, 1) := D_78 W_prog_1_method_7_code_0 5 rfl rfl
theorem d_1_7_6 : decode prog_1_method_7_code 6 = .ok (.aload_n 3, 1) := D_45 W_prog_1_method_7_code_0 6 rfl rfl
theorem d_1_7_7 : decode prog_1_method_7_code 7 = .ok (.ifnull 15, 3) := D_198 W_prog_1_method_7_code_0 7 rfl rfl rfl
theorem d_1_7_10 : decode prog_1_method_7_code 10 = .ok (.iload_n 2, 1) := D_28 W_prog_1_method_7_code_0 10 rfl rfl
theorem d_1_7_11 : decode prog_1_method_7_code 11 = .ok (.ifCond .lt 11, 3) := D_155 W_prog_1_method_7_code_0 11 rfl rfl rfl
theorem d_1_7_14 : decode prog_1_method_7_code 14 = .ok (.iload_n 2, 1) := D_28 W_prog_1_method_7_code_0 14 rfl rfl
theorem d_1_7_15 : decode prog_1_method_7_code 15 = .ok (.aload_n 3, 1) := D_45 W_prog_1_method_7_code_0 15 rfl rfl
theorem d_1_7_16 : decode prog_1_method_7_code 16 = .ok (.getfield 75, 3) := D_180 W_prog_1_method_7_code_0 16 rfl rfl rfl
theorem d_1_7_19 : decode prog_1_method_7_code 19 = .ok (.if_icmp .lt 7, 3) := D_161 W_prog_1_method_7_code_0 19 rfl rfl rfl
theorem d_1_7_26 : decode prog_1_method_7_code 26 = .ok (.aload_n 3, 1) := D_45 W_prog_1_method_7_code_0 26 rfl rfl
theorem d_1_7_27 : decode prog_1_method_7_code 27 = .ok (.getfield 78, 3) := D_180 W_prog_1_method_7_code_0 27 rfl rfl rfl
theorem d_1_7_30 : decode prog_1_method_7_code 30 = .ok (.iload_n 2, 1) := D_28 W_prog_1_method_7_code_0 30 rfl rfl
theorem d_1_7_31 : decode prog_1_method_7_code 31 = .ok (.aaload, 1) := D_50 W_prog_1_method_7_code_0 31 rfl rfl
theorem d_1_7_22 : decode prog_1_method_7_code 22 = .ok (.aconst_null, 1) := D_1 W_prog_1_method_7_code_0 22 rfl rfl
theorem d_1_7_23 : decode prog_1_method_7_code 23 = .ok (.goto 9, 3) := D_167 W_prog_1_method_7_code_0 23 rfl rfl rfl
theorem W_prog_1_method_7_code_32 : chW prog_1_method_7_code 32 [176] := chW_of (by decide +kernel)
theorem d_1_7_32 : decode prog_1_method_7_code 32 = .ok (.areturn, 1) := D_176 W_prog_1_method_7_code_32 0 rfl rfl
theorem W_prog_1_method_12_code_0 : chW prog_1_method_12_code 0 [42, 27, 28, 182, 0, 101, 78, 45, 199, 0, 7, 9, 167, 0, 7, 45, 180, 0, 183, 173] := chW_of (by decide +kernel)
theorem d_1_12_0 : decode prog_1_method_12_code 0 = .ok (.aload_n 0, 1) := D_42 W_prog_1_method_12_code_0 0 rfl rfl
theorem d_1_12_1 : decode prog_1_method_12_code 1 = .ok (.iload_n 1, 1) := D_27 W_prog_1_method_12_code_0 1 rfl rfl
theorem d_1_12_2 : decode prog_1_method_12_code 2 = .ok (.iload_n 2, 1) := D_28 W_prog_1_method_12_code_0 2 rfl rfl
theorem d_1_12_3 : decode prog_1_method_12_code 3 = .ok (.invokevirtual 101, 3) := D_182 W_prog_1_method_12_code_0 3 rfl rfl rfl
theorem d_1_12_6 : decode prog_1_method_12_code 6 = .ok (.astore_n 3, 1) := D_78 W_prog_1_method_12_code_0 6 rfl rfl
theorem d_1_12_7 : decode prog_1_method_12_code 7 = .ok (.aload_n 3, 1) := D_45 W_prog_1_method_12_code_0 7 rfl rfl
theorem d_1_12_8 : decode prog_1_method_12_code 8 = .ok (.ifnonnull 7, 3) := D_199 W_prog_1_method_12_code_0 8 rfl rfl rfl
theorem d_1_12_15 : decode prog_1_method_12_code 15 = .ok (.aload_n 3, 1) := D_45 W_prog_1_method_12_code_0 15 rfl rfl
theorem d_1_12_16 : decode prog_1_method_12_code 16 = .ok (.getfield 183, 3) := D_180 W_prog_1_method_12_code_0 16 rfl rfl rfl
theorem d_1_12_11 : decode prog_1_method_12_code 11 = .ok (.lconst 0, 1) := D_9 W_prog_1_method_12_code_0 11 rfl rfl
theorem d_1_12_12 : decode prog_1_method_12_code 12 = .ok (.goto 7, 3) := D_167 W_prog_1_method_12_code_0 12 rfl rfl rfl
theorem d_1_12_19 : decode prog_1_method_12_code 19 = .ok (.lreturn, 1) := D_173 W_prog_1_method_12_code_0 19 rfl rfl
theorem W_prog_1_method_8_code_0 : chW prog_1_method_8_code 0 [42, 27, 28, 182, 0, 101, 58, 4, 25, 4, 198, 0, 16, 29, 155, 0, 12, 29, 25, 4, 180, 0, 105, 161, 0, 7, 1, 167, 0, 10, 25, 4, 180, 0, 108, 29] := chW_of (by decide +kernel)
theorem d_1_8_0 : decode prog_1_method_8_code 0 = .ok (.aload_n 0, 1) := D_42 W_prog_1_method_8_code_0 0 rfl rfl
theorem d_1_8_1 : decode prog_1_method_8_code 1 = .ok (.iload_n 1, 1) := D_27 W_prog_1_method_8_code_0 1 rfl rfl
theorem d_1_8_2 : decode prog_1_method_8_code 2 = .ok (.iload_n 2, 1) := D_28 W_prog_1_method_8_code_0 2 rfl rfl
theorem d_1_8_3 : decode prog_1_method_8_code 3 = .ok (.invokevirtual 101, 3) := D_182 W_prog_1_method_8_code_0 3 rfl rfl rfl
theorem d_1_8_6 : decode prog_1_method_8_code 6 = .ok (.astore 4, 2) := D_58 W_prog_1_method_8_code_0 6 rfl rfl
theorem d_1_8_8 : decode prog_1_method_8_code 8 = .ok (.aload 4, 2) := D_25 W_prog_1_method_8_code_0 8 rfl rfl
theorem d_1_8_10 : decode prog_1_method_8_code 10 = .ok (.ifnull 16, 3) := D_198 W_prog_1_method_8_code_0 10 rfl rfl rfl
theorem d_1_8_13 : decode prog_1_method_8_code 13 = .ok (.iload_n 3, 1) := D_29 W_prog_1_method_8_code_0 13 rfl rfl
theorem d_1_8_14 : decode prog_1_method_8_code 14 = .ok (.ifCond .lt 12, 3) := D_155 W_prog_1_method_8_code_0 14 rfl rfl rfl
theorem d_1_8_17 : decode prog_1_method_8_code 17 = .ok (.iload_n 3, 1) := D_29 W_prog_1_method_8_code_0 17 rfl rfl
theorem d_1_8_18 : decode prog_1_method_8_code 18 = .ok (.aload 4, 2) := D_25 W_prog_1_method_8_code_0 18 rfl rfl
theorem d_1_8_20 : decode prog_1_method_8_code 20 = .ok (.getfield 105, 3) := D_180 W_prog_1_method_8_code_0 20 rfl rfl rfl
theorem d_1_8_23 : decode prog_1_method_8_code 23 = .ok (.if_icmp .lt 7, 3) := D_161 W_prog_1_method_8_code_0 23 rfl rfl rfl
theorem d_1_8_30 : decode prog_1_method_8_code 30 = .ok (.aload 4, 2) := D_25 W_prog_1_method_8_code_0 30 rfl rfl
theorem W_prog_1_method_8_code_32 : chW prog_1_method_8_code 32 [180, 0, 108, 29, 50, 176] := chW_of (by decide +kernel)
theorem d_1_8_32 : decode prog_1_method_8_code 32 = .ok (.getfield 108, 3) := D_180 W_prog_1_method_8_code_32 0 rfl rfl rfl
theorem d_1_8_35 : decode prog_1_method_8_code 35 = .ok (.iload_n 3, 1) := D_29 W_prog_1_method_8_code_32 3 rfl rfl
theorem d_1_8_36 : decode prog_1_method_8_code 36 = .ok (.aaload, 1) := D_50 W_prog_1_method_8_code_32 4 rfl rfl
theorem d_1_8_26 : decode prog_1_method_8_code 26 = .ok (.aconst_null, 1) := D_1 W_prog_1_method_8_code_0 26 rfl rfl
theorem d_1_8_27 : decode prog_1_method_8_code 27 = .ok (.goto 10, 3) := D_167 W_prog_1_method_8_code_0 27 rfl rfl rfl
theorem d_1_8_37 : decode prog_1_method_8_code 37 = .ok (.areturn, 1) := D_176 W_prog_1_method_8_code_32 5 rfl rfl
theorem W_prog_1_method_34_code_0 : chW prog_1_method_34_code 0 [30, 55, 4, 32, 55, 6, 3, 54, 8, 21, 8, 17, 0, 200, 162, 0, 31, 22, 6, 9, 148, 153, 0, 24, 22, 4, 22, 6, 113, 55, 9, 22, 6, 55, 4, 22] := chW_of (by decide +kernel)
theorem d_1_34_0 : decode prog_1_method_34_code 0 = .ok (.lload_n 0, 1) := D_30 W_prog_1_method_34_code_0 0 rfl rfl
theorem d_1_34_1 : decode prog_1_method_34_code 1 = .ok (.lstore 4, 2) := D_55 W_prog_1_method_34_code_0 1 rfl rfl
theorem d_1_34_3 : decode prog_1_method_34_code 3 = .ok (.lload_n 2, 1) := D_32 W_prog_1_method_34_code_0 3 rfl rfl
theorem d_1_34_4 : decode prog_1_method_34_code 4 = .ok (.lstore 6, 2) := D_55 W_prog_1_method_34_code_0 4 rfl rfl
theorem d_1_34_6 : decode prog_1_method_34_code 6 = .ok (.iconst 0, 1) := D_3 W_prog_1_method_34_code_0 6 rfl rfl
theorem d_1_34_7 : decode prog_1_method_34_code 7 = .ok (.istore 8, 2) := D_54 W_prog_1_method_34_code_0 7 rfl rfl
theorem d_1_34_9 : decode prog_1_method_34_code 9 = .ok (.iload 8, 2) := D_21 W_prog_1_method_34_code_0 9 rfl rfl
theorem d_1_34_11 : decode prog_1_method_34_code 11 = .ok (.sipush 200, 3) := D_17 W_prog_1_method_34_code_0 11 rfl rfl rfl
theorem d_1_34_14 : decode prog_1_method_34_code 14 = .ok (.if_icmp .ge 31, 3) := D_162 W_prog_1_method_34_code_0 14 rfl rfl rfl
theorem d_1_34_17 : decode prog_1_method_34_code 17 = .ok (.lload 6, 2) := D_22 W_prog_1_method_34_code_0 17 rfl rfl
theorem d_1_34_19 : decode prog_1_method_34_code 19 = .ok (.lconst 0, 1) := D_9 W_prog_1_method_34_code_0 19 rfl rfl
theorem d_1_34_20 : decode prog_1_method_34_code 20 = .ok (.lcmp, 1) := D_148 W_prog_1_method_34_code_0 20 rfl rfl
theorem d_1_34_21 : decode prog_1_method_34_code 21 = .ok (.ifCond .eq 24, 3) := D_153 W_prog_1_method_34_code_0 21 rfl rfl rfl
theorem d_1_34_24 : decode prog_1_method_34_code 24 = .ok (.lload 4, 2) := D_22 W_prog_1_method_34_code_0 24 rfl rfl
theorem d_1_34_26 : decode prog_1_method_34_code 26 = .ok (.lload 6, 2) := D_22 W_prog_1_method_34_code_0 26 rfl rfl
theorem d_1_34_28 : decode prog_1_method_34_code 28 = .ok (.lrem, 1) := D_113 W_prog_1_method_34_code_0 28 rfl rfl
theorem d_1_34_29 : decode prog_1_method_34_code 29 = .ok (.lstore 9, 2) := D_55 W_prog_1_method_34_code_0 29 rfl rfl
theorem d_1_34_31 : decode prog_1_method_34_code 31 = .ok (.lload 6, 2) := D_22 W_prog_1_method_34_code_0 31 rfl rfl
theorem W_prog_1_method_34_code_32 : chW prog_1_method_34_code 32 [6, 55, 4, 22, 9, 55, 6, 132, 8, 1, 167, 255, 223, 22, 4, 173] := chW_of (by decide +kernel)
theorem d_1_34_33 : decode prog_1_method_34_code 33 = .ok (.lstore 4, 2) := D_55 W_prog_1_method_34_code_32 1 rfl rfl
theorem d_1_34_35 : decode prog_1_method_34_code 35 = .ok (.lload 9, 2) := D_22 W_prog_1_method_34_code_32 3 rfl rfl
theorem d_1_34_37 : decode prog_1_method_34_code 37 = .ok (.lstore 6, 2) := D_55 W_prog_1_method_34_code_32 5 rfl rfl
theorem d_1_34_39 : decode prog_1_method_34_code 39 = .ok (.iinc 8 1, 3) := D_132 W_prog_1_method_34_code_32 7 rfl rfl rfl
theorem d_1_34_42 : decode prog_1_method_34_code 42 = .ok (.goto (-33), 3) := D_167 W_prog_1_method_34_code_32 10 rfl rfl rfl
theorem d_1_34_45 : decode prog_1_method_34_code 45 = .ok (.lload 4, 2) := D_22 W_prog_1_method_34_code_32 13 rfl rfl
theorem d_1_34_47 : decode prog_1_method_34_code 47 = .ok (.lreturn, 1) := D_173 W_prog_1_method_34_code_32 15 rfl rfl
theorem W_prog_1_method_36_code_0 : chW prog_1_method_36_code 0 [30, 20, 1, 79, 184, 1, 81, 65, 32, 9, 148, 154, 0, 9, 20, 1, 79, 167, 0, 8, 20, 1, 79, 32, 109, 173] := chW_of (by decide +kernel)
theorem d_1_36_0 : decode prog_1_method_36_code 0 = .ok (.lload_n 0, 1) := D_30 W_prog_1_method_36_code_0 0 rfl rfl
theorem d_1_36_1 : decode prog_1_method_36_code 1 = .ok (.ldc2_w 335, 3) := D_20 W_prog_1_method_36_code_0 1 rfl rfl rfl
theorem d_1_36_4 : decode prog_1_method_36_code 4 = .ok (.invokestatic 337, 3) := D_184 W_prog_1_method_36_code_0 4 rfl rfl rfl
theorem d_1_36_7 : decode prog_1_method_36_code 7 = .ok (.lstore_n 2, 1) := D_65 W_prog_1_method_36_code_0 7 rfl rfl
theorem d_1_36_8 : decode prog_1_method_36_code 8 = .ok (.lload_n 2, 1) := D_32 W_prog_1_method_36_code_0 8 rfl rfl
theorem d_1_36_9 : decode prog_1_method_36_code 9 = .ok (.lconst 0, 1) := D_9 W_prog_1_method_36_code_0 9 rfl rfl
theorem d_1_36_10 : decode prog_1_method_36_code 10 = .ok (.lcmp, 1) := D_148 W_prog_1_method_36_code_0 10 rfl rfl
theorem d_1_36_11 : decode prog_1_method_36_code 11 = .ok (.ifCond .ne 9, 3) := D_154 W_prog_1_method_36_code_0 11 rfl rfl rfl
theorem d_1_36_20 : decode prog_1_method_36_code 20 = .ok (.ldc2_w 335, 3) := D_20 W_prog_1_method_36_code_0 20 rfl rfl rfl
theorem d_1_36_23 : decode prog_1_method_36_code 23 = .ok (.lload_n 2, 1) := D_32 W_prog_1_method_36_code_0 23 rfl rfl
theorem d_1_36_24 : decode prog_1_method_36_code 24 = .ok (.ldiv, 1) := D_109 W_prog_1_method_36_code_0 24 rfl rfl
theorem d_1_36_14 : decode prog_1_method_36_code 14 = .ok (.ldc2_w 335, 3) := D_20 W_prog_1_method_36_code_0 14 rfl rfl rfl
theorem d_1_36_17 : decode prog_1_method_36_code 17 = .ok (.goto 8, 3) := D_167 W_prog_1_method_36_code_0 17 rfl rfl rfl
theorem d_1_36_25 : decode prog_1_method_36_code 25 = .ok (.lreturn, 1) := D_173 W_prog_1_method_36_code_0 25 rfl rfl
theorem W_prog_4_method_6_code_0 : chW prog_4_method_6_code 0 [27, 42, 180, 0, 120, 162, 0, 19, 42, 180, 0, 111, 4, 50, 27, 46, 28, 160, 0, 7, 4, 167, 0, 4, 3, 172] := chW_of (by decide +kernel)
theorem d_4_6_0 : decode prog_4_method_6_code 0 = .ok (.iload_n 1, 1) := D_27 W_prog_4_method_6_code_0 0 rfl rfl
theorem d_4_6_1 : decode prog_4_method_6_code 1 = .ok (.aload_n 0, 1) := D_42 W_prog_4_method_6_code_0 1 rfl rfl
theorem d_4_6_2 : decode prog_4_method_6_code 2 = .ok (.getfield 120, 3) := D_180 W_prog_4_method_6_code_0 2 rfl rfl rfl
theorem d_4_6_5 : decode prog_4_method_6_code 5 = .ok (.if_icmp .ge 19, 3) := D_162 W_prog_4_method_6_code_0 5 rfl rfl rfl
theorem d_4_6_8 : decode prog_4_method_6_code 8 = .ok (.aload_n 0, 1) := D_42 W_prog_4_method_6_code_0 8 rfl rfl
theorem d_4_6_9 : decode prog_4_method_6_code 9 = .ok (.getfield 111, 3) := D_180 W_prog_4_method_6_code_0 9 rfl rfl rfl
theorem d_4_6_12 : decode prog_4_method_6_code 12 = .ok (.iconst 1, 1) := D_4 W_prog_4_method_6_code_0 12 rfl rfl
theorem d_4_6_13 : decode prog_4_method_6_code 13 = .ok (.aaload, 1) := D_50 W_prog_4_method_6_code_0 13 rfl rfl
theorem d_4_6_14 : decode prog_4_method_6_code 14 = .ok (.iload_n 1, 1) := D_27 W_prog_4_method_6_code_0 14 rfl rfl
theorem d_4_6_15 : decode prog_4_method_6_code 15 = .ok (.iaload, 1) := D_46 W_prog_4_method_6_code_0 15 rfl rfl
theorem d_4_6_16 : decode prog_4_method_6_code 16 = .ok (.iload_n 2, 1) := D_28 W_prog_4_method_6_code_0 16 rfl rfl
theorem d_4_6_17 : decode prog_4_method_6_code 17 = .ok (.if_icmp .ne 7, 3) := D_160 W_prog_4_method_6_code_0 17 rfl rfl rfl
theorem d_4_6_20 : decode prog_4_method_6_code 20 = .ok (.iconst 1, 1) := D_4 W_prog_4_method_6_code_0 20 rfl rfl
theorem d_4_6_21 : decode prog_4_method_6_code 21 = .ok (.goto 4, 3) := D_167 W_prog_4_method_6_code_0 21 rfl rfl rfl
theorem d_4_6_25 : decode prog_4_method_6_code 25 = .ok (.ireturn, 1) := D_172 W_prog_4_method_6_code_0 25 rfl rfl
theorem d_4_6_24 : decode prog_4_method_6_code 24 = .ok (.iconst 0, 1) := D_3 W_prog_4_method_6_code_0 24 rfl rfl
theorem W_prog_4_method_7_code_0 : chW prog_4_method_7_code 0 [27, 54, 4, 21, 4, 42, 180, 0, 76, 162, 0, 95, 21, 4, 4, 96, 42, 180, 0, 76, 162, 0, 15, 42, 180, 0, 11, 21, 4, 4, 96, 47, 167, 0, 4, 32] := chW_of (by decide +kernel)
theorem d_4_7_0 : decode prog_4_method_7_code 0 = .ok (.iload_n 1, 1) := D_27 W_prog_4_method_7_code_0 0 rfl rfl
theorem d_4_7_1 : decode prog_4_method_7_code 1 = .ok (.istore 4, 2) := D_54 W_prog_4_method_7_code_0 1 rfl rfl
theorem d_4_7_3 : decode prog_4_method_7_code 3 = .ok (.iload 4, 2) := D_21 W_prog_4_method_7_code_0 3 rfl rfl
theorem d_4_7_5 : decode prog_4_method_7_code 5 = .ok (.aload_n 0, 1) := D_42 W_prog_4_method_7_code_0 5 rfl rfl
theorem d_4_7_6 : decode prog_4_method_7_code 6 = .ok (.getfield 76, 3) := D_180 W_prog_4_method_7_code_0 6 rfl rfl rfl
theorem d_4_7_9 : decode prog_4_method_7_code 9 = .ok (.if_icmp .ge 95, 3) := D_162 W_prog_4_method_7_code_0 9 rfl rfl rfl
theorem W_prog_4_method_7_code_96 : chW prog_4_method_7_code 96 [255, 218, 132, 4, 1, 167, 255, 158, 177] := chW_of (by decide +kernel)
theorem d_4_7_104 : decode prog_4_method_7_code 104 = .ok (.return_, 1) := D_177 W_prog_4_method_7_code_96 8 rfl rfl
theorem d_4_7_12 : decode prog_4_method_7_code 12 = .ok (.iload 4, 2) := D_21 W_prog_4_method_7_code_0 12 rfl rfl
theorem d_4_7_14 : decode prog_4_method_7_code 14 = .ok (.iconst 1, 1) := D_4 W_prog_4_method_7_code_0 14 rfl rfl
theorem d_4_7_15 : decode prog_4_method_7_code 15 = .ok (.iadd, 1) := D_96 W_prog_4_method_7_code_0 15 rfl rfl
theorem d_4_7_16 : decode prog_4_method_7_code 16 = .ok (.aload_n 0, 1) := D_42 W_prog_4_method_7_code_0 16 rfl rfl
theorem d_4_7_17 : decode prog_4_method_7_code 17 = .ok (.getfield 76, 3) := D_180 W_prog_4_method_7_code_0 17 rfl rfl rfl
theorem d_4_7_20 : decode prog_4_method_7_code 20 = .ok (.if_icmp .ge 15, 3) := D_162 W_prog_4_method_7_code_0 20 rfl rfl rfl
theorem W_prog_4_method_7_code_32 : chW prog_4_method_7_code 32 [167, 0, 4, 32, 55, 5, 22, 5, 42, 180, 0, 11, 21, 4, 47, 101, 20, 0, 123, 109, 55, 7, 3, 54, 9, 21, 9, 16, 40, 162, 0, 37, 22, 7, 20, 0] := chW_of (by decide +kernel)
theorem d_4_7_35 : decode prog_4_method_7_code 35 = .ok (.lload_n 2, 1) := D_32 W_prog_4_method_7_code_32 3 rfl rfl
theorem d_4_7_23 : decode prog_4_method_7_code 23 = .ok (.aload_n 0, 1) := D_42 W_prog_4_method_7_code_0 23 rfl rfl
theorem d_4_7_24 : decode prog_4_method_7_code 24 = .ok (.getfield 11, 3) := D_180 W_prog_4_method_7_code_0 24 rfl rfl rfl
theorem d_4_7_27 : decode prog_4_method_7_code 27 = .ok (.iload 4, 2) := D_21 W_prog_4_method_7_code_0 27 rfl rfl
theorem d_4_7_29 : decode prog_4_method_7_code 29 = .ok (.iconst 1, 1) := D_4 W_prog_4_method_7_code_0 29 rfl rfl
theorem d_4_7_30 : decode prog_4_method_7_code 30 = .ok (.iadd, 1) := D_96 W_prog_4_method_7_code_0 30 rfl rfl
theorem d_4_7_31 : decode prog_4_method_7_code 31 = .ok (.laload, 1) := D_47 W_prog_4_method_7_code_0 31 rfl rfl
theorem d_4_7_32 : decode prog_4_method_7_code 32 = .ok (.goto 4, 3) := D_167 W_prog_4_method_7_code_32 0 rfl rfl rfl
theorem d_4_7_36 : decode prog_4_method_7_code 36 = .ok (.lstore 5, 2) := D_55 W_prog_4_method_7_code_32 4 rfl rfl
theorem d_4_7_38 : decode prog_4_method_7_code 38 = .ok (.lload 5, 2) := D_22 W_prog_4_method_7_code_32 6 rfl rfl
theorem d_4_7_40 : decode prog_4_method_7_code 40 = .ok (.aload_n 0, 1) := D_42 W_prog_4_method_7_code_32 8 rfl rfl
theorem d_4_7_41 : decode prog_4_method_7_code 41 = .ok (.getfield 11, 3) := D_180 W_prog_4_method_7_code_32 9 rfl rfl rfl
theorem d_4_7_44 : decode prog_4_method_7_code 44 = .ok (.iload 4, 2) := D_21 W_prog_4_method_7_code_32 12 rfl rfl
theorem d_4_7_46 : decode prog_4_method_7_code 46 = .ok (.laload, 1) := D_47 W_prog_4_method_7_code_32 14 rfl rfl
theorem d_4_7_47 : decode prog_4_method_7_code 47 = .ok (.lsub, 1) := D_101 W_prog_4_method_7_code_32 15 rfl rfl
theorem d_4_7_48 : decode prog_4_method_7_code 48 = .ok (.ldc2_w 123, 3) := D_20 W_prog_4_method_7_code_32 16 rfl rfl rfl
theorem d_4_7_51 : decode prog_4_method_7_code 51 = .ok (.ldiv, 1) := D_109 W_prog_4_method_7_code_32 19 rfl rfl
theorem d_4_7_52 : decode prog_4_method_7_code 52 = .ok (.lstore 7, 2) := D_55 W_prog_4_method_7_code_32 20 rfl rfl
theorem d_4_7_54 : decode prog_4_method_7_code 54 = .ok (.iconst 0, 1) := D_3 W_prog_4_method_7_code_32 22 rfl rfl
theorem d_4_7_55 : decode prog_4_method_7_code 55 = .ok (.istore 9, 2) := D_54 W_prog_4_method_7_code_32 23 rfl rfl
theorem d_4_7_57 : decode prog_4_method_7_code 57 = .ok (.iload 9, 2) := D_21 W_prog_4_method_7_code_32 25 rfl rfl
theorem d_4_7_59 : decode prog_4_method_7_code 59 = .ok (.bipush 40, 2) := D_16 W_prog_4_method_7_code_32 27 rfl rfl rfl
theorem d_4_7_61 : decode prog_4_method_7_code 61 = .ok (.if_icmp .ge 37, 3) := D_162 W_prog_4_method_7_code_32 29 rfl rfl rfl
theorem W_prog_4_method_7_code_64 : chW prog_4_method_7_code 64 [22, 7, 20, 0, 125, 148, 155, 0, 28, 42, 180, 0, 15, 21, 4, 92, 46, 7, 96, 79, 22, 7, 20, 0, 125, 109, 55, 7, 132, 9, 1, 167, 255, 218, 132, 4] := chW_of (by decide +kernel)
theorem d_4_7_64 : decode prog_4_method_7_code 64 = .ok (.lload 7, 2) := D_22 W_prog_4_method_7_code_64 0 rfl rfl
theorem d_4_7_66 : decode prog_4_method_7_code 66 = .ok (.ldc2_w 125, 3) := D_20 W_prog_4_method_7_code_64 2 rfl rfl rfl
theorem d_4_7_69 : decode prog_4_method_7_code 69 = .ok (.lcmp, 1) := D_148 W_prog_4_method_7_code_64 5 rfl rfl
theorem d_4_7_70 : decode prog_4_method_7_code 70 = .ok (.ifCond .lt 28, 3) := D_155 W_prog_4_method_7_code_64 6 rfl rfl rfl
theorem d_4_7_73 : decode prog_4_method_7_code 73 = .ok (.aload_n 0, 1) := D_42 W_prog_4_method_7_code_64 9 rfl rfl
theorem d_4_7_74 : decode prog_4_method_7_code 74 = .ok (.getfield 15, 3) := D_180 W_prog_4_method_7_code_64 10 rfl rfl rfl
theorem d_4_7_77 : decode prog_4_method_7_code 77 = .ok (.iload 4, 2) := D_21 W_prog_4_method_7_code_64 13 rfl rfl
theorem d_4_7_79 : decode prog_4_method_7_code 79 = .ok (.dup2, 1) := D_92 W_prog_4_method_7_code_64 15 rfl rfl
theorem d_4_7_80 : decode prog_4_method_7_code 80 = .ok (.iaload, 1) := D_46 W_prog_4_method_7_code_64 16 rfl rfl
theorem d_4_7_81 : decode prog_4_method_7_code 81 = .ok (.iconst 4, 1) := D_7 W_prog_4_method_7_code_64 17 rfl rfl
theorem d_4_7_82 : decode prog_4_method_7_code 82 = .ok (.iadd, 1) := D_96 W_prog_4_method_7_code_64 18 rfl rfl
theorem d_4_7_83 : decode prog_4_method_7_code 83 = .ok (.iastore, 1) := D_79 W_prog_4_method_7_code_64 19 rfl rfl
theorem d_4_7_84 : decode prog_4_method_7_code 84 = .ok (.lload 7, 2) := D_22 W_prog_4_method_7_code_64 20 rfl rfl
theorem d_4_7_86 : decode prog_4_method_7_code 86 = .ok (.ldc2_w 125, 3) := D_20 W_prog_4_method_7_code_64 22 rfl rfl rfl
theorem d_4_7_89 : decode prog_4_method_7_code 89 = .ok (.ldiv, 1) := D_109 W_prog_4_method_7_code_64 25 rfl rfl
theorem d_4_7_90 : decode prog_4_method_7_code 90 = .ok (.lstore 7, 2) := D_55 W_prog_4_method_7_code_64 26 rfl rfl
theorem d_4_7_92 : decode prog_4_method_7_code 92 = .ok (.iinc 9 1, 3) := D_132 W_prog_4_method_7_code_64 28 rfl rfl rfl
theorem d_4_7_95 : decode prog_4_method_7_code 95 = .ok (.goto (-38), 3) := D_167 W_prog_4_method_7_code_64 31 rfl rfl rfl
theorem d_4_7_98 : decode prog_4_method_7_code 98 = .ok (.iinc 4 1, 3) := D_132 W_prog_4_method_7_code_96 2 rfl rfl rfl
theorem d_4_7_101 : decode prog_4_method_7_code 101 = .ok (.goto (-98), 3) := D_167 W_prog_4_method_7_code_96 5 rfl rfl rfl
theorem W_prog_4_method_8_code_0 : chW prog_4_method_8_code 0 [16, 24, 8, 42, 180, 0, 127, 184, 0, 130, 104, 96, 27, 154, 0, 8, 16, 12, 167, 0, 4, 3, 96, 172] := chW_of (by decide +kernel)
theorem d_4_8_0 : decode prog_4_method_8_code 0 = .ok (.bipush 24, 2) := D_16 W_prog_4_method_8_code_0 0 rfl rfl rfl
theorem d_4_8_2 : decode prog_4_method_8_code 2 = .ok (.iconst 5, 1) := D_8 W_prog_4_method_8_code_0 2 rfl rfl
theorem d_4_8_3 : decode prog_4_method_8_code 3 = .ok (.aload_n 0, 1) := D_42 W_prog_4_method_8_code_0 3 rfl rfl
theorem d_4_8_4 : decode prog_4_method_8_code 4 = .ok (.getfield 127, 3) := D_180 W_prog_4_method_8_code_0 4 rfl rfl rfl
theorem d_4_8_7 : decode prog_4_method_8_code 7 = .ok (.invokestatic 130, 3) := D_184 W_prog_4_method_8_code_0 7 rfl rfl rfl
theorem d_4_8_10 : decode prog_4_method_8_code 10 = .ok (.imul, 1) := D_104 W_prog_4_method_8_code_0 10 rfl rfl
theorem d_4_8_11 : decode prog_4_method_8_code 11 = .ok (.iadd, 1) := D_96 W_prog_4_method_8_code_0 11 rfl rfl
theorem d_4_8_12 : decode prog_4_method_8_code 12 = .ok (.iload_n 1, 1) := D_27 W_prog_4_method_8_code_0 12 rfl rfl
theorem d_4_8_13 : decode prog_4_method_8_code 13 = .ok (.ifCond .ne 8, 3) := D_154 W_prog_4_method_8_code_0 13 rfl rfl rfl
theorem d_4_8_21 : decode prog_4_method_8_code 21 = .ok (.iconst 0, 1) := D_3 W_prog_4_method_8_code_0 21 rfl rfl
theorem d_4_8_16 : decode prog_4_method_8_code 16 = .ok (.bipush 12, 2) := D_16 W_prog_4_method_8_code_0 16 rfl rfl rfl
theorem d_4_8_18 : decode prog_4_method_8_code 18 = .ok (.goto 4, 3) := D_167 W_prog_4_method_8_code_0 18 rfl rfl rfl
theorem d_4_8_22 : decode prog_4_method_8_code 22 = .ok (.iadd, 1) := D_96 W_prog_4_method_8_code_0 22 rfl rfl
theorem d_4_8_23 : decode prog_4_method_8_code 23 = .ok (.ireturn, 1) := D_172 W_prog_4_method_8_code_0 23 rfl rfl
theorem W_prog_4_method_11_code_0 : chW prog_4_method_11_code 0 [32, 30, 148, 158, 0, 15, 20, 0, 144, 32, 30, 101, 105, 32, 30, 101, 105, 173, 21, 4, 153, 0, 7, 9, 167, 0, 10, 30, 32, 101, 30, 32, 101, 105, 173] := chW_of (by decide +kernel)
theorem d_4_11_0 : decode prog_4_method_11_code 0 = .ok (.lload_n 2, 1) := D_32 W_prog_4_method_11_code_0 0 rfl rfl
theorem d_4_11_1 : decode prog_4_method_11_code 1 = .ok (.lload_n 0, 1) := D_30 W_prog_4_method_11_code_0 1 rfl rfl
theorem d_4_11_2 : decode prog_4_method_11_code 2 = .ok (.lcmp, 1) := D_148 W_prog_4_method_11_code_0 2 rfl rfl
theorem d_4_11_3 : decode prog_4_method_11_code 3 = .ok (.ifCond .le 15, 3) := D_158 W_prog_4_method_11_code_0 3 rfl rfl rfl
theorem d_4_11_18 : decode prog_4_method_11_code 18 = .ok (.iload 4, 2) := D_21 W_prog_4_method_11_code_0 18 rfl rfl
theorem d_4_11_20 : decode prog_4_method_11_code 20 = .ok (.ifCond .eq 7, 3) := D_153 W_prog_4_method_11_code_0 20 rfl rfl rfl
theorem d_4_11_27 : decode prog_4_method_11_code 27 = .ok (.lload_n 0, 1) := D_30 W_prog_4_method_11_code_0 27 rfl rfl
theorem d_4_11_28 : decode prog_4_method_11_code 28 = .ok (.lload_n 2, 1) := D_32 W_prog_4_method_11_code_0 28 rfl rfl
theorem d_4_11_29 : decode prog_4_method_11_code 29 = .ok (.lsub, 1) := D_101 W_prog_4_method_11_code_0 29 rfl rfl
theorem d_4_11_30 : decode prog_4_method_11_code 30 = .ok (.lload_n 0, 1) := D_30 W_prog_4_method_11_code_0 30 rfl rfl
theorem d_4_11_31 : decode prog_4_method_11_code 31 = .ok (.lload_n 2, 1) := D_32 W_prog_4_method_11_code_0 31 rfl rfl
theorem W_prog_4_method_11_code_32 : chW prog_4_method_11_code 32 [101, 105, 173] := chW_of (by decide +kernel)
theorem d_4_11_32 : decode prog_4_method_11_code 32 = .ok (.lsub, 1) := D_101 W_prog_4_method_11_code_32 0 rfl rfl
theorem d_4_11_33 : decode prog_4_method_11_code 33 = .ok (.lmul, 1) := D_105 W_prog_4_method_11_code_32 1 rfl rfl
theorem d_4_11_23 : decode prog_4_method_11_code 23 = .ok (.lconst 0, 1) := D_9 W_prog_4_method_11_code_0 23 rfl rfl
theorem d_4_11_24 : decode prog_4_method_11_code 24 = .ok (.goto 10, 3) := D_167 W_prog_4_method_11_code_0 24 rfl rfl rfl
theorem d_4_11_6 : decode prog_4_method_11_code 6 = .ok (.ldc2_w 144, 3) := D_20 W_prog_4_method_11_code_0 6 rfl rfl rfl
theorem d_4_11_9 : decode prog_4_method_11_code 9 = .ok (.lload_n 2, 1) := D_32 W_prog_4_method_11_code_0 9 rfl rfl
theorem d_4_11_10 : decode prog_4_method_11_code 10 = .ok (.lload_n 0, 1) := D_30 W_prog_4_method_11_code_0 10 rfl rfl
theorem d_4_11_11 : decode prog_4_method_11_code 11 = .ok (.lsub, 1) := D_101 W_prog_4_method_11_code_0 11 rfl rfl
theorem d_4_11_12 : decode prog_4_method_11_code 12 = .ok (.lmul, 1) := D_105 W_prog_4_method_11_code_0 12 rfl rfl
theorem d_4_11_13 : decode prog_4_method_11_code 13 = .ok (.lload_n 2, 1) := D_32 W_prog_4_method_11_code_0 13 rfl rfl
theorem d_4_11_14 : decode prog_4_method_11_code 14 = .ok (.lload_n 0, 1) := D_30 W_prog_4_method_11_code_0 14 rfl rfl
theorem d_4_11_15 : decode prog_4_method_11_code 15 = .ok (.lsub, 1) := D_101 W_prog_4_method_11_code_0 15 rfl rfl
theorem d_4_11_16 : decode prog_4_method_11_code 16 = .ok (.lmul, 1) := D_105 W_prog_4_method_11_code_0 16 rfl rfl
theorem d_4_11_17 : decode prog_4_method_11_code 17 = .ok (.lreturn, 1) := D_173 W_prog_4_method_11_code_0 17 rfl rfl
theorem d_4_11_34 : decode prog_4_method_11_code 34 = .ok (.lreturn, 1) := D_173 W_prog_4_method_11_code_32 2 rfl rfl
theorem W_prog_4_method_9_code_0 : chW prog_4_method_9_code 0 [43, 28, 184, 0, 134, 54, 4, 28, 54, 5, 21, 5, 29, 162, 0, 21, 21, 4, 42, 180, 0, 25, 21, 5, 46, 96, 54, 4, 132, 5, 1, 167, 255, 235, 21, 4] := chW_of (by decide +kernel)
theorem d_4_9_0 : decode prog_4_method_9_code 0 = .ok (.aload_n 1, 1) := D_43 W_prog_4_method_9_code_0 0 rfl rfl
theorem d_4_9_1 : decode prog_4_method_9_code 1 = .ok (.iload_n 2, 1) := D_28 W_prog_4_method_9_code_0 1 rfl rfl
theorem d_4_9_2 : decode prog_4_method_9_code 2 = .ok (.invokestatic 134, 3) := D_184 W_prog_4_method_9_code_0 2 rfl rfl rfl
theorem d_4_9_5 : decode prog_4_method_9_code 5 = .ok (.istore 4, 2) := D_54 W_prog_4_method_9_code_0 5 rfl rfl
theorem d_4_9_7 : decode prog_4_method_9_code 7 = .ok (.iload_n 2, 1) := D_28 W_prog_4_method_9_code_0 7 rfl rfl
theorem d_4_9_8 : decode prog_4_method_9_code 8 = .ok (.istore 5, 2) := D_54 W_prog_4_method_9_code_0 8 rfl rfl
theorem d_4_9_10 : decode prog_4_method_9_code 10 = .ok (.iload 5, 2) := D_21 W_prog_4_method_9_code_0 10 rfl rfl
theorem d_4_9_12 : decode prog_4_method_9_code 12 = .ok (.iload_n 3, 1) := D_29 W_prog_4_method_9_code_0 12 rfl rfl
theorem d_4_9_13 : decode prog_4_method_9_code 13 = .ok (.if_icmp .ge 21, 3) := D_162 W_prog_4_method_9_code_0 13 rfl rfl rfl
theorem W_prog_4_method_9_code_32 : chW prog_4_method_9_code 32 [255, 235, 21, 4, 172] := chW_of (by decide +kernel)
theorem d_4_9_34 : decode prog_4_method_9_code 34 = .ok (.iload 4, 2) := D_21 W_prog_4_method_9_code_32 2 rfl rfl
theorem d_4_9_36 : decode prog_4_method_9_code 36 = .ok (.ireturn, 1) := D_172 W_prog_4_method_9_code_32 4 rfl rfl
theorem d_4_9_16 : decode prog_4_method_9_code 16 = .ok (.iload 4, 2) := D_21 W_prog_4_method_9_code_0 16 rfl rfl
theorem d_4_9_18 : decode prog_4_method_9_code 18 = .ok (.aload_n 0, 1) := D_42 W_prog_4_method_9_code_0 18 rfl rfl
theorem d_4_9_19 : decode prog_4_method_9_code 19 = .ok (.getfield 25, 3) := D_180 W_prog_4_method_9_code_0 19 rfl rfl rfl
theorem d_4_9_22 : decode prog_4_method_9_code 22 = .ok (.iload 5, 2) := D_21 W_prog_4_method_9_code_0 22 rfl rfl
theorem d_4_9_24 : decode prog_4_method_9_code 24 = .ok (.iaload, 1) := D_46 W_prog_4_method_9_code_0 24 rfl rfl
theorem d_4_9_25 : decode prog_4_method_9_code 25 = .ok (.iadd, 1) := D_96 W_prog_4_method_9_code_0 25 rfl rfl
theorem d_4_9_26 : decode prog_4_method_9_code 26 = .ok (.istore 4, 2) := D_54 W_prog_4_method_9_code_0 26 rfl rfl
theorem d_4_9_28 : decode prog_4_method_9_code 28 = .ok (.iinc 5 1, 3) := D_132 W_prog_4_method_9_code_0 28 rfl rfl rfl
theorem d_4_9_31 : decode prog_4_method_9_code 31 = .ok (.goto (-21), 3) := D_167 W_prog_4_method_9_code_0 31 rfl rfl rfl
theorem W_prog_4_method_12_code_0 : chW prog_4_method_12_code 0 [43, 42, 180, 0, 28, 28, 46, 184, 0, 134, 54, 4, 42, 180, 0, 22, 42, 180, 0, 28, 28, 46, 46, 54, 5, 42, 180, 0, 22, 42, 180, 0, 28, 28, 4, 96] := chW_of (by decide +kernel)
theorem d_4_12_0 : decode prog_4_method_12_code 0 = .ok (.aload_n 1, 1) := D_43 W_prog_4_method_12_code_0 0 rfl rfl
theorem d_4_12_1 : decode prog_4_method_12_code 1 = .ok (.aload_n 0, 1) := D_42 W_prog_4_method_12_code_0 1 rfl rfl
theorem d_4_12_2 : decode prog_4_method_12_code 2 = .ok (.getfield 28, 3) := D_180 W_prog_4_method_12_code_0 2 rfl rfl rfl
theorem d_4_12_5 : decode prog_4_method_12_code 5 = .ok (.iload_n 2, 1) := D_28 W_prog_4_method_12_code_0 5 rfl rfl
theorem d_4_12_6 : decode prog_4_method_12_code 6 = .ok (.iaload, 1) := D_46 W_prog_4_method_12_code_0 6 rfl rfl
theorem d_4_12_7 : decode prog_4_method_12_code 7 = .ok (.invokestatic 134, 3) := D_184 W_prog_4_method_12_code_0 7 rfl rfl rfl
theorem d_4_12_10 : decode prog_4_method_12_code 10 = .ok (.istore 4, 2) := D_54 W_prog_4_method_12_code_0 10 rfl rfl
