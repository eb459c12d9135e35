theorem d_12_8_12 : decode prog_12_method_8_code 12 = .ok (.lload 5, 2) := D_22 W_prog_12_method_8_code_0 12 rfl rfl
theorem d_12_8_14 : decode prog_12_method_8_code 14 = .ok (.iload_n 3, 1) := D_29 W_prog_12_method_8_code_0 14 rfl rfl
theorem d_12_8_15 : decode prog_12_method_8_code 15 = .ok (.i2l, 1) := D_133 W_prog_12_method_8_code_0 15 rfl rfl
theorem d_12_8_16 : decode prog_12_method_8_code 16 = .ok (.lmul, 1) := D_105 W_prog_12_method_8_code_0 16 rfl rfl
theorem d_12_8_17 : decode prog_12_method_8_code 17 = .ok (.aload_n 0, 1) := D_42 W_prog_12_method_8_code_0 17 rfl rfl
theorem d_12_8_18 : decode prog_12_method_8_code 18 = .ok (.iload_n 1, 1) := D_27 W_prog_12_method_8_code_0 18 rfl rfl
theorem d_12_8_19 : decode prog_12_method_8_code 19 = .ok (.iload 7, 2) := D_21 W_prog_12_method_8_code_0 19 rfl rfl
theorem d_12_8_21 : decode prog_12_method_8_code 21 = .ok (.iadd, 1) := D_96 W_prog_12_method_8_code_0 21 rfl rfl
theorem d_12_8_22 : decode prog_12_method_8_code 22 = .ok (.invokevirtual 28, 3) := D_182 W_prog_12_method_8_code_0 22 rfl rfl rfl
theorem d_12_8_25 : decode prog_12_method_8_code 25 = .ok (.i2l, 1) := D_133 W_prog_12_method_8_code_0 25 rfl rfl
theorem d_12_8_26 : decode prog_12_method_8_code 26 = .ok (.ladd, 1) := D_97 W_prog_12_method_8_code_0 26 rfl rfl
theorem d_12_8_27 : decode prog_12_method_8_code 27 = .ok (.iload 4, 2) := D_21 W_prog_12_method_8_code_0 27 rfl rfl
theorem d_12_8_29 : decode prog_12_method_8_code 29 = .ok (.i2l, 1) := D_133 W_prog_12_method_8_code_0 29 rfl rfl
theorem d_12_8_30 : decode prog_12_method_8_code 30 = .ok (.lsub, 1) := D_101 W_prog_12_method_8_code_0 30 rfl rfl
theorem d_12_8_31 : decode prog_12_method_8_code 31 = .ok (.lstore 5, 2) := D_55 W_prog_12_method_8_code_0 31 rfl rfl
theorem d_12_8_33 : decode prog_12_method_8_code 33 = .ok (.iinc 7 1, 3) := D_132 W_prog_12_method_8_code_32 1 rfl rfl rfl
theorem d_12_8_36 : decode prog_12_method_8_code 36 = .ok (.goto (-30), 3) := D_167 W_prog_12_method_8_code_32 4 rfl rfl rfl
theorem W_prog_22_method_4_code_0 : chW prog_22_method_4_code 0 [26, 155, 0, 14, 26, 17, 0, 255, 163, 0, 7, 4, 167, 0, 4, 3, 172] := chW_of (by decide +kernel)
theorem d_22_4_0 : decode prog_22_method_4_code 0 = .ok (.iload_n 0, 1) := D_26 W_prog_22_method_4_code_0 0 rfl rfl
theorem d_22_4_1 : decode prog_22_method_4_code 1 = .ok (.ifCond .lt 14, 3) := D_155 W_prog_22_method_4_code_0 1 rfl rfl rfl
theorem d_22_4_4 : decode prog_22_method_4_code 4 = .ok (.iload_n 0, 1) := D_26 W_prog_22_method_4_code_0 4 rfl rfl
theorem d_22_4_5 : decode prog_22_method_4_code 5 = .ok (.sipush 255, 3) := D_17 W_prog_22_method_4_code_0 5 rfl rfl rfl
theorem d_22_4_8 : decode prog_22_method_4_code 8 = .ok (.if_icmp .gt 7, 3) := D_163 W_prog_22_method_4_code_0 8 rfl rfl rfl
theorem d_22_4_11 : decode prog_22_method_4_code 11 = .ok (.iconst 1, 1) := D_4 W_prog_22_method_4_code_0 11 rfl rfl
theorem d_22_4_12 : decode prog_22_method_4_code 12 = .ok (.goto 4, 3) := D_167 W_prog_22_method_4_code_0 12 rfl rfl rfl
theorem d_22_4_16 : decode prog_22_method_4_code 16 = .ok (.ireturn, 1) := D_172 W_prog_22_method_4_code_0 16 rfl rfl
theorem d_22_4_15 : decode prog_22_method_4_code 15 = .ok (.iconst 0, 1) := D_3 W_prog_22_method_4_code_0 15 rfl rfl
theorem W_prog_22_method_23_code_0 : chW prog_22_method_23_code 0 [27, 145, 54, 4, 28, 54, 5, 21, 5, 29, 162, 0, 21, 42, 21, 5, 51, 21, 4, 160, 0, 6, 21, 5, 172, 132, 5, 1, 167, 255, 235, 2, 172] := chW_of (by decide +kernel)
theorem d_22_23_0 : decode prog_22_method_23_code 0 = .ok (.iload_n 1, 1) := D_27 W_prog_22_method_23_code_0 0 rfl rfl
theorem d_22_23_1 : decode prog_22_method_23_code 1 = .ok (.i2b, 1) := D_145 W_prog_22_method_23_code_0 1 rfl rfl
theorem d_22_23_2 : decode prog_22_method_23_code 2 = .ok (.istore 4, 2) := D_54 W_prog_22_method_23_code_0 2 rfl rfl
theorem d_22_23_4 : decode prog_22_method_23_code 4 = .ok (.iload_n 2, 1) := D_28 W_prog_22_method_23_code_0 4 rfl rfl
theorem d_22_23_5 : decode prog_22_method_23_code 5 = .ok (.istore 5, 2) := D_54 W_prog_22_method_23_code_0 5 rfl rfl
theorem d_22_23_7 : decode prog_22_method_23_code 7 = .ok (.iload 5, 2) := D_21 W_prog_22_method_23_code_0 7 rfl rfl
theorem d_22_23_9 : decode prog_22_method_23_code 9 = .ok (.iload_n 3, 1) := D_29 W_prog_22_method_23_code_0 9 rfl rfl
theorem d_22_23_10 : decode prog_22_method_23_code 10 = .ok (.if_icmp .ge 21, 3) := D_162 W_prog_22_method_23_code_0 10 rfl rfl rfl
theorem d_22_23_31 : decode prog_22_method_23_code 31 = .ok (.iconst (-1), 1) := D_2 W_prog_22_method_23_code_0 31 rfl rfl
theorem W_prog_22_method_23_code_32 : chW prog_22_method_23_code 32 [172] := chW_of (by decide +kernel)
theorem d_22_23_32 : decode prog_22_method_23_code 32 = .ok (.ireturn, 1) := D_172 W_prog_22_method_23_code_32 0 rfl rfl
theorem d_22_23_13 : decode prog_22_method_23_code 13 = .ok (.aload_n 0, 1) := D_42 W_prog_22_method_23_code_0 13 rfl rfl
theorem d_22_23_14 : decode prog_22_method_23_code 14 = .ok (.iload 5, 2) := D_21 W_prog_22_method_23_code_0 14 rfl rfl
theorem d_22_23_16 : decode prog_22_method_23_code 16 = .ok (.baload, 1) := D_51 W_prog_22_method_23_code_0 16 rfl rfl
theorem d_22_23_17 : decode prog_22_method_23_code 17 = .ok (.iload 4, 2) := D_21 W_prog_22_method_23_code_0 17 rfl rfl
theorem d_22_23_19 : decode prog_22_method_23_code 19 = .ok (.if_icmp .ne 6, 3) := D_160 W_prog_22_method_23_code_0 19 rfl rfl rfl
theorem d_22_23_25 : decode prog_22_method_23_code 25 = .ok (.iinc 5 1, 3) := D_132 W_prog_22_method_23_code_0 25 rfl rfl rfl
theorem d_22_23_28 : decode prog_22_method_23_code 28 = .ok (.goto (-21), 3) := D_167 W_prog_22_method_23_code_0 28 rfl rfl rfl
theorem d_22_23_22 : decode prog_22_method_23_code 22 = .ok (.iload 5, 2) := D_21 W_prog_22_method_23_code_0 22 rfl rfl
theorem d_22_23_24 : decode prog_22_method_23_code 24 = .ok (.ireturn, 1) := D_172 W_prog_22_method_23_code_0 24 rfl rfl
theorem W_prog_21_method_158_code_0 : chW prog_21_method_158_code 0 [26, 27, 28, 178, 4, 29, 184, 4, 38, 87, 177] := chW_of (by decide +kernel)
theorem d_21_158_0 : decode prog_21_method_158_code 0 = .ok (.iload_n 0, 1) := D_26 W_prog_21_method_158_code_0 0 rfl rfl
theorem d_21_158_1 : decode prog_21_method_158_code 1 = .ok (.iload_n 1, 1) := D_27 W_prog_21_method_158_code_0 1 rfl rfl
theorem d_21_158_2 : decode prog_21_method_158_code 2 = .ok (.iload_n 2, 1) := D_28 W_prog_21_method_158_code_0 2 rfl rfl
theorem d_21_158_3 : decode prog_21_method_158_code 3 = .ok (.getstatic 1053, 3) := D_178 W_prog_21_method_158_code_0 3 rfl rfl rfl
theorem d_21_158_6 : decode prog_21_method_158_code 6 = .ok (.invokestatic 1062, 3) := D_184 W_prog_21_method_158_code_0 6 rfl rfl rfl
theorem d_21_158_9 : decode prog_21_method_158_code 9 = .ok (.pop, 1) := D_87 W_prog_21_method_158_code_0 9 rfl rfl
theorem d_21_158_10 : decode prog_21_method_158_code 10 = .ok (.return_, 1) := D_177 W_prog_21_method_158_code_0 10 rfl rfl
theorem W_prog_12_method_3_code_0 : chW prog_12_method_3_code 0 [42, 42, 180, 0, 9, 42, 180, 0, 54, 46, 181, 0, 60, 42, 42, 180, 0, 15, 42, 180, 0, 54, 46, 181, 0, 63, 42, 42, 180, 0, 18, 42, 180, 0, 54, 47] := chW_of (by decide +kernel)
theorem d_12_3_0 : decode prog_12_method_3_code 0 = .ok (.aload_n 0, 1) := D_42 W_prog_12_method_3_code_0 0 rfl rfl
theorem d_12_3_1 : decode prog_12_method_3_code 1 = .ok (.aload_n 0, 1) := D_42 W_prog_12_method_3_code_0 1 rfl rfl
theorem d_12_3_2 : decode prog_12_method_3_code 2 = .ok (.getfield 9, 3) := D_180 W_prog_12_method_3_code_0 2 rfl rfl rfl
theorem d_12_3_5 : decode prog_12_method_3_code 5 = .ok (.aload_n 0, 1) := D_42 W_prog_12_method_3_code_0 5 rfl rfl
theorem d_12_3_6 : decode prog_12_method_3_code 6 = .ok (.getfield 54, 3) := D_180 W_prog_12_method_3_code_0 6 rfl rfl rfl
theorem d_12_3_9 : decode prog_12_method_3_code 9 = .ok (.iaload, 1) := D_46 W_prog_12_method_3_code_0 9 rfl rfl
theorem d_12_3_10 : decode prog_12_method_3_code 10 = .ok (.putfield 60, 3) := D_181 W_prog_12_method_3_code_0 10 rfl rfl rfl
theorem d_12_3_13 : decode prog_12_method_3_code 13 = .ok (.aload_n 0, 1) := D_42 W_prog_12_method_3_code_0 13 rfl rfl
theorem d_12_3_14 : decode prog_12_method_3_code 14 = .ok (.aload_n 0, 1) := D_42 W_prog_12_method_3_code_0 14 rfl rfl
theorem d_12_3_15 : decode prog_12_method_3_code 15 = .ok (.getfield 15, 3) := D_180 W_prog_12_method_3_code_0 15 rfl rfl rfl
theorem d_12_3_18 : decode prog_12_method_3_code 18 = .ok (.aload_n 0, 1) := D_42 W_prog_12_method_3_code_0 18 rfl rfl
theorem d_12_3_19 : decode prog_12_method_3_code 19 = .ok (.getfield 54, 3) := D_180 W_prog_12_method_3_code_0 19 rfl rfl rfl
theorem d_12_3_22 : decode prog_12_method_3_code 22 = .ok (.iaload, 1) := D_46 W_prog_12_method_3_code_0 22 rfl rfl
theorem d_12_3_23 : decode prog_12_method_3_code 23 = .ok (.putfield 63, 3) := D_181 W_prog_12_method_3_code_0 23 rfl rfl rfl
theorem d_12_3_26 : decode prog_12_method_3_code 26 = .ok (.aload_n 0, 1) := D_42 W_prog_12_method_3_code_0 26 rfl rfl
theorem d_12_3_27 : decode prog_12_method_3_code 27 = .ok (.aload_n 0, 1) := D_42 W_prog_12_method_3_code_0 27 rfl rfl
theorem d_12_3_28 : decode prog_12_method_3_code 28 = .ok (.getfield 18, 3) := D_180 W_prog_12_method_3_code_0 28 rfl rfl rfl
theorem d_12_3_31 : decode prog_12_method_3_code 31 = .ok (.aload_n 0, 1) := D_42 W_prog_12_method_3_code_0 31 rfl rfl
theorem W_prog_12_method_3_code_32 : chW prog_12_method_3_code 32 [180, 0, 54, 47, 181, 0, 66, 42, 180, 0, 60, 5, 160, 0, 29, 42, 42, 180, 0, 66, 136, 16, 8, 108, 181, 0, 70, 42, 42, 180, 0, 66, 136, 16, 8, 112] := chW_of (by decide +kernel)
theorem d_12_3_32 : decode prog_12_method_3_code 32 = .ok (.getfield 54, 3) := D_180 W_prog_12_method_3_code_32 0 rfl rfl rfl
theorem d_12_3_35 : decode prog_12_method_3_code 35 = .ok (.laload, 1) := D_47 W_prog_12_method_3_code_32 3 rfl rfl
theorem d_12_3_36 : decode prog_12_method_3_code 36 = .ok (.putfield 66, 3) := D_181 W_prog_12_method_3_code_32 4 rfl rfl rfl
theorem d_12_3_39 : decode prog_12_method_3_code 39 = .ok (.aload_n 0, 1) := D_42 W_prog_12_method_3_code_32 7 rfl rfl
theorem d_12_3_40 : decode prog_12_method_3_code 40 = .ok (.getfield 60, 3) := D_180 W_prog_12_method_3_code_32 8 rfl rfl rfl
theorem d_12_3_43 : decode prog_12_method_3_code 43 = .ok (.iconst 2, 1) := D_5 W_prog_12_method_3_code_32 11 rfl rfl
theorem d_12_3_44 : decode prog_12_method_3_code 44 = .ok (.if_icmp .ne 29, 3) := D_160 W_prog_12_method_3_code_32 12 rfl rfl rfl
theorem d_12_3_47 : decode prog_12_method_3_code 47 = .ok (.aload_n 0, 1) := D_42 W_prog_12_method_3_code_32 15 rfl rfl
theorem d_12_3_48 : decode prog_12_method_3_code 48 = .ok (.aload_n 0, 1) := D_42 W_prog_12_method_3_code_32 16 rfl rfl
theorem d_12_3_49 : decode prog_12_method_3_code 49 = .ok (.getfield 66, 3) := D_180 W_prog_12_method_3_code_32 17 rfl rfl rfl
theorem d_12_3_52 : decode prog_12_method_3_code 52 = .ok (.l2i, 1) := D_136 W_prog_12_method_3_code_32 20 rfl rfl
theorem d_12_3_53 : decode prog_12_method_3_code 53 = .ok (.bipush 8, 2) := D_16 W_prog_12_method_3_code_32 21 rfl rfl rfl
theorem d_12_3_55 : decode prog_12_method_3_code 55 = .ok (.idiv, 1) := D_108 W_prog_12_method_3_code_32 23 rfl rfl
theorem d_12_3_56 : decode prog_12_method_3_code 56 = .ok (.putfield 70, 3) := D_181 W_prog_12_method_3_code_32 24 rfl rfl rfl
theorem d_12_3_59 : decode prog_12_method_3_code 59 = .ok (.aload_n 0, 1) := D_42 W_prog_12_method_3_code_32 27 rfl rfl
theorem d_12_3_60 : decode prog_12_method_3_code 60 = .ok (.aload_n 0, 1) := D_42 W_prog_12_method_3_code_32 28 rfl rfl
theorem d_12_3_61 : decode prog_12_method_3_code 61 = .ok (.getfield 66, 3) := D_180 W_prog_12_method_3_code_32 29 rfl rfl rfl
theorem W_prog_12_method_3_code_64 : chW prog_12_method_3_code 64 [136, 16, 8, 112, 5, 100, 181, 0, 73, 42, 180, 0, 60, 153, 0, 23, 42, 180, 0, 54, 17, 11, 184, 162, 0, 13, 42, 89, 180, 0, 54, 4, 96, 181, 0, 54] := chW_of (by decide +kernel)
theorem d_12_3_64 : decode prog_12_method_3_code 64 = .ok (.l2i, 1) := D_136 W_prog_12_method_3_code_64 0 rfl rfl
theorem d_12_3_65 : decode prog_12_method_3_code 65 = .ok (.bipush 8, 2) := D_16 W_prog_12_method_3_code_64 1 rfl rfl rfl
theorem d_12_3_67 : decode prog_12_method_3_code 67 = .ok (.irem, 1) := D_112 W_prog_12_method_3_code_64 3 rfl rfl
theorem d_12_3_68 : decode prog_12_method_3_code 68 = .ok (.iconst 2, 1) := D_5 W_prog_12_method_3_code_64 4 rfl rfl
theorem d_12_3_69 : decode prog_12_method_3_code 69 = .ok (.isub, 1) := D_100 W_prog_12_method_3_code_64 5 rfl rfl
theorem d_12_3_70 : decode prog_12_method_3_code 70 = .ok (.putfield 73, 3) := D_181 W_prog_12_method_3_code_64 6 rfl rfl rfl
theorem d_12_3_73 : decode prog_12_method_3_code 73 = .ok (.aload_n 0, 1) := D_42 W_prog_12_method_3_code_64 9 rfl rfl
theorem d_12_3_74 : decode prog_12_method_3_code 74 = .ok (.getfield 60, 3) := D_180 W_prog_12_method_3_code_64 10 rfl rfl rfl
theorem d_12_3_77 : decode prog_12_method_3_code 77 = .ok (.ifCond .eq 23, 3) := D_153 W_prog_12_method_3_code_64 13 rfl rfl rfl
theorem d_12_3_80 : decode prog_12_method_3_code 80 = .ok (.aload_n 0, 1) := D_42 W_prog_12_method_3_code_64 16 rfl rfl
theorem d_12_3_81 : decode prog_12_method_3_code 81 = .ok (.getfield 54, 3) := D_180 W_prog_12_method_3_code_64 17 rfl rfl rfl
theorem d_12_3_84 : decode prog_12_method_3_code 84 = .ok (.sipush 3000, 3) := D_17 W_prog_12_method_3_code_64 20 rfl rfl rfl
theorem d_12_3_87 : decode prog_12_method_3_code 87 = .ok (.if_icmp .ge 13, 3) := D_162 W_prog_12_method_3_code_64 23 rfl rfl rfl
theorem d_12_3_90 : decode prog_12_method_3_code 90 = .ok (.aload_n 0, 1) := D_42 W_prog_12_method_3_code_64 26 rfl rfl
theorem d_12_3_91 : decode prog_12_method_3_code 91 = .ok (.dup, 1) := D_89 W_prog_12_method_3_code_64 27 rfl rfl
theorem d_12_3_92 : decode prog_12_method_3_code 92 = .ok (.getfield 54, 3) := D_180 W_prog_12_method_3_code_64 28 rfl rfl rfl
theorem d_12_3_95 : decode prog_12_method_3_code 95 = .ok (.iconst 1, 1) := D_4 W_prog_12_method_3_code_64 31 rfl rfl
theorem W_prog_12_method_3_code_96 : chW prog_12_method_3_code 96 [96, 181, 0, 54, 177] := chW_of (by decide +kernel)
theorem d_12_3_96 : decode prog_12_method_3_code 96 = .ok (.iadd, 1) := D_96 W_prog_12_method_3_code_96 0 rfl rfl
theorem d_12_3_97 : decode prog_12_method_3_code 97 = .ok (.putfield 54, 3) := D_181 W_prog_12_method_3_code_96 1 rfl rfl rfl
theorem d_12_3_100 : decode prog_12_method_3_code 100 = .ok (.return_, 1) := D_177 W_prog_12_method_3_code_96 4 rfl rfl
theorem W_prog_12_method_5_code_0 : chW prog_12_method_5_code 0 [42, 180, 0, 60, 7, 160, 0, 16, 42, 180, 0, 66, 31, 148, 154, 0, 7, 4, 167, 0, 4, 3, 172] := chW_of (by decide +kernel)
theorem d_12_5_0 : decode prog_12_method_5_code 0 = .ok (.aload_n 0, 1) := D_42 W_prog_12_method_5_code_0 0 rfl rfl
theorem d_12_5_1 : decode prog_12_method_5_code 1 = .ok (.getfield 60, 3) := D_180 W_prog_12_method_5_code_0 1 rfl rfl rfl
theorem d_12_5_4 : decode prog_12_method_5_code 4 = .ok (.iconst 4, 1) := D_7 W_prog_12_method_5_code_0 4 rfl rfl
theorem d_12_5_5 : decode prog_12_method_5_code 5 = .ok (.if_icmp .ne 16, 3) := D_160 W_prog_12_method_5_code_0 5 rfl rfl rfl
theorem d_12_5_8 : decode prog_12_method_5_code 8 = .ok (.aload_n 0, 1) := D_42 W_prog_12_method_5_code_0 8 rfl rfl
theorem d_12_5_9 : decode prog_12_method_5_code 9 = .ok (.getfield 66, 3) := D_180 W_prog_12_method_5_code_0 9 rfl rfl rfl
theorem d_12_5_12 : decode prog_12_method_5_code 12 = .ok (.lload_n 1, 1) := D_31 W_prog_12_method_5_code_0 12 rfl rfl
theorem d_12_5_13 : decode prog_12_method_5_code 13 = .ok (.lcmp, 1) := D_148 W_prog_12_method_5_code_0 13 rfl rfl
theorem d_12_5_14 : decode prog_12_method_5_code 14 = .ok (.ifCond .ne 7, 3) := D_154 W_prog_12_method_5_code_0 14 rfl rfl rfl
theorem d_12_5_17 : decode prog_12_method_5_code 17 = .ok (.iconst 1, 1) := D_4 W_prog_12_method_5_code_0 17 rfl rfl
theorem d_12_5_18 : decode prog_12_method_5_code 18 = .ok (.goto 4, 3) := D_167 W_prog_12_method_5_code_0 18 rfl rfl rfl
theorem d_12_5_22 : decode prog_12_method_5_code 22 = .ok (.ireturn, 1) := D_172 W_prog_12_method_5_code_0 22 rfl rfl
theorem d_12_5_21 : decode prog_12_method_5_code 21 = .ok (.iconst 0, 1) := D_3 W_prog_12_method_5_code_0 21 rfl rfl
theorem W_prog_5_method_5_code_0 : chW prog_5_method_5_code 0 [42, 180, 0, 48, 20, 0, 116, 182, 0, 88, 153, 0, 5, 4, 172, 42, 180, 0, 48, 20, 0, 118, 182, 0, 88, 153, 0, 5, 5, 172, 42, 180, 0, 48, 20, 0] := chW_of (by decide +kernel)
theorem d_5_5_0 : decode prog_5_method_5_code 0 = .ok (.aload_n 0, 1) := D_42 W_prog_5_method_5_code_0 0 rfl rfl
theorem d_5_5_1 : decode prog_5_method_5_code 1 = .ok (.getfield 48, 3) := D_180 W_prog_5_method_5_code_0 1 rfl rfl rfl
theorem d_5_5_4 : decode prog_5_method_5_code 4 = .ok (.ldc2_w 116, 3) := D_20 W_prog_5_method_5_code_0 4 rfl rfl rfl
theorem d_5_5_7 : decode prog_5_method_5_code 7 = .ok (.invokevirtual 88, 3) := D_182 W_prog_5_method_5_code_0 7 rfl rfl rfl
theorem d_5_5_10 : decode prog_5_method_5_code 10 = .ok (.ifCond .eq 5, 3) := D_153 W_prog_5_method_5_code_0 10 rfl rfl rfl
theorem d_5_5_15 : decode prog_5_method_5_code 15 = .ok (.aload_n 0, 1) := D_42 W_prog_5_method_5_code_0 15 rfl rfl
theorem d_5_5_16 : decode prog_5_method_5_code 16 = .ok (.getfield 48, 3) := D_180 W_prog_5_method_5_code_0 16 rfl rfl rfl
theorem d_5_5_19 : decode prog_5_method_5_code 19 = .ok (.ldc2_w 118, 3) := D_20 W_prog_5_method_5_code_0 19 rfl rfl rfl
theorem d_5_5_22 : decode prog_5_method_5_code 22 = .ok (.invokevirtual 88, 3) := D_182 W_prog_5_method_5_code_0 22 rfl rfl rfl
theorem d_5_5_25 : decode prog_5_method_5_code 25 = .ok (.ifCond .eq 5, 3) := D_153 W_prog_5_method_5_code_0 25 rfl rfl rfl
theorem d_5_5_30 : decode prog_5_method_5_code 30 = .ok (.aload_n 0, 1) := D_42 W_prog_5_method_5_code_0 30 rfl rfl
theorem d_5_5_31 : decode prog_5_method_5_code 31 = .ok (.getfield 48, 3) := D_180 W_prog_5_method_5_code_0 31 rfl rfl rfl
theorem W_prog_5_method_5_code_32 : chW prog_5_method_5_code 32 [0, 48, 20, 0, 120, 182, 0, 88, 153, 0, 7, 7, 167, 0, 4, 3, 172] := chW_of (by decide +kernel)
theorem d_5_5_34 : decode prog_5_method_5_code 34 = .ok (.ldc2_w 120, 3) := D_20 W_prog_5_method_5_code_32 2 rfl rfl rfl
theorem d_5_5_37 : decode prog_5_method_5_code 37 = .ok (.invokevirtual 88, 3) := D_182 W_prog_5_method_5_code_32 5 rfl rfl rfl
theorem d_5_5_40 : decode prog_5_method_5_code 40 = .ok (.ifCond .eq 7, 3) := D_153 W_prog_5_method_5_code_32 8 rfl rfl rfl
theorem d_5_5_47 : decode prog_5_method_5_code 47 = .ok (.iconst 0, 1) := D_3 W_prog_5_method_5_code_32 15 rfl rfl
theorem d_5_5_43 : decode prog_5_method_5_code 43 = .ok (.iconst 4, 1) := D_7 W_prog_5_method_5_code_32 11 rfl rfl
theorem d_5_5_44 : decode prog_5_method_5_code 44 = .ok (.goto 4, 3) := D_167 W_prog_5_method_5_code_32 12 rfl rfl rfl
theorem d_5_5_28 : decode prog_5_method_5_code 28 = .ok (.iconst 2, 1) := D_5 W_prog_5_method_5_code_0 28 rfl rfl
theorem d_5_5_29 : decode prog_5_method_5_code 29 = .ok (.ireturn, 1) := D_172 W_prog_5_method_5_code_0 29 rfl rfl
theorem d_5_5_13 : decode prog_5_method_5_code 13 = .ok (.iconst 1, 1) := D_4 W_prog_5_method_5_code_0 13 rfl rfl
theorem d_5_5_14 : decode prog_5_method_5_code 14 = .ok (.ireturn, 1) := D_172 W_prog_5_method_5_code_0 14 rfl rfl
theorem d_5_5_48 : decode prog_5_method_5_code 48 = .ok (.ireturn, 1) := D_172 W_prog_5_method_5_code_32 16 rfl rfl
theorem W_prog_5_method_16_code_0 : chW prog_5_method_16_code 0 [42, 180, 0, 59, 17, 11, 183, 184, 0, 229, 61, 42, 28, 4, 96, 181, 0, 59, 42, 180, 0, 9, 28, 27, 79, 42, 180, 0, 15, 28, 42, 180, 0, 48, 180, 0] := chW_of (by decide +kernel)
theorem d_5_16_0 : decode prog_5_method_16_code 0 = .ok (.aload_n 0, 1) := D_42 W_prog_5_method_16_code_0 0 rfl rfl
theorem d_5_16_1 : decode prog_5_method_16_code 1 = .ok (.getfield 59, 3) := D_180 W_prog_5_method_16_code_0 1 rfl rfl rfl
theorem d_5_16_4 : decode prog_5_method_16_code 4 = .ok (.sipush 2999, 3) := D_17 W_prog_5_method_16_code_0 4 rfl rfl rfl
theorem d_5_16_7 : decode prog_5_method_16_code 7 = .ok (.invokestatic 229, 3) := D_184 W_prog_5_method_16_code_0 7 rfl rfl rfl
theorem d_5_16_10 : decode prog_5_method_16_code 10 = .ok (.istore_n 2, 1) := D_61 W_prog_5_method_16_code_0 10 rfl rfl
theorem d_5_16_11 : decode prog_5_method_16_code 11 = .ok (.aload_n 0, 1) := D_42 W_prog_5_method_16_code_0 11 rfl rfl
theorem d_5_16_12 : decode prog_5_method_16_code 12 = .ok (.iload_n 2, 1) := D_28 W_prog_5_method_16_code_0 12 rfl rfl
theorem d_5_16_13 : decode prog_5_method_16_code 13 = .ok (.iconst 1, 1) := D_4 W_prog_5_method_16_code_0 13 rfl rfl
theorem d_5_16_14 : decode prog_5_method_16_code 14 = .ok (.iadd, 1) := D_96 W_prog_5_method_16_code_0 14 rfl rfl
theorem d_5_16_15 : decode prog_5_method_16_code 15 = .ok (.putfield 59, 3) := D_181 W_prog_5_method_16_code_0 15 rfl rfl rfl
theorem d_5_16_18 : decode prog_5_method_16_code 18 = .ok (.aload_n 0, 1) := D_42 W_prog_5_method_16_code_0 18 rfl rfl
theorem d_5_16_19 : decode prog_5_method_16_code 19 = .ok (.getfield 9, 3) := D_180 W_prog_5_method_16_code_0 19 rfl rfl rfl
theorem d_5_16_22 : decode prog_5_method_16_code 22 = .ok (.iload_n 2, 1) := D_28 W_prog_5_method_16_code_0 22 rfl rfl
theorem d_5_16_23 : decode prog_5_method_16_code 23 = .ok (.iload_n 1, 1) := D_27 W_prog_5_method_16_code_0 23 rfl rfl
theorem d_5_16_24 : decode prog_5_method_16_code 24 = .ok (.iastore, 1) := D_79 W_prog_5_method_16_code_0 24 rfl rfl
theorem d_5_16_25 : decode prog_5_method_16_code 25 = .ok (.aload_n 0, 1) := D_42 W_prog_5_method_16_code_0 25 rfl rfl
theorem d_5_16_26 : decode prog_5_method_16_code 26 = .ok (.getfield 15, 3) := D_180 W_prog_5_method_16_code_0 26 rfl rfl rfl
theorem d_5_16_29 : decode prog_5_method_16_code 29 = .ok (.iload_n 2, 1) := D_28 W_prog_5_method_16_code_0 29 rfl rfl
theorem d_5_16_30 : decode prog_5_method_16_code 30 = .ok (.aload_n 0, 1) := D_42 W_prog_5_method_16_code_0 30 rfl rfl
theorem d_5_16_31 : decode prog_5_method_16_code 31 = .ok (.getfield 48, 3) := D_180 W_prog_5_method_16_code_0 31 rfl rfl rfl
theorem W_prog_5_method_16_code_32 : chW prog_5_method_16_code 32 [0, 48, 180, 0, 110, 79, 42, 180, 0, 18, 28, 3, 79, 42, 180, 0, 21, 28, 2, 79, 42, 180, 0, 24, 28, 2, 79, 42, 180, 0, 27, 28, 2, 79, 42, 180] := chW_of (by decide +kernel)
theorem d_5_16_34 : decode prog_5_method_16_code 34 = .ok (.getfield 110, 3) := D_180 W_prog_5_method_16_code_32 2 rfl rfl rfl
theorem d_5_16_37 : decode prog_5_method_16_code 37 = .ok (.iastore, 1) := D_79 W_prog_5_method_16_code_32 5 rfl rfl
theorem d_5_16_38 : decode prog_5_method_16_code 38 = .ok (.aload_n 0, 1) := D_42 W_prog_5_method_16_code_32 6 rfl rfl
theorem d_5_16_39 : decode prog_5_method_16_code 39 = .ok (.getfield 18, 3) := D_180 W_prog_5_method_16_code_32 7 rfl rfl rfl
theorem d_5_16_42 : decode prog_5_method_16_code 42 = .ok (.iload_n 2, 1) := D_28 W_prog_5_method_16_code_32 10 rfl rfl
theorem d_5_16_43 : decode prog_5_method_16_code 43 = .ok (.iconst 0, 1) := D_3 W_prog_5_method_16_code_32 11 rfl rfl
theorem d_5_16_44 : decode prog_5_method_16_code 44 = .ok (.iastore, 1) := D_79 W_prog_5_method_16_code_32 12 rfl rfl
theorem d_5_16_45 : decode prog_5_method_16_code 45 = .ok (.aload_n 0, 1) := D_42 W_prog_5_method_16_code_32 13 rfl rfl
theorem d_5_16_46 : decode prog_5_method_16_code 46 = .ok (.getfield 21, 3) := D_180 W_prog_5_method_16_code_32 14 rfl rfl rfl
theorem d_5_16_49 : decode prog_5_method_16_code 49 = .ok (.iload_n 2, 1) := D_28 W_prog_5_method_16_code_32 17 rfl rfl
theorem d_5_16_50 : decode prog_5_method_16_code 50 = .ok (.iconst (-1), 1) := D_2 W_prog_5_method_16_code_32 18 rfl rfl
theorem d_5_16_51 : decode prog_5_method_16_code 51 = .ok (.iastore, 1) := D_79 W_prog_5_method_16_code_32 19 rfl rfl
theorem d_5_16_52 : decode prog_5_method_16_code 52 = .ok (.aload_n 0, 1) := D_42 W_prog_5_method_16_code_32 20 rfl rfl
theorem d_5_16_53 : decode prog_5_method_16_code 53 = .ok (.getfield 24, 3) := D_180 W_prog_5_method_16_code_32 21 rfl rfl rfl
theorem d_5_16_56 : decode prog_5_method_16_code 56 = .ok (.iload_n 2, 1) := D_28 W_prog_5_method_16_code_32 24 rfl rfl
theorem d_5_16_57 : decode prog_5_method_16_code 57 = .ok (.iconst (-1), 1) := D_2 W_prog_5_method_16_code_32 25 rfl rfl
theorem d_5_16_58 : decode prog_5_method_16_code 58 = .ok (.iastore, 1) := D_79 W_prog_5_method_16_code_32 26 rfl rfl
theorem d_5_16_59 : decode prog_5_method_16_code 59 = .ok (.aload_n 0, 1) := D_42 W_prog_5_method_16_code_32 27 rfl rfl
theorem d_5_16_60 : decode prog_5_method_16_code 60 = .ok (.getfield 27, 3) := D_180 W_prog_5_method_16_code_32 28 rfl rfl rfl
theorem d_5_16_63 : decode prog_5_method_16_code 63 = .ok (.iload_n 2, 1) := D_28 W_prog_5_method_16_code_32 31 rfl rfl
theorem W_prog_5_method_16_code_64 : chW prog_5_method_16_code 64 [2, 79, 42, 180, 0, 30, 28, 3, 79, 42, 180, 0, 33, 28, 3, 79, 28, 172] := chW_of (by decide +kernel)
theorem d_5_16_64 : decode prog_5_method_16_code 64 = .ok (.iconst (-1), 1) := D_2 W_prog_5_method_16_code_64 0 rfl rfl
theorem d_5_16_65 : decode prog_5_method_16_code 65 = .ok (.iastore, 1) := D_79 W_prog_5_method_16_code_64 1 rfl rfl
theorem d_5_16_66 : decode prog_5_method_16_code 66 = .ok (.aload_n 0, 1) := D_42 W_prog_5_method_16_code_64 2 rfl rfl
theorem d_5_16_67 : decode prog_5_method_16_code 67 = .ok (.getfield 30, 3) := D_180 W_prog_5_method_16_code_64 3 rfl rfl rfl
theorem d_5_16_70 : decode prog_5_method_16_code 70 = .ok (.iload_n 2, 1) := D_28 W_prog_5_method_16_code_64 6 rfl rfl
theorem d_5_16_71 : decode prog_5_method_16_code 71 = .ok (.iconst 0, 1) := D_3 W_prog_5_method_16_code_64 7 rfl rfl
theorem d_5_16_72 : decode prog_5_method_16_code 72 = .ok (.iastore, 1) := D_79 W_prog_5_method_16_code_64 8 rfl rfl
theorem d_5_16_73 : decode prog_5_method_16_code 73 = .ok (.aload_n 0, 1) := D_42 W_prog_5_method_16_code_64 9 rfl rfl
theorem d_5_16_74 : decode prog_5_method_16_code 74 = .ok (.getfield 33, 3) := D_180 W_prog_5_method_16_code_64 10 rfl rfl rfl
theorem d_5_16_77 : decode prog_5_method_16_code 77 = .ok (.iload_n 2, 1) := D_28 W_prog_5_method_16_code_64 13 rfl rfl
theorem d_5_16_78 : decode prog_5_method_16_code 78 = .ok (.iconst 0, 1) := D_3 W_prog_5_method_16_code_64 14 rfl rfl
theorem d_5_16_79 : decode prog_5_method_16_code 79 = .ok (.iastore, 1) := D_79 W_prog_5_method_16_code_64 15 rfl rfl
theorem d_5_16_80 : decode prog_5_method_16_code 80 = .ok (.iload_n 2, 1) := D_28 W_prog_5_method_16_code_64 16 rfl rfl
theorem d_5_16_81 : decode prog_5_method_16_code 81 = .ok (.ireturn, 1) := D_172 W_prog_5_method_16_code_64 17 rfl rfl
theorem W_prog_5_method_13_code_0 : chW prog_5_method_13_code 0 [3, 62, 29, 42, 190, 162, 0, 19, 42, 29, 47, 31, 148, 154, 0, 5, 29, 172, 132, 3, 1, 167, 255, 237, 2, 172] := chW_of (by decide +kernel)
theorem d_5_13_0 : decode prog_5_method_13_code 0 = .ok (.iconst 0, 1) := D_3 W_prog_5_method_13_code_0 0 rfl rfl
theorem d_5_13_1 : decode prog_5_method_13_code 1 = .ok (.istore_n 3, 1) := D_62 W_prog_5_method_13_code_0 1 rfl rfl
theorem d_5_13_2 : decode prog_5_method_13_code 2 = .ok (.iload_n 3, 1) := D_29 W_prog_5_method_13_code_0 2 rfl rfl
theorem d_5_13_3 : decode prog_5_method_13_code 3 = .ok (.aload_n 0, 1) := D_42 W_prog_5_method_13_code_0 3 rfl rfl
theorem d_5_13_4 : decode prog_5_method_13_code 4 = .ok (.arraylength, 1) := D_190 W_prog_5_method_13_code_0 4 rfl rfl
theorem d_5_13_5 : decode prog_5_method_13_code 5 = .ok (.if_icmp .ge 19, 3) := D_162 W_prog_5_method_13_code_0 5 rfl rfl rfl
theorem d_5_13_24 : decode prog_5_method_13_code 24 = .ok (.iconst (-1), 1) := D_2 W_prog_5_method_13_code_0 24 rfl rfl
theorem d_5_13_25 : decode prog_5_method_13_code 25 = .ok (.ireturn, 1) := D_172 W_prog_5_method_13_code_0 25 rfl rfl
theorem d_5_13_8 : decode prog_5_method_13_code 8 = .ok (.aload_n 0, 1) := D_42 W_prog_5_method_13_code_0 8 rfl rfl
theorem d_5_13_9 : decode prog_5_method_13_code 9 = .ok (.iload_n 3, 1) := D_29 W_prog_5_method_13_code_0 9 rfl rfl
theorem d_5_13_10 : decode prog_5_method_13_code 10 = .ok (.laload, 1) := D_47 W_prog_5_method_13_code_0 10 rfl rfl
theorem d_5_13_11 : decode prog_5_method_13_code 11 = .ok (.lload_n 1, 1) := D_31 W_prog_5_method_13_code_0 11 rfl rfl
theorem d_5_13_12 : decode prog_5_method_13_code 12 = .ok (.lcmp, 1) := D_148 W_prog_5_method_13_code_0 12 rfl rfl
theorem d_5_13_13 : decode prog_5_method_13_code 13 = .ok (.ifCond .ne 5, 3) := D_154 W_prog_5_method_13_code_0 13 rfl rfl rfl
theorem d_5_13_18 : decode prog_5_method_13_code 18 = .ok (.iinc 3 1, 3) := D_132 W_prog_5_method_13_code_0 18 rfl rfl rfl
theorem d_5_13_21 : decode prog_5_method_13_code 21 = .ok (.goto (-19), 3) := D_167 W_prog_5_method_13_code_0 21 rfl rfl rfl
theorem d_5_13_16 : decode prog_5_method_13_code 16 = .ok (.iload_n 3, 1) := D_29 W_prog_5_method_13_code_0 16 rfl rfl
theorem d_5_13_17 : decode prog_5_method_13_code 17 = .ok (.ireturn, 1) := D_172 W_prog_5_method_13_code_0 17 rfl rfl
theorem W_prog_5_method_3_code_0 : chW prog_5_method_3_code 0 [42, 42, 180, 0, 48, 180, 0, 108, 4, 160, 0, 7, 4, 167, 0, 4, 27, 16, 16, 42, 180, 0, 48, 180, 0, 110, 104, 96, 181, 0, 75, 3, 172] := chW_of (by decide +kernel)
theorem d_5_3_0 : decode prog_5_method_3_code 0 = .ok (.aload_n 0, 1) := D_42 W_prog_5_method_3_code_0 0 rfl rfl
theorem d_5_3_1 : decode prog_5_method_3_code 1 = .ok (.aload_n 0, 1) := D_42 W_prog_5_method_3_code_0 1 rfl rfl
theorem d_5_3_2 : decode prog_5_method_3_code 2 = .ok (.getfield 48, 3) := D_180 W_prog_5_method_3_code_0 2 rfl rfl rfl
theorem d_5_3_5 : decode prog_5_method_3_code 5 = .ok (.getfield 108, 3) := D_180 W_prog_5_method_3_code_0 5 rfl rfl rfl
theorem d_5_3_8 : decode prog_5_method_3_code 8 = .ok (.iconst 1, 1) := D_4 W_prog_5_method_3_code_0 8 rfl rfl
theorem d_5_3_9 : decode prog_5_method_3_code 9 = .ok (.if_icmp .ne 7, 3) := D_160 W_prog_5_method_3_code_0 9 rfl rfl rfl
theorem d_5_3_16 : decode prog_5_method_3_code 16 = .ok (.iload_n 1, 1) := D_27 W_prog_5_method_3_code_0 16 rfl rfl
theorem d_5_3_12 : decode prog_5_method_3_code 12 = .ok (.iconst 1, 1) := D_4 W_prog_5_method_3_code_0 12 rfl rfl
theorem d_5_3_13 : decode prog_5_method_3_code 13 = .ok (.goto 4, 3) := D_167 W_prog_5_method_3_code_0 13 rfl rfl rfl
theorem d_5_3_17 : decode prog_5_method_3_code 17 = .ok (.bipush 16, 2) := D_16 W_prog_5_method_3_code_0 17 rfl rfl rfl
theorem d_5_3_19 : decode prog_5_method_3_code 19 = .ok (.aload_n 0, 1) := D_42 W_prog_5_method_3_code_0 19 rfl rfl
theorem d_5_3_20 : decode prog_5_method_3_code 20 = .ok (.getfield 48, 3) := D_180 W_prog_5_method_3_code_0 20 rfl rfl rfl
theorem d_5_3_23 : decode prog_5_method_3_code 23 = .ok (.getfield 110, 3) := D_180 W_prog_5_method_3_code_0 23 rfl rfl rfl
theorem d_5_3_26 : decode prog_5_method_3_code 26 = .ok (.imul, 1) := D_104 W_prog_5_method_3_code_0 26 rfl rfl
theorem d_5_3_27 : decode prog_5_method_3_code 27 = .ok (.iadd, 1) := D_96 W_prog_5_method_3_code_0 27 rfl rfl
theorem d_5_3_28 : decode prog_5_method_3_code 28 = .ok (.putfield 75, 3) := D_181 W_prog_5_method_3_code_0 28 rfl rfl rfl
theorem d_5_3_31 : decode prog_5_method_3_code 31 = .ok (.iconst 0, 1) := D_3 W_prog_5_method_3_code_0 31 rfl rfl
theorem W_prog_5_method_3_code_32 : chW prog_5_method_3_code 32 [172] := chW_of (by decide +kernel)
theorem d_5_3_32 : decode prog_5_method_3_code 32 = .ok (.ireturn, 1) := D_172 W_prog_5_method_3_code_32 0 rfl rfl
theorem W_prog_5_method_10_code_0 : chW prog_5_method_10_code 0 [3, 62, 29, 42, 180, 0, 66, 162, 0, 27, 42, 180, 0, 52, 29, 47, 31, 148, 154, 0, 10, 42, 180, 0, 56, 29, 46, 172, 132, 3, 1, 167, 255, 227, 2, 172] := chW_of (by decide +kernel)
theorem d_5_10_0 : decode prog_5_method_10_code 0 = .ok (.iconst 0, 1) := D_3 W_prog_5_method_10_code_0 0 rfl rfl
theorem d_5_10_1 : decode prog_5_method_10_code 1 = .ok (.istore_n 3, 1) := D_62 W_prog_5_method_10_code_0 1 rfl rfl
theorem d_5_10_2 : decode prog_5_method_10_code 2 = .ok (.iload_n 3, 1) := D_29 W_prog_5_method_10_code_0 2 rfl rfl
theorem d_5_10_3 : decode prog_5_method_10_code 3 = .ok (.aload_n 0, 1) := D_42 W_prog_5_method_10_code_0 3 rfl rfl
theorem d_5_10_4 : decode prog_5_method_10_code 4 = .ok (.getfield 66, 3) := D_180 W_prog_5_method_10_code_0 4 rfl rfl rfl
theorem d_5_10_7 : decode prog_5_method_10_code 7 = .ok (.if_icmp .ge 27, 3) := D_162 W_prog_5_method_10_code_0 7 rfl rfl rfl
theorem W_prog_5_method_10_code_32 : chW prog_5_method_10_code 32 [255, 227, 2, 172] := chW_of (by decide +kernel)
theorem d_5_10_34 : decode prog_5_method_10_code 34 = .ok (.iconst (-1), 1) := D_2 W_prog_5_method_10_code_32 2 rfl rfl
theorem d_5_10_35 : decode prog_5_method_10_code 35 = .ok (.ireturn, 1) := D_172 W_prog_5_method_10_code_32 3 rfl rfl
theorem d_5_10_10 : decode prog_5_method_10_code 10 = .ok (.aload_n 0, 1) := D_42 W_prog_5_method_10_code_0 10 rfl rfl
theorem d_5_10_11 : decode prog_5_method_10_code 11 = .ok (.getfield 52, 3) := D_180 W_prog_5_method_10_code_0 11 rfl rfl rfl
theorem d_5_10_14 : decode prog_5_method_10_code 14 = .ok (.iload_n 3, 1) := D_29 W_prog_5_method_10_code_0 14 rfl rfl
theorem d_5_10_15 : decode prog_5_method_10_code 15 = .ok (.laload, 1) := D_47 W_prog_5_method_10_code_0 15 rfl rfl
theorem d_5_10_16 : decode prog_5_method_10_code 16 = .ok (.lload_n 1, 1) := D_31 W_prog_5_method_10_code_0 16 rfl rfl
theorem d_5_10_17 : decode prog_5_method_10_code 17 = .ok (.lcmp, 1) := D_148 W_prog_5_method_10_code_0 17 rfl rfl
theorem d_5_10_18 : decode prog_5_method_10_code 18 = .ok (.ifCond .ne 10, 3) := D_154 W_prog_5_method_10_code_0 18 rfl rfl rfl
theorem d_5_10_28 : decode prog_5_method_10_code 28 = .ok (.iinc 3 1, 3) := D_132 W_prog_5_method_10_code_0 28 rfl rfl rfl
theorem d_5_10_31 : decode prog_5_method_10_code 31 = .ok (.goto (-29), 3) := D_167 W_prog_5_method_10_code_0 31 rfl rfl rfl
theorem d_5_10_21 : decode prog_5_method_10_code 21 = .ok (.aload_n 0, 1) := D_42 W_prog_5_method_10_code_0 21 rfl rfl
theorem d_5_10_22 : decode prog_5_method_10_code 22 = .ok (.getfield 56, 3) := D_180 W_prog_5_method_10_code_0 22 rfl rfl rfl
theorem d_5_10_25 : decode prog_5_method_10_code 25 = .ok (.iload_n 3, 1) := D_29 W_prog_5_method_10_code_0 25 rfl rfl
theorem d_5_10_26 : decode prog_5_method_10_code 26 = .ok (.iaload, 1) := D_46 W_prog_5_method_10_code_0 26 rfl rfl
theorem d_5_10_27 : decode prog_5_method_10_code 27 = .ok (.ireturn, 1) := D_172 W_prog_5_method_10_code_0 27 rfl rfl
theorem W_prog_12_method_4_code_0 : chW prog_12_method_4_code 0 [42, 180, 0, 60, 8, 160, 0, 17, 42, 180, 0, 66, 27, 133, 148, 154, 0, 7, 4, 167, 0, 4, 3, 172] := chW_of (by decide +kernel)
theorem d_12_4_0 : decode prog_12_method_4_code 0 = .ok (.aload_n 0, 1) := D_42 W_prog_12_method_4_code_0 0 rfl rfl
theorem d_12_4_1 : decode prog_12_method_4_code 1 = .ok (.getfield 60, 3) := D_180 W_prog_12_method_4_code_0 1 rfl rfl rfl
theorem d_12_4_4 : decode prog_12_method_4_code 4 = .ok (.iconst 5, 1) := D_8 W_prog_12_method_4_code_0 4 rfl rfl
theorem d_12_4_5 : decode prog_12_method_4_code 5 = .ok (.if_icmp .ne 17, 3) := D_160 W_prog_12_method_4_code_0 5 rfl rfl rfl
theorem d_12_4_8 : decode prog_12_method_4_code 8 = .ok (.aload_n 0, 1) := D_42 W_prog_12_method_4_code_0 8 rfl rfl
theorem d_12_4_9 : decode prog_12_method_4_code 9 = .ok (.getfield 66, 3) := D_180 W_prog_12_method_4_code_0 9 rfl rfl rfl
theorem d_12_4_12 : decode prog_12_method_4_code 12 = .ok (.iload_n 1, 1) := D_27 W_prog_12_method_4_code_0 12 rfl rfl
theorem d_12_4_13 : decode prog_12_method_4_code 13 = .ok (.i2l, 1) := D_133 W_prog_12_method_4_code_0 13 rfl rfl
theorem d_12_4_14 : decode prog_12_method_4_code 14 = .ok (.lcmp, 1) := D_148 W_prog_12_method_4_code_0 14 rfl rfl
theorem d_12_4_15 : decode prog_12_method_4_code 15 = .ok (.ifCond .ne 7, 3) := D_154 W_prog_12_method_4_code_0 15 rfl rfl rfl
theorem d_12_4_18 : decode prog_12_method_4_code 18 = .ok (.iconst 1, 1) := D_4 W_prog_12_method_4_code_0 18 rfl rfl
theorem d_12_4_19 : decode prog_12_method_4_code 19 = .ok (.goto 4, 3) := D_167 W_prog_12_method_4_code_0 19 rfl rfl rfl
theorem d_12_4_23 : decode prog_12_method_4_code 23 = .ok (.ireturn, 1) := D_172 W_prog_12_method_4_code_0 23 rfl rfl
theorem d_12_4_22 : decode prog_12_method_4_code 22 = .ok (.iconst 0, 1) := D_3 W_prog_12_method_4_code_0 22 rfl rfl
theorem W_prog_5_method_17_code_0 : chW prog_5_method_17_code 0 [42, 180, 0, 48, 27, 182, 0, 153, 154, 0, 9, 42, 5, 182, 0, 101, 172, 42, 180, 0, 72, 16, 8, 161, 0, 9, 42, 6, 182, 0, 101, 172, 42, 89, 180, 0] := chW_of (by decide +kernel)
theorem d_5_17_0 : decode prog_5_method_17_code 0 = .ok (.aload_n 0, 1) := D_42 W_prog_5_method_17_code_0 0 rfl rfl
theorem d_5_17_1 : decode prog_5_method_17_code 1 = .ok (.getfield 48, 3) := D_180 W_prog_5_method_17_code_0 1 rfl rfl rfl
theorem d_5_17_4 : decode prog_5_method_17_code 4 = .ok (.iload_n 1, 1) := D_27 W_prog_5_method_17_code_0 4 rfl rfl
theorem d_5_17_5 : decode prog_5_method_17_code 5 = .ok (.invokevirtual 153, 3) := D_182 W_prog_5_method_17_code_0 5 rfl rfl rfl
theorem d_5_17_8 : decode prog_5_method_17_code 8 = .ok (.ifCond .ne 9, 3) := D_154 W_prog_5_method_17_code_0 8 rfl rfl rfl
theorem d_5_17_17 : decode prog_5_method_17_code 17 = .ok (.aload_n 0, 1) := D_42 W_prog_5_method_17_code_0 17 rfl rfl
theorem d_5_17_18 : decode prog_5_method_17_code 18 = .ok (.getfield 72, 3) := D_180 W_prog_5_method_17_code_0 18 rfl rfl rfl
theorem d_5_17_21 : decode prog_5_method_17_code 21 = .ok (.bipush 8, 2) := D_16 W_prog_5_method_17_code_0 21 rfl rfl rfl
theorem d_5_17_23 : decode prog_5_method_17_code 23 = .ok (.if_icmp .lt 9, 3) := D_161 W_prog_5_method_17_code_0 23 rfl rfl rfl
theorem W_prog_5_method_17_code_32 : chW prog_5_method_17_code 32 [42, 89, 180, 0, 72, 4, 96, 181, 0, 72, 42, 180, 0, 48, 182, 0, 122, 4, 172] := chW_of (by decide +kernel)
theorem d_5_17_32 : decode prog_5_method_17_code 32 = .ok (.aload_n 0, 1) := D_42 W_prog_5_method_17_code_32 0 rfl rfl
theorem d_5_17_33 : decode prog_5_method_17_code 33 = .ok (.dup, 1) := D_89 W_prog_5_method_17_code_32 1 rfl rfl
theorem d_5_17_34 : decode prog_5_method_17_code 34 = .ok (.getfield 72, 3) := D_180 W_prog_5_method_17_code_32 2 rfl rfl rfl
theorem d_5_17_37 : decode prog_5_method_17_code 37 = .ok (.iconst 1, 1) := D_4 W_prog_5_method_17_code_32 5 rfl rfl
theorem d_5_17_38 : decode prog_5_method_17_code 38 = .ok (.iadd, 1) := D_96 W_prog_5_method_17_code_32 6 rfl rfl
theorem d_5_17_39 : decode prog_5_method_17_code 39 = .ok (.putfield 72, 3) := D_181 W_prog_5_method_17_code_32 7 rfl rfl rfl
theorem d_5_17_42 : decode prog_5_method_17_code 42 = .ok (.aload_n 0, 1) := D_42 W_prog_5_method_17_code_32 10 rfl rfl
theorem d_5_17_43 : decode prog_5_method_17_code 43 = .ok (.getfield 48, 3) := D_180 W_prog_5_method_17_code_32 11 rfl rfl rfl
theorem d_5_17_46 : decode prog_5_method_17_code 46 = .ok (.invokevirtual 122, 3) := D_182 W_prog_5_method_17_code_32 14 rfl rfl rfl
theorem d_5_17_49 : decode prog_5_method_17_code 49 = .ok (.iconst 1, 1) := D_4 W_prog_5_method_17_code_32 17 rfl rfl
theorem d_5_17_50 : decode prog_5_method_17_code 50 = .ok (.ireturn, 1) := D_172 W_prog_5_method_17_code_32 18 rfl rfl
theorem d_5_17_26 : decode prog_5_method_17_code 26 = .ok (.aload_n 0, 1) := D_42 W_prog_5_method_17_code_0 26 rfl rfl
theorem d_5_17_27 : decode prog_5_method_17_code 27 = .ok (.iconst 3, 1) := D_6 W_prog_5_method_17_code_0 27 rfl rfl
theorem d_5_17_28 : decode prog_5_method_17_code 28 = .ok (.invokevirtual 101, 3) := D_182 W_prog_5_method_17_code_0 28 rfl rfl rfl
theorem d_5_17_31 : decode prog_5_method_17_code 31 = .ok (.ireturn, 1) := D_172 W_prog_5_method_17_code_0 31 rfl rfl
theorem d_5_17_11 : decode prog_5_method_17_code 11 = .ok (.aload_n 0, 1) := D_42 W_prog_5_method_17_code_0 11 rfl rfl
theorem d_5_17_12 : decode prog_5_method_17_code 12 = .ok (.iconst 2, 1) := D_5 W_prog_5_method_17_code_0 12 rfl rfl
theorem d_5_17_13 : decode prog_5_method_17_code 13 = .ok (.invokevirtual 101, 3) := D_182 W_prog_5_method_17_code_0 13 rfl rfl rfl
theorem d_5_17_16 : decode prog_5_method_17_code 16 = .ok (.ireturn, 1) := D_172 W_prog_5_method_17_code_0 16 rfl rfl
theorem W_prog_5_method_21_code_0 : chW prog_5_method_21_code 0 [42, 180, 0, 48, 180, 0, 108, 7, 160, 0, 46, 178, 0, 218, 42, 180, 0, 48, 180, 0, 173, 184, 0, 193, 60, 27, 2, 159, 0, 7, 7, 27, 96, 172, 42, 180] := chW_of (by decide +kernel)
theorem d_5_21_0 : decode prog_5_method_21_code 0 = .ok (.aload_n 0, 1) := D_42 W_prog_5_method_21_code_0 0 rfl rfl
theorem d_5_21_1 : decode prog_5_method_21_code 1 = .ok (.getfield 48, 3) := D_180 W_prog_5_method_21_code_0 1 rfl rfl rfl
theorem d_5_21_4 : decode prog_5_method_21_code 4 = .ok (.getfield 108, 3) := D_180 W_prog_5_method_21_code_0 4 rfl rfl rfl
theorem d_5_21_7 : decode prog_5_method_21_code 7 = .ok (.iconst 4, 1) := D_7 W_prog_5_method_21_code_0 7 rfl rfl
theorem d_5_21_8 : decode prog_5_method_21_code 8 = .ok (.if_icmp .ne 46, 3) := D_160 W_prog_5_method_21_code_0 8 rfl rfl rfl
theorem W_prog_5_method_21_code_32 : chW prog_5_method_21_code 32 [96, 172, 42, 180, 0, 48, 180, 0, 173, 20, 0, 250, 148, 154, 0, 7, 3, 167, 0, 4, 2, 172, 42, 180, 0, 48, 180, 0, 108, 5, 159, 0, 15, 42, 180, 0] := chW_of (by decide +kernel)
theorem d_5_21_54 : decode prog_5_method_21_code 54 = .ok (.aload_n 0, 1) := D_42 W_prog_5_method_21_code_32 22 rfl rfl
theorem d_5_21_55 : decode prog_5_method_21_code 55 = .ok (.getfield 48, 3) := D_180 W_prog_5_method_21_code_32 23 rfl rfl rfl
theorem d_5_21_58 : decode prog_5_method_21_code 58 = .ok (.getfield 108, 3) := D_180 W_prog_5_method_21_code_32 26 rfl rfl rfl
theorem d_5_21_61 : decode prog_5_method_21_code 61 = .ok (.iconst 2, 1) := D_5 W_prog_5_method_21_code_32 29 rfl rfl
theorem d_5_21_62 : decode prog_5_method_21_code 62 = .ok (.if_icmp .eq 15, 3) := D_159 W_prog_5_method_21_code_32 30 rfl rfl rfl
theorem W_prog_5_method_21_code_64 : chW prog_5_method_21_code 64 [15, 42, 180, 0, 48, 16, 60, 182, 0, 153, 153, 0, 5, 3, 172, 42, 180, 0, 48, 16, 124, 182, 0, 153, 153, 0, 5, 4, 172, 42, 180, 0, 48, 16, 33, 182] := chW_of (by decide +kernel)
theorem d_5_21_65 : decode prog_5_method_21_code 65 = .ok (.aload_n 0, 1) := D_42 W_prog_5_method_21_code_64 1 rfl rfl
theorem d_5_21_66 : decode prog_5_method_21_code 66 = .ok (.getfield 48, 3) := D_180 W_prog_5_method_21_code_64 2 rfl rfl rfl
theorem d_5_21_69 : decode prog_5_method_21_code 69 = .ok (.bipush 60, 2) := D_16 W_prog_5_method_21_code_64 5 rfl rfl rfl
theorem d_5_21_71 : decode prog_5_method_21_code 71 = .ok (.invokevirtual 153, 3) := D_182 W_prog_5_method_21_code_64 7 rfl rfl rfl
theorem d_5_21_74 : decode prog_5_method_21_code 74 = .ok (.ifCond .eq 5, 3) := D_153 W_prog_5_method_21_code_64 10 rfl rfl rfl
theorem d_5_21_79 : decode prog_5_method_21_code 79 = .ok (.aload_n 0, 1) := D_42 W_prog_5_method_21_code_64 15 rfl rfl
theorem d_5_21_80 : decode prog_5_method_21_code 80 = .ok (.getfield 48, 3) := D_180 W_prog_5_method_21_code_64 16 rfl rfl rfl
theorem d_5_21_83 : decode prog_5_method_21_code 83 = .ok (.bipush 124, 2) := D_16 W_prog_5_method_21_code_64 19 rfl rfl rfl
theorem d_5_21_85 : decode prog_5_method_21_code 85 = .ok (.invokevirtual 153, 3) := D_182 W_prog_5_method_21_code_64 21 rfl rfl rfl
theorem d_5_21_88 : decode prog_5_method_21_code 88 = .ok (.ifCond .eq 5, 3) := D_153 W_prog_5_method_21_code_64 24 rfl rfl rfl
theorem d_5_21_93 : decode prog_5_method_21_code 93 = .ok (.aload_n 0, 1) := D_42 W_prog_5_method_21_code_64 29 rfl rfl
theorem d_5_21_94 : decode prog_5_method_21_code 94 = .ok (.getfield 48, 3) := D_180 W_prog_5_method_21_code_64 30 rfl rfl rfl
theorem W_prog_5_method_21_code_96 : chW prog_5_method_21_code 96 [48, 16, 33, 182, 0, 153, 153, 0, 5, 5, 172, 42, 180, 0, 48, 16, 91, 182, 0, 153, 153, 0, 7, 6, 167, 0, 4, 2, 172] := chW_of (by decide +kernel)
theorem d_5_21_97 : decode prog_5_method_21_code 97 = .ok (.bipush 33, 2) := D_16 W_prog_5_method_21_code_96 1 rfl rfl rfl
theorem d_5_21_99 : decode prog_5_method_21_code 99 = .ok (.invokevirtual 153, 3) := D_182 W_prog_5_method_21_code_96 3 rfl rfl rfl
theorem d_5_21_102 : decode prog_5_method_21_code 102 = .ok (.ifCond .eq 5, 3) := D_153 W_prog_5_method_21_code_96 6 rfl rfl rfl
theorem d_5_21_107 : decode prog_5_method_21_code 107 = .ok (.aload_n 0, 1) := D_42 W_prog_5_method_21_code_96 11 rfl rfl
theorem d_5_21_108 : decode prog_5_method_21_code 108 = .ok (.getfield 48, 3) := D_180 W_prog_5_method_21_code_96 12 rfl rfl rfl
theorem d_5_21_111 : decode prog_5_method_21_code 111 = .ok (.bipush 91, 2) := D_16 W_prog_5_method_21_code_96 15 rfl rfl rfl
theorem d_5_21_113 : decode prog_5_method_21_code 113 = .ok (.invokevirtual 153, 3) := D_182 W_prog_5_method_21_code_96 17 rfl rfl rfl
theorem d_5_21_116 : decode prog_5_method_21_code 116 = .ok (.ifCond .eq 7, 3) := D_153 W_prog_5_method_21_code_96 20 rfl rfl rfl
theorem d_5_21_123 : decode prog_5_method_21_code 123 = .ok (.iconst (-1), 1) := D_2 W_prog_5_method_21_code_96 27 rfl rfl
theorem d_5_21_119 : decode prog_5_method_21_code 119 = .ok (.iconst 3, 1) := D_6 W_prog_5_method_21_code_96 23 rfl rfl
theorem d_5_21_120 : decode prog_5_method_21_code 120 = .ok (.goto 4, 3) := D_167 W_prog_5_method_21_code_96 24 rfl rfl rfl
theorem d_5_21_105 : decode prog_5_method_21_code 105 = .ok (.iconst 2, 1) := D_5 W_prog_5_method_21_code_96 9 rfl rfl
theorem d_5_21_106 : decode prog_5_method_21_code 106 = .ok (.ireturn, 1) := D_172 W_prog_5_method_21_code_96 10 rfl rfl
theorem d_5_21_91 : decode prog_5_method_21_code 91 = .ok (.iconst 1, 1) := D_4 W_prog_5_method_21_code_64 27 rfl rfl
theorem d_5_21_92 : decode prog_5_method_21_code 92 = .ok (.ireturn, 1) := D_172 W_prog_5_method_21_code_64 28 rfl rfl
theorem d_5_21_11 : decode prog_5_method_21_code 11 = .ok (.getstatic 218, 3) := D_178 W_prog_5_method_21_code_0 11 rfl rfl rfl
theorem d_5_21_14 : decode prog_5_method_21_code 14 = .ok (.aload_n 0, 1) := D_42 W_prog_5_method_21_code_0 14 rfl rfl
theorem d_5_21_15 : decode prog_5_method_21_code 15 = .ok (.getfield 48, 3) := D_180 W_prog_5_method_21_code_0 15 rfl rfl rfl
theorem d_5_21_18 : decode prog_5_method_21_code 18 = .ok (.getfield 173, 3) := D_180 W_prog_5_method_21_code_0 18 rfl rfl rfl
theorem d_5_21_21 : decode prog_5_method_21_code 21 = .ok (.invokestatic 193, 3) := D_184 W_prog_5_method_21_code_0 21 rfl rfl rfl
theorem d_5_21_24 : decode prog_5_method_21_code 24 = .ok (.istore_n 1, 1) := D_60 W_prog_5_method_21_code_0 24 rfl rfl
theorem d_5_21_25 : decode prog_5_method_21_code 25 = .ok (.iload_n 1, 1) := D_27 W_prog_5_method_21_code_0 25 rfl rfl
theorem d_5_21_26 : decode prog_5_method_21_code 26 = .ok (.iconst (-1), 1) := D_2 W_prog_5_method_21_code_0 26 rfl rfl
theorem d_5_21_27 : decode prog_5_method_21_code 27 = .ok (.if_icmp .eq 7, 3) := D_159 W_prog_5_method_21_code_0 27 rfl rfl rfl
theorem d_5_21_34 : decode prog_5_method_21_code 34 = .ok (.aload_n 0, 1) := D_42 W_prog_5_method_21_code_32 2 rfl rfl
theorem d_5_21_35 : decode prog_5_method_21_code 35 = .ok (.getfield 48, 3) := D_180 W_prog_5_method_21_code_32 3 rfl rfl rfl
theorem d_5_21_38 : decode prog_5_method_21_code 38 = .ok (.getfield 173, 3) := D_180 W_prog_5_method_21_code_32 6 rfl rfl rfl
theorem d_5_21_41 : decode prog_5_method_21_code 41 = .ok (.ldc2_w 250, 3) := D_20 W_prog_5_method_21_code_32 9 rfl rfl rfl
theorem d_5_21_44 : decode prog_5_method_21_code 44 = .ok (.lcmp, 1) := D_148 W_prog_5_method_21_code_32 12 rfl rfl
theorem d_5_21_45 : decode prog_5_method_21_code 45 = .ok (.ifCond .ne 7, 3) := D_154 W_prog_5_method_21_code_32 13 rfl rfl rfl
theorem d_5_21_52 : decode prog_5_method_21_code 52 = .ok (.iconst (-1), 1) := D_2 W_prog_5_method_21_code_32 20 rfl rfl
theorem d_5_21_48 : decode prog_5_method_21_code 48 = .ok (.iconst 0, 1) := D_3 W_prog_5_method_21_code_32 16 rfl rfl
theorem d_5_21_49 : decode prog_5_method_21_code 49 = .ok (.goto 4, 3) := D_167 W_prog_5_method_21_code_32 17 rfl rfl rfl
theorem d_5_21_30 : decode prog_5_method_21_code 30 = .ok (.iconst 4, 1) := D_7 W_prog_5_method_21_code_0 30 rfl rfl
theorem d_5_21_31 : decode prog_5_method_21_code 31 = .ok (.iload_n 1, 1) := D_27 W_prog_5_method_21_code_0 31 rfl rfl
theorem d_5_21_32 : decode prog_5_method_21_code 32 = .ok (.iadd, 1) := D_96 W_prog_5_method_21_code_32 0 rfl rfl
theorem d_5_21_33 : decode prog_5_method_21_code 33 = .ok (.ireturn, 1) := D_172 W_prog_5_method_21_code_32 1 rfl rfl
theorem d_5_21_53 : decode prog_5_method_21_code 53 = .ok (.ireturn, 1) := D_172 W_prog_5_method_21_code_32 21 rfl rfl
theorem d_5_21_77 : decode prog_5_method_21_code 77 = .ok (.iconst 0, 1) := D_3 W_prog_5_method_21_code_64 13 rfl rfl
theorem d_5_21_78 : decode prog_5_method_21_code 78 = .ok (.ireturn, 1) := D_172 W_prog_5_method_21_code_64 14 rfl rfl
theorem d_5_21_124 : decode prog_5_method_21_code 124 = .ok (.ireturn, 1) := D_172 W_prog_5_method_21_code_96 28 rfl rfl
theorem W_prog_5_method_24_code_0 : chW prog_5_method_24_code 0 [42, 180, 0, 63, 42, 180, 0, 36, 190, 162, 0, 71, 42, 180, 0, 36, 42, 180, 0, 63, 42, 180, 0, 48, 180, 1, 34, 79, 42, 180, 0, 39, 42, 180, 0, 63] := chW_of (by decide +kernel)
theorem d_5_24_0 : decode prog_5_method_24_code 0 = .ok (.aload_n 0, 1) := D_42 W_prog_5_method_24_code_0 0 rfl rfl
theorem d_5_24_1 : decode prog_5_method_24_code 1 = .ok (.getfield 63, 3) := D_180 W_prog_5_method_24_code_0 1 rfl rfl rfl
theorem d_5_24_4 : decode prog_5_method_24_code 4 = .ok (.aload_n 0, 1) := D_42 W_prog_5_method_24_code_0 4 rfl rfl
theorem d_5_24_5 : decode prog_5_method_24_code 5 = .ok (.getfield 36, 3) := D_180 W_prog_5_method_24_code_0 5 rfl rfl rfl
theorem d_5_24_8 : decode prog_5_method_24_code 8 = .ok (.arraylength, 1) := D_190 W_prog_5_method_24_code_0 8 rfl rfl
theorem d_5_24_9 : decode prog_5_method_24_code 9 = .ok (.if_icmp .ge 71, 3) := D_162 W_prog_5_method_24_code_0 9 rfl rfl rfl
theorem d_5_24_12 : decode prog_5_method_24_code 12 = .ok (.aload_n 0, 1) := D_42 W_prog_5_method_24_code_0 12 rfl rfl
theorem d_5_24_13 : decode prog_5_method_24_code 13 = .ok (.getfield 36, 3) := D_180 W_prog_5_method_24_code_0 13 rfl rfl rfl
theorem d_5_24_16 : decode prog_5_method_24_code 16 = .ok (.aload_n 0, 1) := D_42 W_prog_5_method_24_code_0 16 rfl rfl
theorem d_5_24_17 : decode prog_5_method_24_code 17 = .ok (.getfield 63, 3) := D_180 W_prog_5_method_24_code_0 17 rfl rfl rfl
theorem d_5_24_20 : decode prog_5_method_24_code 20 = .ok (.aload_n 0, 1) := D_42 W_prog_5_method_24_code_0 20 rfl rfl
theorem d_5_24_21 : decode prog_5_method_24_code 21 = .ok (.getfield 48, 3) := D_180 W_prog_5_method_24_code_0 21 rfl rfl rfl
theorem d_5_24_24 : decode prog_5_method_24_code 24 = .ok (.getfield 290, 3) := D_180 W_prog_5_method_24_code_0 24 rfl rfl rfl
theorem d_5_24_27 : decode prog_5_method_24_code 27 = .ok (.iastore, 1) := D_79 W_prog_5_method_24_code_0 27 rfl rfl
theorem d_5_24_28 : decode prog_5_method_24_code 28 = .ok (.aload_n 0, 1) := D_42 W_prog_5_method_24_code_0 28 rfl rfl
theorem d_5_24_29 : decode prog_5_method_24_code 29 = .ok (.getfield 39, 3) := D_180 W_prog_5_method_24_code_0 29 rfl rfl rfl
theorem W_prog_5_method_24_code_32 : chW prog_5_method_24_code 32 [42, 180, 0, 63, 42, 180, 0, 48, 180, 1, 37, 79, 42, 180, 0, 42, 42, 180, 0, 63, 42, 180, 0, 48, 180, 0, 110, 79, 42, 89, 180, 0, 63, 4, 96, 181] := chW_of (by decide +kernel)
theorem d_5_24_32 : decode prog_5_method_24_code 32 = .ok (.aload_n 0, 1) := D_42 W_prog_5_method_24_code_32 0 rfl rfl
theorem d_5_24_33 : decode prog_5_method_24_code 33 = .ok (.getfield 63, 3) := D_180 W_prog_5_method_24_code_32 1 rfl rfl rfl
theorem d_5_24_36 : decode prog_5_method_24_code 36 = .ok (.aload_n 0, 1) := D_42 W_prog_5_method_24_code_32 4 rfl rfl
theorem d_5_24_37 : decode prog_5_method_24_code 37 = .ok (.getfield 48, 3) := D_180 W_prog_5_method_24_code_32 5 rfl rfl rfl
theorem d_5_24_40 : decode prog_5_method_24_code 40 = .ok (.getfield 293, 3) := D_180 W_prog_5_method_24_code_32 8 rfl rfl rfl
theorem d_5_24_43 : decode prog_5_method_24_code 43 = .ok (.iastore, 1) := D_79 W_prog_5_method_24_code_32 11 rfl rfl
theorem d_5_24_44 : decode prog_5_method_24_code 44 = .ok (.aload_n 0, 1) := D_42 W_prog_5_method_24_code_32 12 rfl rfl
theorem d_5_24_45 : decode prog_5_method_24_code 45 = .ok (.getfield 42, 3) := D_180 W_prog_5_method_24_code_32 13 rfl rfl rfl
theorem d_5_24_48 : decode prog_5_method_24_code 48 = .ok (.aload_n 0, 1) := D_42 W_prog_5_method_24_code_32 16 rfl rfl
theorem d_5_24_49 : decode prog_5_method_24_code 49 = .ok (.getfield 63, 3) := D_180 W_prog_5_method_24_code_32 17 rfl rfl rfl
theorem d_5_24_52 : decode prog_5_method_24_code 52 = .ok (.aload_n 0, 1) := D_42 W_prog_5_method_24_code_32 20 rfl rfl
theorem d_5_24_53 : decode prog_5_method_24_code 53 = .ok (.getfield 48, 3) := D_180 W_prog_5_method_24_code_32 21 rfl rfl rfl
theorem d_5_24_56 : decode prog_5_method_24_code 56 = .ok (.getfield 110, 3) := D_180 W_prog_5_method_24_code_32 24 rfl rfl rfl
theorem d_5_24_59 : decode prog_5_method_24_code 59 = .ok (.iastore, 1) := D_79 W_prog_5_method_24_code_32 27 rfl rfl
theorem d_5_24_60 : decode prog_5_method_24_code 60 = .ok (.aload_n 0, 1) := D_42 W_prog_5_method_24_code_32 28 rfl rfl
theorem d_5_24_61 : decode prog_5_method_24_code 61 = .ok (.dup, 1) := D_89 W_prog_5_method_24_code_32 29 rfl rfl
theorem d_5_24_62 : decode prog_5_method_24_code 62 = .ok (.getfield 63, 3) := D_180 W_prog_5_method_24_code_32 30 rfl rfl rfl
theorem W_prog_5_method_24_code_64 : chW prog_5_method_24_code 64 [63, 4, 96, 181, 0, 63, 42, 180, 0, 30, 27, 92, 46, 4, 96, 79, 42, 180, 0, 48, 182, 0, 122, 177] := chW_of (by decide +kernel)
theorem d_5_24_65 : decode prog_5_method_24_code 65 = .ok (.iconst 1, 1) := D_4 W_prog_5_method_24_code_64 1 rfl rfl
theorem d_5_24_66 : decode prog_5_method_24_code 66 = .ok (.iadd, 1) := D_96 W_prog_5_method_24_code_64 2 rfl rfl
theorem d_5_24_67 : decode prog_5_method_24_code 67 = .ok (.putfield 63, 3) := D_181 W_prog_5_method_24_code_64 3 rfl rfl rfl
theorem d_5_24_70 : decode prog_5_method_24_code 70 = .ok (.aload_n 0, 1) := D_42 W_prog_5_method_24_code_64 6 rfl rfl
theorem d_5_24_71 : decode prog_5_method_24_code 71 = .ok (.getfield 30, 3) := D_180 W_prog_5_method_24_code_64 7 rfl rfl rfl
theorem d_5_24_74 : decode prog_5_method_24_code 74 = .ok (.iload_n 1, 1) := D_27 W_prog_5_method_24_code_64 10 rfl rfl
theorem d_5_24_75 : decode prog_5_method_24_code 75 = .ok (.dup2, 1) := D_92 W_prog_5_method_24_code_64 11 rfl rfl
theorem d_5_24_76 : decode prog_5_method_24_code 76 = .ok (.iaload, 1) := D_46 W_prog_5_method_24_code_64 12 rfl rfl
theorem d_5_24_77 : decode prog_5_method_24_code 77 = .ok (.iconst 1, 1) := D_4 W_prog_5_method_24_code_64 13 rfl rfl
theorem d_5_24_78 : decode prog_5_method_24_code 78 = .ok (.iadd, 1) := D_96 W_prog_5_method_24_code_64 14 rfl rfl
theorem d_5_24_79 : decode prog_5_method_24_code 79 = .ok (.iastore, 1) := D_79 W_prog_5_method_24_code_64 15 rfl rfl
theorem d_5_24_80 : decode prog_5_method_24_code 80 = .ok (.aload_n 0, 1) := D_42 W_prog_5_method_24_code_64 16 rfl rfl
theorem d_5_24_81 : decode prog_5_method_24_code 81 = .ok (.getfield 48, 3) := D_180 W_prog_5_method_24_code_64 17 rfl rfl rfl
theorem d_5_24_84 : decode prog_5_method_24_code 84 = .ok (.invokevirtual 122, 3) := D_182 W_prog_5_method_24_code_64 20 rfl rfl rfl
theorem d_5_24_87 : decode prog_5_method_24_code 87 = .ok (.return_, 1) := D_177 W_prog_5_method_24_code_64 23 rfl rfl
theorem W_prog_19_method_50_code_0 : chW prog_19_method_50_code 0 [30, 30, 4, 125, 20, 1, 58, 127, 101, 63, 30, 20, 1, 60, 127, 30, 5, 125, 20, 1, 60, 127, 97, 63, 30, 30, 7, 125, 97, 20, 1, 62, 127, 63, 30, 30] := chW_of (by decide +kernel)
theorem d_19_50_0 : decode prog_19_method_50_code 0 = .ok (.lload_n 0, 1) := D_30 W_prog_19_method_50_code_0 0 rfl rfl
theorem d_19_50_1 : decode prog_19_method_50_code 1 = .ok (.lload_n 0, 1) := D_30 W_prog_19_method_50_code_0 1 rfl rfl
theorem d_19_50_2 : decode prog_19_method_50_code 2 = .ok (.iconst 1, 1) := D_4 W_prog_19_method_50_code_0 2 rfl rfl
theorem d_19_50_3 : decode prog_19_method_50_code 3 = .ok (.lushr, 1) := D_125 W_prog_19_method_50_code_0 3 rfl rfl
theorem d_19_50_4 : decode prog_19_method_50_code 4 = .ok (.ldc2_w 314, 3) := D_20 W_prog_19_method_50_code_0 4 rfl rfl rfl
theorem d_19_50_7 : decode prog_19_method_50_code 7 = .ok (.land, 1) := D_127 W_prog_19_method_50_code_0 7 rfl rfl
theorem d_19_50_8 : decode prog_19_method_50_code 8 = .ok (.lsub, 1) := D_101 W_prog_19_method_50_code_0 8 rfl rfl
theorem d_19_50_9 : decode prog_19_method_50_code 9 = .ok (.lstore_n 0, 1) := D_63 W_prog_19_method_50_code_0 9 rfl rfl
theorem d_19_50_10 : decode prog_19_method_50_code 10 = .ok (.lload_n 0, 1) := D_30 W_prog_19_method_50_code_0 10 rfl rfl
theorem d_19_50_11 : decode prog_19_method_50_code 11 = .ok (.ldc2_w 316, 3) := D_20 W_prog_19_method_50_code_0 11 rfl rfl rfl
theorem d_19_50_14 : decode prog_19_method_50_code 14 = .ok (.land, 1) := D_127 W_prog_19_method_50_code_0 14 rfl rfl
theorem d_19_50_15 : decode prog_19_method_50_code 15 = .ok (.lload_n 0, 1) := D_30 W_prog_19_method_50_code_0 15 rfl rfl
theorem d_19_50_16 : decode prog_19_method_50_code 16 = .ok (.iconst 2, 1) := D_5 W_prog_19_method_50_code_0 16 rfl rfl
theorem d_19_50_17 : decode prog_19_method_50_code 17 = .ok (.lushr, 1) := D_125 W_prog_19_method_50_code_0 17 rfl rfl
theorem d_19_50_18 : decode prog_19_method_50_code 18 = .ok (.ldc2_w 316, 3) := D_20 W_prog_19_method_50_code_0 18 rfl rfl rfl
theorem d_19_50_21 : decode prog_19_method_50_code 21 = .ok (.land, 1) := D_127 W_prog_19_method_50_code_0 21 rfl rfl
theorem d_19_50_22 : decode prog_19_method_50_code 22 = .ok (.ladd, 1) := D_97 W_prog_19_method_50_code_0 22 rfl rfl
theorem d_19_50_23 : decode prog_19_method_50_code 23 = .ok (.lstore_n 0, 1) := D_63 W_prog_19_method_50_code_0 23 rfl rfl
theorem d_19_50_24 : decode prog_19_method_50_code 24 = .ok (.lload_n 0, 1) := D_30 W_prog_19_method_50_code_0 24 rfl rfl
theorem d_19_50_25 : decode prog_19_method_50_code 25 = .ok (.lload_n 0, 1) := D_30 W_prog_19_method_50_code_0 25 rfl rfl
theorem d_19_50_26 : decode prog_19_method_50_code 26 = .ok (.iconst 4, 1) := D_7 W_prog_19_method_50_code_0 26 rfl rfl
theorem d_19_50_27 : decode prog_19_method_50_code 27 = .ok (.lushr, 1) := D_125 W_prog_19_method_50_code_0 27 rfl rfl
theorem d_19_50_28 : decode prog_19_method_50_code 28 = .ok (.ladd, 1) := D_97 W_prog_19_method_50_code_0 28 rfl rfl
theorem d_19_50_29 : decode prog_19_method_50_code 29 = .ok (.ldc2_w 318, 3) := D_20 W_prog_19_method_50_code_0 29 rfl rfl rfl
theorem W_prog_19_method_50_code_32 : chW prog_19_method_50_code 32 [127, 63, 30, 30, 16, 8, 125, 97, 63, 30, 30, 16, 16, 125, 97, 63, 30, 30, 16, 32, 125, 97, 63, 30, 136, 16, 127, 126, 172] := chW_of (by decide +kernel)
theorem d_19_50_32 : decode prog_19_method_50_code 32 = .ok (.land, 1) := D_127 W_prog_19_method_50_code_32 0 rfl rfl
theorem d_19_50_33 : decode prog_19_method_50_code 33 = .ok (.lstore_n 0, 1) := D_63 W_prog_19_method_50_code_32 1 rfl rfl
theorem d_19_50_34 : decode prog_19_method_50_code 34 = .ok (.lload_n 0, 1) := D_30 W_prog_19_method_50_code_32 2 rfl rfl
theorem d_19_50_35 : decode prog_19_method_50_code 35 = .ok (.lload_n 0, 1) := D_30 W_prog_19_method_50_code_32 3 rfl rfl
theorem d_19_50_36 : decode prog_19_method_50_code 36 = .ok (.bipush 8, 2) := D_16 W_prog_19_method_50_code_32 4 rfl rfl rfl
theorem d_19_50_38 : decode prog_19_method_50_code 38 = .ok (.lushr, 1) := D_125 W_prog_19_method_50_code_32 6 rfl rfl
theorem d_19_50_39 : decode prog_19_method_50_code 39 = .ok (.ladd, 1) := D_97 W_prog_19_method_50_code_32 7 rfl rfl
theorem d_19_50_40 : decode prog_19_method_50_code 40 = .ok (.lstore_n 0, 1) := D_63 W_prog_19_method_50_code_32 8 rfl rfl
theorem d_19_50_41 : decode prog_19_method_50_code 41 = .ok (.lload_n 0, 1) := D_30 W_prog_19_method_50_code_32 9 rfl rfl
theorem d_19_50_42 : decode prog_19_method_50_code 42 = .ok (.lload_n 0, 1) := D_30 W_prog_19_method_50_code_32 10 rfl rfl
theorem d_19_50_43 : decode prog_19_method_50_code 43 = .ok (.bipush 16, 2) := D_16 W_prog_19_method_50_code_32 11 rfl rfl rfl
theorem d_19_50_45 : decode prog_19_method_50_code 45 = .ok (.lushr, 1) := D_125 W_prog_19_method_50_code_32 13 rfl rfl
