theorem d_11_16_7 : decode prog_11_method_16_code 7 = .ok (.aload_n 0, 1) := D_42 W_prog_11_method_16_code_0 7 rfl rfl
theorem d_11_16_8 : decode prog_11_method_16_code 8 = .ok (.getfield 40, 3) := D_180 W_prog_11_method_16_code_0 8 rfl rfl rfl
theorem d_11_16_11 : decode prog_11_method_16_code 11 = .ok (.iload_n 3, 1) := D_29 W_prog_11_method_16_code_0 11 rfl rfl
theorem d_11_16_12 : decode prog_11_method_16_code 12 = .ok (.iaload, 1) := D_46 W_prog_11_method_16_code_0 12 rfl rfl
theorem d_11_16_13 : decode prog_11_method_16_code 13 = .ok (.ifCond .ne 6, 3) := D_154 W_prog_11_method_16_code_0 13 rfl rfl rfl
theorem d_11_16_19 : decode prog_11_method_16_code 19 = .ok (.getstatic 180, 3) := D_178 W_prog_11_method_16_code_0 19 rfl rfl rfl
theorem d_11_16_22 : decode prog_11_method_16_code 22 = .ok (.iload_n 3, 1) := D_29 W_prog_11_method_16_code_0 22 rfl rfl
theorem d_11_16_23 : decode prog_11_method_16_code 23 = .ok (.iaload, 1) := D_46 W_prog_11_method_16_code_0 23 rfl rfl
theorem d_11_16_24 : decode prog_11_method_16_code 24 = .ok (.aload_n 0, 1) := D_42 W_prog_11_method_16_code_0 24 rfl rfl
theorem d_11_16_25 : decode prog_11_method_16_code 25 = .ok (.iload_n 3, 1) := D_29 W_prog_11_method_16_code_0 25 rfl rfl
theorem d_11_16_26 : decode prog_11_method_16_code 26 = .ok (.invokevirtual 150, 3) := D_182 W_prog_11_method_16_code_0 26 rfl rfl rfl
theorem W_prog_11_method_17_code_0 : chW prog_11_method_17_code 0 [17, 3, 232, 62, 3, 54, 4, 3, 54, 5, 21, 5, 43, 180, 0, 58, 162, 0, 90, 42, 43, 21, 5, 28, 182, 0, 98, 58, 6, 3, 54, 7, 25, 6, 198, 0] := chW_of (by decide +kernel)
theorem d_11_17_0 : decode prog_11_method_17_code 0 = .ok (.sipush 1000, 3) := D_17 W_prog_11_method_17_code_0 0 rfl rfl rfl
theorem d_11_17_3 : decode prog_11_method_17_code 3 = .ok (.istore_n 3, 1) := D_62 W_prog_11_method_17_code_0 3 rfl rfl
theorem d_11_17_4 : decode prog_11_method_17_code 4 = .ok (.iconst 0, 1) := D_3 W_prog_11_method_17_code_0 4 rfl rfl
theorem d_11_17_5 : decode prog_11_method_17_code 5 = .ok (.istore 4, 2) := D_54 W_prog_11_method_17_code_0 5 rfl rfl
theorem d_11_17_7 : decode prog_11_method_17_code 7 = .ok (.iconst 0, 1) := D_3 W_prog_11_method_17_code_0 7 rfl rfl
theorem d_11_17_8 : decode prog_11_method_17_code 8 = .ok (.istore 5, 2) := D_54 W_prog_11_method_17_code_0 8 rfl rfl
theorem d_11_17_10 : decode prog_11_method_17_code 10 = .ok (.iload 5, 2) := D_21 W_prog_11_method_17_code_0 10 rfl rfl
theorem d_11_17_12 : decode prog_11_method_17_code 12 = .ok (.aload_n 1, 1) := D_43 W_prog_11_method_17_code_0 12 rfl rfl
theorem d_11_17_13 : decode prog_11_method_17_code 13 = .ok (.getfield 58, 3) := D_180 W_prog_11_method_17_code_0 13 rfl rfl rfl
theorem d_11_17_16 : decode prog_11_method_17_code 16 = .ok (.if_icmp .ge 90, 3) := D_162 W_prog_11_method_17_code_0 16 rfl rfl rfl
theorem W_prog_11_method_17_code_96 : chW prog_11_method_17_code 96 [1, 167, 255, 191, 132, 5, 1, 167, 255, 163, 21, 4, 16, 7, 112, 172] := chW_of (by decide +kernel)
theorem d_11_17_106 : decode prog_11_method_17_code 106 = .ok (.iload 4, 2) := D_21 W_prog_11_method_17_code_96 10 rfl rfl
theorem d_11_17_108 : decode prog_11_method_17_code 108 = .ok (.bipush 7, 2) := D_16 W_prog_11_method_17_code_96 12 rfl rfl rfl
theorem d_11_17_110 : decode prog_11_method_17_code 110 = .ok (.irem, 1) := D_112 W_prog_11_method_17_code_96 14 rfl rfl
theorem d_11_17_111 : decode prog_11_method_17_code 111 = .ok (.ireturn, 1) := D_172 W_prog_11_method_17_code_96 15 rfl rfl
theorem d_11_17_19 : decode prog_11_method_17_code 19 = .ok (.aload_n 0, 1) := D_42 W_prog_11_method_17_code_0 19 rfl rfl
theorem d_11_17_20 : decode prog_11_method_17_code 20 = .ok (.aload_n 1, 1) := D_43 W_prog_11_method_17_code_0 20 rfl rfl
theorem d_11_17_21 : decode prog_11_method_17_code 21 = .ok (.iload 5, 2) := D_21 W_prog_11_method_17_code_0 21 rfl rfl
theorem d_11_17_23 : decode prog_11_method_17_code 23 = .ok (.iload_n 2, 1) := D_28 W_prog_11_method_17_code_0 23 rfl rfl
theorem d_11_17_24 : decode prog_11_method_17_code 24 = .ok (.invokevirtual 98, 3) := D_182 W_prog_11_method_17_code_0 24 rfl rfl rfl
theorem d_11_17_27 : decode prog_11_method_17_code 27 = .ok (.astore 6, 2) := D_58 W_prog_11_method_17_code_0 27 rfl rfl
theorem d_11_17_29 : decode prog_11_method_17_code 29 = .ok (.iconst 0, 1) := D_3 W_prog_11_method_17_code_0 29 rfl rfl
theorem d_11_17_30 : decode prog_11_method_17_code 30 = .ok (.istore 7, 2) := D_54 W_prog_11_method_17_code_0 30 rfl rfl
theorem W_prog_11_method_17_code_32 : chW prog_11_method_17_code 32 [25, 6, 198, 0, 66, 21, 7, 25, 6, 180, 0, 165, 162, 0, 56, 25, 6, 21, 7, 182, 0, 107, 54, 8, 21, 8, 29, 161, 0, 22, 21, 8, 29, 160, 0, 29] := chW_of (by decide +kernel)
theorem d_11_17_32 : decode prog_11_method_17_code 32 = .ok (.aload 6, 2) := D_25 W_prog_11_method_17_code_32 0 rfl rfl
theorem d_11_17_34 : decode prog_11_method_17_code 34 = .ok (.ifnull 66, 3) := D_198 W_prog_11_method_17_code_32 2 rfl rfl rfl
theorem d_11_17_37 : decode prog_11_method_17_code 37 = .ok (.iload 7, 2) := D_21 W_prog_11_method_17_code_32 5 rfl rfl
theorem d_11_17_39 : decode prog_11_method_17_code 39 = .ok (.aload 6, 2) := D_25 W_prog_11_method_17_code_32 7 rfl rfl
theorem d_11_17_41 : decode prog_11_method_17_code 41 = .ok (.getfield 165, 3) := D_180 W_prog_11_method_17_code_32 9 rfl rfl rfl
theorem d_11_17_44 : decode prog_11_method_17_code 44 = .ok (.if_icmp .ge 56, 3) := D_162 W_prog_11_method_17_code_32 12 rfl rfl rfl
theorem d_11_17_47 : decode prog_11_method_17_code 47 = .ok (.aload 6, 2) := D_25 W_prog_11_method_17_code_32 15 rfl rfl
theorem d_11_17_49 : decode prog_11_method_17_code 49 = .ok (.iload 7, 2) := D_21 W_prog_11_method_17_code_32 17 rfl rfl
theorem d_11_17_51 : decode prog_11_method_17_code 51 = .ok (.invokevirtual 107, 3) := D_182 W_prog_11_method_17_code_32 19 rfl rfl rfl
theorem d_21_80_4 : decode prog_21_method_80_code 4 = .ok (.ifCond .eq 19, 3) := D_153 W_prog_21_method_80_code_0 4 rfl rfl rfl
theorem d_21_80_23 : decode prog_21_method_80_code 23 = .ok (.aload_n 0, 1) := D_42 W_prog_21_method_80_code_0 23 rfl rfl
theorem d_21_80_24 : decode prog_21_method_80_code 24 = .ok (.getfield 9, 3) := D_180 W_prog_21_method_80_code_0 24 rfl rfl rfl
theorem d_21_80_27 : decode prog_21_method_80_code 27 = .ok (.iload_n 1, 1) := D_27 W_prog_21_method_80_code_0 27 rfl rfl
theorem d_21_80_28 : decode prog_21_method_80_code 28 = .ok (.iload_n 2, 1) := D_28 W_prog_21_method_80_code_0 28 rfl rfl
theorem d_21_80_29 : decode prog_21_method_80_code 29 = .ok (.aload_n 0, 1) := D_42 W_prog_21_method_80_code_0 29 rfl rfl
theorem d_21_80_30 : decode prog_21_method_80_code 30 = .ok (.invokevirtual 505, 3) := D_182 W_prog_21_method_80_code_0 30 rfl rfl rfl
theorem d_5_6_54 : decode prog_5_method_6_code 54 = .ok (.ifCond .ne 5, 3) := D_154 W_prog_5_method_6_code_32 22 rfl rfl rfl
theorem d_5_6_59 : decode prog_5_method_6_code 59 = .ok (.aload_n 1, 1) := D_43 W_prog_5_method_6_code_32 27 rfl rfl
theorem d_5_6_60 : decode prog_5_method_6_code 60 = .ok (.aload_n 0, 1) := D_42 W_prog_5_method_6_code_32 28 rfl rfl
theorem d_5_6_61 : decode prog_5_method_6_code 61 = .ok (.getfield 135, 3) := D_180 W_prog_5_method_6_code_32 29 rfl rfl rfl
theorem W_prog_5_method_6_code_64 : chW prog_5_method_6_code 64 [181, 0, 138, 4, 172] := chW_of (by decide +kernel)
theorem d_5_6_64 : decode prog_5_method_6_code 64 = .ok (.putfield 138, 3) := D_181 W_prog_5_method_6_code_64 0 rfl rfl rfl
theorem d_5_6_67 : decode prog_5_method_6_code 67 = .ok (.iconst 1, 1) := D_4 W_prog_5_method_6_code_64 3 rfl rfl
theorem d_5_6_68 : decode prog_5_method_6_code 68 = .ok (.ireturn, 1) := D_172 W_prog_5_method_6_code_64 4 rfl rfl
theorem d_5_6_57 : decode prog_5_method_6_code 57 = .ok (.iconst 0, 1) := D_3 W_prog_5_method_6_code_32 25 rfl rfl
theorem d_5_6_58 : decode prog_5_method_6_code 58 = .ok (.ireturn, 1) := D_172 W_prog_5_method_6_code_32 26 rfl rfl
theorem d_5_6_38 : decode prog_5_method_6_code 38 = .ok (.aload_n 0, 1) := D_42 W_prog_5_method_6_code_32 6 rfl rfl
theorem d_5_6_39 : decode prog_5_method_6_code 39 = .ok (.aload_n 1, 1) := D_43 W_prog_5_method_6_code_32 7 rfl rfl
theorem d_5_6_40 : decode prog_5_method_6_code 40 = .ok (.invokevirtual 128, 3) := D_182 W_prog_5_method_6_code_32 8 rfl rfl rfl
theorem d_13_13_18 : decode prog_13_method_13_code 18 = .ok (.iconst (-1), 1) := D_2 W_prog_13_method_13_code_0 18 rfl rfl
theorem d_13_13_19 : decode prog_13_method_13_code 19 = .ok (.goto 16, 3) := D_167 W_prog_13_method_13_code_0 19 rfl rfl rfl
theorem d_13_13_35 : decode prog_13_method_13_code 35 = .ok (.istore_n 3, 1) := D_62 W_prog_13_method_13_code_32 3 rfl rfl
theorem d_13_13_36 : decode prog_13_method_13_code 36 = .ok (.iload_n 3, 1) := D_29 W_prog_13_method_13_code_32 4 rfl rfl
theorem d_13_13_37 : decode prog_13_method_13_code 37 = .ok (.iconst (-1), 1) := D_2 W_prog_13_method_13_code_32 5 rfl rfl
theorem d_13_13_38 : decode prog_13_method_13_code 38 = .ok (.if_icmp .eq 11, 3) := D_159 W_prog_13_method_13_code_32 6 rfl rfl rfl
theorem d_13_13_41 : decode prog_13_method_13_code 41 = .ok (.aload_n 0, 1) := D_42 W_prog_13_method_13_code_32 9 rfl rfl
theorem d_13_13_42 : decode prog_13_method_13_code 42 = .ok (.getfield 54, 3) := D_180 W_prog_13_method_13_code_32 10 rfl rfl rfl
theorem d_13_13_45 : decode prog_13_method_13_code 45 = .ok (.iconst 1, 1) := D_4 W_prog_13_method_13_code_32 13 rfl rfl
theorem d_13_13_46 : decode prog_13_method_13_code 46 = .ok (.if_icmp .ge 11, 3) := D_162 W_prog_13_method_13_code_32 14 rfl rfl rfl
theorem d_13_13_57 : decode prog_13_method_13_code 57 = .ok (.ldc2_w 152, 3) := D_20 W_prog_13_method_13_code_32 25 rfl rfl rfl
theorem d_13_13_60 : decode prog_13_method_13_code 60 = .ok (.iload_n 3, 1) := D_29 W_prog_13_method_13_code_32 28 rfl rfl
theorem d_13_13_61 : decode prog_13_method_13_code 61 = .ok (.i2l, 1) := D_133 W_prog_13_method_13_code_32 29 rfl rfl
theorem d_13_13_62 : decode prog_13_method_13_code 62 = .ok (.lmul, 1) := D_105 W_prog_13_method_13_code_32 30 rfl rfl
theorem d_13_13_63 : decode prog_13_method_13_code 63 = .ok (.aload_n 0, 1) := D_42 W_prog_13_method_13_code_32 31 rfl rfl
theorem W_prog_13_method_13_code_64 : chW prog_13_method_13_code 64 [180, 0, 54, 133, 109, 42, 180, 0, 57, 133, 105, 55, 4, 42, 180, 0, 28, 180, 0, 139, 17, 0, 200, 162, 0, 18, 42, 180, 0, 60, 22, 4, 97, 42, 180, 0] := chW_of (by decide +kernel)
theorem d_13_13_64 : decode prog_13_method_13_code 64 = .ok (.getfield 54, 3) := D_180 W_prog_13_method_13_code_64 0 rfl rfl rfl
theorem d_13_13_67 : decode prog_13_method_13_code 67 = .ok (.i2l, 1) := D_133 W_prog_13_method_13_code_64 3 rfl rfl
theorem d_13_13_68 : decode prog_13_method_13_code 68 = .ok (.ldiv, 1) := D_109 W_prog_13_method_13_code_64 4 rfl rfl
theorem d_13_13_69 : decode prog_13_method_13_code 69 = .ok (.aload_n 0, 1) := D_42 W_prog_13_method_13_code_64 5 rfl rfl
theorem d_13_13_70 : decode prog_13_method_13_code 70 = .ok (.getfield 57, 3) := D_180 W_prog_13_method_13_code_64 6 rfl rfl rfl
theorem d_13_13_73 : decode prog_13_method_13_code 73 = .ok (.i2l, 1) := D_133 W_prog_13_method_13_code_64 9 rfl rfl
theorem d_13_13_74 : decode prog_13_method_13_code 74 = .ok (.lmul, 1) := D_105 W_prog_13_method_13_code_64 10 rfl rfl
theorem d_13_13_75 : decode prog_13_method_13_code 75 = .ok (.lstore 4, 2) := D_55 W_prog_13_method_13_code_64 11 rfl rfl
theorem d_13_13_77 : decode prog_13_method_13_code 77 = .ok (.aload_n 0, 1) := D_42 W_prog_13_method_13_code_64 13 rfl rfl
theorem d_13_13_78 : decode prog_13_method_13_code 78 = .ok (.getfield 28, 3) := D_180 W_prog_13_method_13_code_64 14 rfl rfl rfl
theorem d_13_13_81 : decode prog_13_method_13_code 81 = .ok (.getfield 139, 3) := D_180 W_prog_13_method_13_code_64 17 rfl rfl rfl
theorem d_13_13_84 : decode prog_13_method_13_code 84 = .ok (.sipush 200, 3) := D_17 W_prog_13_method_13_code_64 20 rfl rfl rfl
theorem d_13_13_87 : decode prog_13_method_13_code 87 = .ok (.if_icmp .ge 18, 3) := D_162 W_prog_13_method_13_code_64 23 rfl rfl rfl
theorem d_13_13_90 : decode prog_13_method_13_code 90 = .ok (.aload_n 0, 1) := D_42 W_prog_13_method_13_code_64 26 rfl rfl
theorem d_13_13_91 : decode prog_13_method_13_code 91 = .ok (.getfield 60, 3) := D_180 W_prog_13_method_13_code_64 27 rfl rfl rfl
theorem d_13_13_94 : decode prog_13_method_13_code 94 = .ok (.lload 4, 2) := D_22 W_prog_13_method_13_code_64 30 rfl rfl
theorem W_prog_13_method_13_code_96 : chW prog_13_method_13_code 96 [97, 42, 180, 0, 75, 148, 158, 0, 11, 42, 16, 8, 28, 182, 0, 108, 177, 42, 180, 0, 28, 180, 0, 154, 42, 180, 0, 28, 180, 0, 139, 50, 58, 6, 25, 6] := chW_of (by decide +kernel)
theorem d_13_13_96 : decode prog_13_method_13_code 96 = .ok (.ladd, 1) := D_97 W_prog_13_method_13_code_96 0 rfl rfl
theorem d_13_13_97 : decode prog_13_method_13_code 97 = .ok (.aload_n 0, 1) := D_42 W_prog_13_method_13_code_96 1 rfl rfl
theorem d_13_13_98 : decode prog_13_method_13_code 98 = .ok (.getfield 75, 3) := D_180 W_prog_13_method_13_code_96 2 rfl rfl rfl
theorem d_13_13_101 : decode prog_13_method_13_code 101 = .ok (.lcmp, 1) := D_148 W_prog_13_method_13_code_96 5 rfl rfl
theorem d_13_13_102 : decode prog_13_method_13_code 102 = .ok (.ifCond .le 11, 3) := D_158 W_prog_13_method_13_code_96 6 rfl rfl rfl
theorem d_13_13_113 : decode prog_13_method_13_code 113 = .ok (.aload_n 0, 1) := D_42 W_prog_13_method_13_code_96 17 rfl rfl
theorem d_13_13_114 : decode prog_13_method_13_code 114 = .ok (.getfield 28, 3) := D_180 W_prog_13_method_13_code_96 18 rfl rfl rfl
theorem d_13_13_117 : decode prog_13_method_13_code 117 = .ok (.getfield 154, 3) := D_180 W_prog_13_method_13_code_96 21 rfl rfl rfl
theorem d_13_13_120 : decode prog_13_method_13_code 120 = .ok (.aload_n 0, 1) := D_42 W_prog_13_method_13_code_96 24 rfl rfl
theorem d_13_13_121 : decode prog_13_method_13_code 121 = .ok (.getfield 28, 3) := D_180 W_prog_13_method_13_code_96 25 rfl rfl rfl
theorem d_13_13_124 : decode prog_13_method_13_code 124 = .ok (.getfield 139, 3) := D_180 W_prog_13_method_13_code_96 28 rfl rfl rfl
theorem d_13_13_127 : decode prog_13_method_13_code 127 = .ok (.aaload, 1) := D_50 W_prog_13_method_13_code_96 31 rfl rfl
theorem W_prog_13_method_13_code_128 : chW prog_13_method_13_code 128 [58, 6, 25, 6, 22, 4, 181, 0, 158, 25, 6, 29, 181, 0, 163, 25, 6, 42, 180, 0, 54, 181, 0, 166, 25, 6, 42, 180, 0, 57, 181, 0, 167, 25, 6, 42] := chW_of (by decide +kernel)
theorem d_13_13_128 : decode prog_13_method_13_code 128 = .ok (.astore 6, 2) := D_58 W_prog_13_method_13_code_128 0 rfl rfl
theorem d_13_13_130 : decode prog_13_method_13_code 130 = .ok (.aload 6, 2) := D_25 W_prog_13_method_13_code_128 2 rfl rfl
theorem d_13_13_132 : decode prog_13_method_13_code 132 = .ok (.lload 4, 2) := D_22 W_prog_13_method_13_code_128 4 rfl rfl
theorem d_13_13_134 : decode prog_13_method_13_code 134 = .ok (.putfield 158, 3) := D_181 W_prog_13_method_13_code_128 6 rfl rfl rfl
theorem d_13_13_137 : decode prog_13_method_13_code 137 = .ok (.aload 6, 2) := D_25 W_prog_13_method_13_code_128 9 rfl rfl
theorem d_13_13_139 : decode prog_13_method_13_code 139 = .ok (.iload_n 3, 1) := D_29 W_prog_13_method_13_code_128 11 rfl rfl
theorem d_13_13_140 : decode prog_13_method_13_code 140 = .ok (.putfield 163, 3) := D_181 W_prog_13_method_13_code_128 12 rfl rfl rfl
theorem d_13_13_143 : decode prog_13_method_13_code 143 = .ok (.aload 6, 2) := D_25 W_prog_13_method_13_code_128 15 rfl rfl
theorem d_13_13_145 : decode prog_13_method_13_code 145 = .ok (.aload_n 0, 1) := D_42 W_prog_13_method_13_code_128 17 rfl rfl
theorem d_13_13_146 : decode prog_13_method_13_code 146 = .ok (.getfield 54, 3) := D_180 W_prog_13_method_13_code_128 18 rfl rfl rfl
theorem d_13_13_149 : decode prog_13_method_13_code 149 = .ok (.putfield 166, 3) := D_181 W_prog_13_method_13_code_128 21 rfl rfl rfl
theorem d_13_13_152 : decode prog_13_method_13_code 152 = .ok (.aload 6, 2) := D_25 W_prog_13_method_13_code_128 24 rfl rfl
theorem d_13_13_154 : decode prog_13_method_13_code 154 = .ok (.aload_n 0, 1) := D_42 W_prog_13_method_13_code_128 26 rfl rfl
theorem d_13_13_155 : decode prog_13_method_13_code 155 = .ok (.getfield 57, 3) := D_180 W_prog_13_method_13_code_128 27 rfl rfl rfl
theorem d_13_13_158 : decode prog_13_method_13_code 158 = .ok (.putfield 167, 3) := D_181 W_prog_13_method_13_code_128 30 rfl rfl rfl
theorem W_prog_13_method_13_code_160 : chW prog_13_method_13_code 160 [167, 25, 6, 42, 180, 0, 45, 154, 0, 7, 3, 167, 0, 7, 42, 180, 0, 48, 181, 0, 168, 25, 6, 42, 180, 0, 51, 181, 0, 169, 25, 6, 42, 180, 0, 24] := chW_of (by decide +kernel)
theorem d_13_13_161 : decode prog_13_method_13_code 161 = .ok (.aload 6, 2) := D_25 W_prog_13_method_13_code_160 1 rfl rfl
theorem d_13_13_163 : decode prog_13_method_13_code 163 = .ok (.aload_n 0, 1) := D_42 W_prog_13_method_13_code_160 3 rfl rfl
theorem d_13_13_164 : decode prog_13_method_13_code 164 = .ok (.getfield 45, 3) := D_180 W_prog_13_method_13_code_160 4 rfl rfl rfl
theorem d_13_13_167 : decode prog_13_method_13_code 167 = .ok (.ifCond .ne 7, 3) := D_154 W_prog_13_method_13_code_160 7 rfl rfl rfl
theorem d_13_13_174 : decode prog_13_method_13_code 174 = .ok (.aload_n 0, 1) := D_42 W_prog_13_method_13_code_160 14 rfl rfl
theorem d_13_13_175 : decode prog_13_method_13_code 175 = .ok (.getfield 48, 3) := D_180 W_prog_13_method_13_code_160 15 rfl rfl rfl
theorem d_13_13_170 : decode prog_13_method_13_code 170 = .ok (.iconst 0, 1) := D_3 W_prog_13_method_13_code_160 10 rfl rfl
theorem d_13_13_171 : decode prog_13_method_13_code 171 = .ok (.goto 7, 3) := D_167 W_prog_13_method_13_code_160 11 rfl rfl rfl
theorem d_13_13_49 : decode prog_13_method_13_code 49 = .ok (.aload_n 0, 1) := D_42 W_prog_13_method_13_code_32 17 rfl rfl
theorem d_13_13_50 : decode prog_13_method_13_code 50 = .ok (.bipush 12, 2) := D_16 W_prog_13_method_13_code_32 18 rfl rfl rfl
theorem d_13_13_52 : decode prog_13_method_13_code 52 = .ok (.iload_n 2, 1) := D_28 W_prog_13_method_13_code_32 20 rfl rfl
theorem d_13_13_53 : decode prog_13_method_13_code 53 = .ok (.invokevirtual 108, 3) := D_182 W_prog_13_method_13_code_32 21 rfl rfl rfl
theorem d_13_13_56 : decode prog_13_method_13_code 56 = .ok (.return_, 1) := D_177 W_prog_13_method_13_code_32 24 rfl rfl
theorem d_13_13_105 : decode prog_13_method_13_code 105 = .ok (.aload_n 0, 1) := D_42 W_prog_13_method_13_code_96 9 rfl rfl
theorem d_13_13_106 : decode prog_13_method_13_code 106 = .ok (.bipush 8, 2) := D_16 W_prog_13_method_13_code_96 10 rfl rfl rfl
theorem d_13_13_108 : decode prog_13_method_13_code 108 = .ok (.iload_n 2, 1) := D_28 W_prog_13_method_13_code_96 12 rfl rfl
theorem d_13_13_109 : decode prog_13_method_13_code 109 = .ok (.invokevirtual 108, 3) := D_182 W_prog_13_method_13_code_96 13 rfl rfl rfl
theorem d_13_13_112 : decode prog_13_method_13_code 112 = .ok (.return_, 1) := D_177 W_prog_13_method_13_code_96 16 rfl rfl
theorem d_13_13_178 : decode prog_13_method_13_code 178 = .ok (.putfield 168, 3) := D_181 W_prog_13_method_13_code_160 18 rfl rfl rfl
theorem d_13_13_181 : decode prog_13_method_13_code 181 = .ok (.aload 6, 2) := D_25 W_prog_13_method_13_code_160 21 rfl rfl
theorem d_13_13_183 : decode prog_13_method_13_code 183 = .ok (.aload_n 0, 1) := D_42 W_prog_13_method_13_code_160 23 rfl rfl
theorem d_13_13_184 : decode prog_13_method_13_code 184 = .ok (.getfield 51, 3) := D_180 W_prog_13_method_13_code_160 24 rfl rfl rfl
theorem d_13_13_187 : decode prog_13_method_13_code 187 = .ok (.putfield 169, 3) := D_181 W_prog_13_method_13_code_160 27 rfl rfl rfl
theorem d_13_13_190 : decode prog_13_method_13_code 190 = .ok (.aload 6, 2) := D_25 W_prog_13_method_13_code_160 30 rfl rfl
theorem W_prog_13_method_13_code_192 : chW prog_13_method_13_code 192 [42, 180, 0, 24, 180, 0, 170, 27, 46, 181, 0, 173, 25, 6, 42, 180, 0, 39, 181, 0, 175, 25, 6, 28, 181, 0, 176, 25, 6, 3, 181, 0, 179, 3, 54, 7] := chW_of (by decide +kernel)
theorem d_13_13_192 : decode prog_13_method_13_code 192 = .ok (.aload_n 0, 1) := D_42 W_prog_13_method_13_code_192 0 rfl rfl
theorem d_13_13_193 : decode prog_13_method_13_code 193 = .ok (.getfield 24, 3) := D_180 W_prog_13_method_13_code_192 1 rfl rfl rfl
theorem d_13_13_196 : decode prog_13_method_13_code 196 = .ok (.getfield 170, 3) := D_180 W_prog_13_method_13_code_192 4 rfl rfl rfl
theorem d_13_13_199 : decode prog_13_method_13_code 199 = .ok (.iload_n 1, 1) := D_27 W_prog_13_method_13_code_192 7 rfl rfl
theorem d_13_13_200 : decode prog_13_method_13_code 200 = .ok (.iaload, 1) := D_46 W_prog_13_method_13_code_192 8 rfl rfl
theorem d_13_13_201 : decode prog_13_method_13_code 201 = .ok (.putfield 173, 3) := D_181 W_prog_13_method_13_code_192 9 rfl rfl rfl
theorem d_13_13_204 : decode prog_13_method_13_code 204 = .ok (.aload 6, 2) := D_25 W_prog_13_method_13_code_192 12 rfl rfl
theorem d_13_13_206 : decode prog_13_method_13_code 206 = .ok (.aload_n 0, 1) := D_42 W_prog_13_method_13_code_192 14 rfl rfl
theorem d_13_13_207 : decode prog_13_method_13_code 207 = .ok (.getfield 39, 3) := D_180 W_prog_13_method_13_code_192 15 rfl rfl rfl
theorem d_13_13_210 : decode prog_13_method_13_code 210 = .ok (.putfield 175, 3) := D_181 W_prog_13_method_13_code_192 18 rfl rfl rfl
theorem d_13_13_213 : decode prog_13_method_13_code 213 = .ok (.aload 6, 2) := D_25 W_prog_13_method_13_code_192 21 rfl rfl
theorem d_13_13_215 : decode prog_13_method_13_code 215 = .ok (.iload_n 2, 1) := D_28 W_prog_13_method_13_code_192 23 rfl rfl
theorem d_13_13_216 : decode prog_13_method_13_code 216 = .ok (.putfield 176, 3) := D_181 W_prog_13_method_13_code_192 24 rfl rfl rfl
theorem d_13_13_219 : decode prog_13_method_13_code 219 = .ok (.aload 6, 2) := D_25 W_prog_13_method_13_code_192 27 rfl rfl
theorem d_13_13_221 : decode prog_13_method_13_code 221 = .ok (.iconst 0, 1) := D_3 W_prog_13_method_13_code_192 29 rfl rfl
theorem d_13_13_222 : decode prog_13_method_13_code 222 = .ok (.putfield 179, 3) := D_181 W_prog_13_method_13_code_192 30 rfl rfl rfl
theorem W_prog_13_method_13_code_224 : chW prog_13_method_13_code 224 [179, 3, 54, 7, 21, 7, 42, 180, 0, 24, 180, 0, 182, 27, 46, 162, 0, 34, 42, 180, 0, 32, 154, 0, 27, 42, 25, 6, 42, 180, 0, 24, 180, 0, 136, 27] := chW_of (by decide +kernel)
theorem d_13_13_225 : decode prog_13_method_13_code 225 = .ok (.iconst 0, 1) := D_3 W_prog_13_method_13_code_224 1 rfl rfl
theorem d_13_13_226 : decode prog_13_method_13_code 226 = .ok (.istore 7, 2) := D_54 W_prog_13_method_13_code_224 2 rfl rfl
theorem d_13_13_228 : decode prog_13_method_13_code 228 = .ok (.iload 7, 2) := D_21 W_prog_13_method_13_code_224 4 rfl rfl
theorem d_13_13_230 : decode prog_13_method_13_code 230 = .ok (.aload_n 0, 1) := D_42 W_prog_13_method_13_code_224 6 rfl rfl
theorem d_13_13_231 : decode prog_13_method_13_code 231 = .ok (.getfield 24, 3) := D_180 W_prog_13_method_13_code_224 7 rfl rfl rfl
theorem d_13_13_234 : decode prog_13_method_13_code 234 = .ok (.getfield 182, 3) := D_180 W_prog_13_method_13_code_224 10 rfl rfl rfl
theorem d_13_13_237 : decode prog_13_method_13_code 237 = .ok (.iload_n 1, 1) := D_27 W_prog_13_method_13_code_224 13 rfl rfl
theorem d_13_13_238 : decode prog_13_method_13_code 238 = .ok (.iaload, 1) := D_46 W_prog_13_method_13_code_224 14 rfl rfl
theorem d_13_13_239 : decode prog_13_method_13_code 239 = .ok (.if_icmp .ge 34, 3) := D_162 W_prog_13_method_13_code_224 15 rfl rfl rfl
theorem d_13_13_242 : decode prog_13_method_13_code 242 = .ok (.aload_n 0, 1) := D_42 W_prog_13_method_13_code_224 18 rfl rfl
theorem d_13_13_243 : decode prog_13_method_13_code 243 = .ok (.getfield 32, 3) := D_180 W_prog_13_method_13_code_224 19 rfl rfl rfl
theorem d_13_13_246 : decode prog_13_method_13_code 246 = .ok (.ifCond .ne 27, 3) := D_154 W_prog_13_method_13_code_224 22 rfl rfl rfl
theorem d_13_13_249 : decode prog_13_method_13_code 249 = .ok (.aload_n 0, 1) := D_42 W_prog_13_method_13_code_224 25 rfl rfl
theorem d_13_13_250 : decode prog_13_method_13_code 250 = .ok (.aload 6, 2) := D_25 W_prog_13_method_13_code_224 26 rfl rfl
theorem d_13_13_252 : decode prog_13_method_13_code 252 = .ok (.aload_n 0, 1) := D_42 W_prog_13_method_13_code_224 28 rfl rfl
theorem d_13_13_253 : decode prog_13_method_13_code 253 = .ok (.getfield 24, 3) := D_180 W_prog_13_method_13_code_224 29 rfl rfl rfl
theorem W_prog_13_method_13_code_256 : chW prog_13_method_13_code 256 [180, 0, 136, 27, 46, 21, 7, 96, 182, 0, 184, 132, 7, 1, 167, 255, 214, 42, 180, 0, 28, 89, 180, 0, 139, 4, 96, 181, 0, 139, 42, 89, 180, 0, 60, 22] := chW_of (by decide +kernel)
theorem d_13_13_256 : decode prog_13_method_13_code 256 = .ok (.getfield 136, 3) := D_180 W_prog_13_method_13_code_256 0 rfl rfl rfl
theorem d_13_13_259 : decode prog_13_method_13_code 259 = .ok (.iload_n 1, 1) := D_27 W_prog_13_method_13_code_256 3 rfl rfl
theorem d_13_13_260 : decode prog_13_method_13_code 260 = .ok (.iaload, 1) := D_46 W_prog_13_method_13_code_256 4 rfl rfl
theorem d_13_13_261 : decode prog_13_method_13_code 261 = .ok (.iload 7, 2) := D_21 W_prog_13_method_13_code_256 5 rfl rfl
theorem d_13_13_263 : decode prog_13_method_13_code 263 = .ok (.iadd, 1) := D_96 W_prog_13_method_13_code_256 7 rfl rfl
theorem d_13_13_264 : decode prog_13_method_13_code 264 = .ok (.invokevirtual 184, 3) := D_182 W_prog_13_method_13_code_256 8 rfl rfl rfl
theorem d_6_16_24 : decode prog_6_method_16_code 24 = .ok (.ifCond .eq 16, 3) := D_153 W_prog_6_method_16_code_0 24 rfl rfl rfl
theorem W_prog_6_method_16_code_32 : chW prog_6_method_16_code 32 [6, 50, 27, 3, 79, 167, 0, 52, 42, 27, 4, 96, 182, 0, 194, 153, 0, 28, 42, 180, 0, 19, 16, 6, 50, 27, 4, 42, 180, 0, 11, 28, 50, 180, 0, 188] := chW_of (by decide +kernel)
theorem d_6_16_40 : decode prog_6_method_16_code 40 = .ok (.aload_n 0, 1) := D_42 W_prog_6_method_16_code_32 8 rfl rfl
theorem d_6_16_41 : decode prog_6_method_16_code 41 = .ok (.iload_n 1, 1) := D_27 W_prog_6_method_16_code_32 9 rfl rfl
theorem d_6_16_42 : decode prog_6_method_16_code 42 = .ok (.iconst 1, 1) := D_4 W_prog_6_method_16_code_32 10 rfl rfl
theorem d_6_16_43 : decode prog_6_method_16_code 43 = .ok (.iadd, 1) := D_96 W_prog_6_method_16_code_32 11 rfl rfl
theorem d_6_16_44 : decode prog_6_method_16_code 44 = .ok (.invokevirtual 194, 3) := D_182 W_prog_6_method_16_code_32 12 rfl rfl rfl
theorem d_6_16_47 : decode prog_6_method_16_code 47 = .ok (.ifCond .eq 28, 3) := D_153 W_prog_6_method_16_code_32 15 rfl rfl rfl
theorem d_6_16_75 : decode prog_6_method_16_code 75 = .ok (.aload_n 0, 1) := D_42 W_prog_6_method_16_code_64 11 rfl rfl
theorem d_6_16_76 : decode prog_6_method_16_code 76 = .ok (.getfield 19, 3) := D_180 W_prog_6_method_16_code_64 12 rfl rfl rfl
theorem d_6_16_79 : decode prog_6_method_16_code 79 = .ok (.bipush 6, 2) := D_16 W_prog_6_method_16_code_64 15 rfl rfl rfl
theorem d_6_16_81 : decode prog_6_method_16_code 81 = .ok (.aaload, 1) := D_50 W_prog_6_method_16_code_64 17 rfl rfl
theorem d_6_16_82 : decode prog_6_method_16_code 82 = .ok (.iload_n 1, 1) := D_27 W_prog_6_method_16_code_64 18 rfl rfl
theorem d_6_16_83 : decode prog_6_method_16_code 83 = .ok (.aload_n 0, 1) := D_42 W_prog_6_method_16_code_64 19 rfl rfl
theorem d_6_16_84 : decode prog_6_method_16_code 84 = .ok (.iload_n 2, 1) := D_28 W_prog_6_method_16_code_64 20 rfl rfl
theorem d_6_16_85 : decode prog_6_method_16_code 85 = .ok (.invokevirtual 68, 3) := D_182 W_prog_6_method_16_code_64 21 rfl rfl rfl
theorem d_10_7_20 : decode prog_10_method_7_code 20 = .ok (.i2l, 1) := D_133 W_prog_10_method_7_code_0 20 rfl rfl
theorem d_10_7_21 : decode prog_10_method_7_code 21 = .ok (.ladd, 1) := D_97 W_prog_10_method_7_code_0 21 rfl rfl
theorem d_10_7_22 : decode prog_10_method_7_code 22 = .ok (.lstore_n 2, 1) := D_65 W_prog_10_method_7_code_0 22 rfl rfl
theorem d_10_7_23 : decode prog_10_method_7_code 23 = .ok (.iinc 4 1, 3) := D_132 W_prog_10_method_7_code_0 23 rfl rfl rfl
theorem d_10_7_26 : decode prog_10_method_7_code 26 = .ok (.goto (-21), 3) := D_167 W_prog_10_method_7_code_0 26 rfl rfl rfl
theorem d_10_8_11 : decode prog_10_method_8_code 11 = .ok (.lstore 7, 2) := D_55 W_prog_10_method_8_code_0 11 rfl rfl
theorem d_10_8_13 : decode prog_10_method_8_code 13 = .ok (.lload 7, 2) := D_22 W_prog_10_method_8_code_0 13 rfl rfl
theorem d_10_8_15 : decode prog_10_method_8_code 15 = .ok (.lload_n 2, 1) := D_32 W_prog_10_method_8_code_0 15 rfl rfl
theorem d_10_8_16 : decode prog_10_method_8_code 16 = .ok (.lcmp, 1) := D_148 W_prog_10_method_8_code_0 16 rfl rfl
theorem d_10_8_17 : decode prog_10_method_8_code 17 = .ok (.ifCond .lt 11, 3) := D_155 W_prog_10_method_8_code_0 17 rfl rfl rfl
theorem d_10_8_20 : decode prog_10_method_8_code 20 = .ok (.lload 7, 2) := D_22 W_prog_10_method_8_code_0 20 rfl rfl
theorem d_10_8_22 : decode prog_10_method_8_code 22 = .ok (.lload 4, 2) := D_22 W_prog_10_method_8_code_0 22 rfl rfl
theorem d_10_8_24 : decode prog_10_method_8_code 24 = .ok (.lcmp, 1) := D_148 W_prog_10_method_8_code_0 24 rfl rfl
theorem d_10_8_25 : decode prog_10_method_8_code 25 = .ok (.ifCond .le 12, 3) := D_158 W_prog_10_method_8_code_0 25 rfl rfl rfl
theorem W_prog_10_method_8_code_32 : chW prog_10_method_8_code 32 [182, 0, 83, 3, 172, 22, 7, 136, 172] := chW_of (by decide +kernel)
theorem d_10_8_37 : decode prog_10_method_8_code 37 = .ok (.lload 7, 2) := D_22 W_prog_10_method_8_code_32 5 rfl rfl
theorem d_10_8_39 : decode prog_10_method_8_code 39 = .ok (.l2i, 1) := D_136 W_prog_10_method_8_code_32 7 rfl rfl
theorem d_10_8_40 : decode prog_10_method_8_code 40 = .ok (.ireturn, 1) := D_172 W_prog_10_method_8_code_32 8 rfl rfl
theorem d_10_8_28 : decode prog_10_method_8_code 28 = .ok (.aload_n 0, 1) := D_42 W_prog_10_method_8_code_0 28 rfl rfl
theorem d_10_8_29 : decode prog_10_method_8_code 29 = .ok (.iconst 3, 1) := D_6 W_prog_10_method_8_code_0 29 rfl rfl
theorem d_10_8_30 : decode prog_10_method_8_code 30 = .ok (.iload 6, 2) := D_21 W_prog_10_method_8_code_0 30 rfl rfl
theorem d_10_8_32 : decode prog_10_method_8_code 32 = .ok (.invokevirtual 83, 3) := D_182 W_prog_10_method_8_code_32 0 rfl rfl rfl
theorem d_10_8_35 : decode prog_10_method_8_code 35 = .ok (.iconst 0, 1) := D_3 W_prog_10_method_8_code_32 3 rfl rfl
theorem d_10_8_36 : decode prog_10_method_8_code 36 = .ok (.ireturn, 1) := D_172 W_prog_10_method_8_code_32 4 rfl rfl
theorem d_10_9_13 : decode prog_10_method_9_code 13 = .ok (.istore_n 3, 1) := D_62 W_prog_10_method_9_code_0 13 rfl rfl
theorem d_10_9_14 : decode prog_10_method_9_code 14 = .ok (.iload_n 1, 1) := D_27 W_prog_10_method_9_code_0 14 rfl rfl
theorem d_10_9_15 : decode prog_10_method_9_code 15 = .ok (.sipush 128, 3) := D_17 W_prog_10_method_9_code_0 15 rfl rfl rfl
theorem d_10_9_18 : decode prog_10_method_9_code 18 = .ok (.imul, 1) := D_104 W_prog_10_method_9_code_0 18 rfl rfl
theorem d_10_9_19 : decode prog_10_method_9_code 19 = .ok (.iload_n 3, 1) := D_29 W_prog_10_method_9_code_0 19 rfl rfl
theorem d_10_9_20 : decode prog_10_method_9_code 20 = .ok (.sipush 128, 3) := D_17 W_prog_10_method_9_code_0 20 rfl rfl rfl
theorem d_10_9_23 : decode prog_10_method_9_code 23 = .ok (.irem, 1) := D_112 W_prog_10_method_9_code_0 23 rfl rfl
theorem d_10_9_24 : decode prog_10_method_9_code 24 = .ok (.iadd, 1) := D_96 W_prog_10_method_9_code_0 24 rfl rfl
theorem d_10_9_25 : decode prog_10_method_9_code 25 = .ok (.istore_n 1, 1) := D_60 W_prog_10_method_9_code_0 25 rfl rfl
theorem d_10_9_26 : decode prog_10_method_9_code 26 = .ok (.iload_n 3, 1) := D_29 W_prog_10_method_9_code_0 26 rfl rfl
theorem d_10_9_27 : decode prog_10_method_9_code 27 = .ok (.sipush 128, 3) := D_17 W_prog_10_method_9_code_0 27 rfl rfl rfl
theorem d_10_9_30 : decode prog_10_method_9_code 30 = .ok (.if_icmp .ge 5, 3) := D_162 W_prog_10_method_9_code_0 30 rfl rfl rfl
theorem d_10_9_35 : decode prog_10_method_9_code 35 = .ok (.iinc 2 1, 3) := D_132 W_prog_10_method_9_code_32 3 rfl rfl rfl
theorem d_10_9_38 : decode prog_10_method_9_code 38 = .ok (.goto (-34), 3) := D_167 W_prog_10_method_9_code_32 6 rfl rfl rfl
theorem d_10_9_33 : decode prog_10_method_9_code 33 = .ok (.iload_n 1, 1) := D_27 W_prog_10_method_9_code_32 1 rfl rfl
theorem d_10_9_34 : decode prog_10_method_9_code 34 = .ok (.ireturn, 1) := D_172 W_prog_10_method_9_code_32 2 rfl rfl
theorem d_10_10_4 : decode prog_10_method_10_code 4 = .ok (.istore_n 1, 1) := D_60 W_prog_10_method_10_code_0 4 rfl rfl
theorem d_10_10_5 : decode prog_10_method_10_code 5 = .ok (.iload_n 1, 1) := D_27 W_prog_10_method_10_code_0 5 rfl rfl
theorem d_10_10_6 : decode prog_10_method_10_code 6 = .ok (.sipush 128, 3) := D_17 W_prog_10_method_10_code_0 6 rfl rfl rfl
theorem d_10_10_9 : decode prog_10_method_10_code 9 = .ok (.if_icmp .lt 14, 3) := D_161 W_prog_10_method_10_code_0 9 rfl rfl rfl
theorem d_10_10_12 : decode prog_10_method_10_code 12 = .ok (.aload_n 0, 1) := D_42 W_prog_10_method_10_code_0 12 rfl rfl
theorem d_10_10_13 : decode prog_10_method_10_code 13 = .ok (.iconst 1, 1) := D_4 W_prog_10_method_10_code_0 13 rfl rfl
theorem d_10_10_14 : decode prog_10_method_10_code 14 = .ok (.aload_n 0, 1) := D_42 W_prog_10_method_10_code_0 14 rfl rfl
theorem d_10_10_15 : decode prog_10_method_10_code 15 = .ok (.getfield 27, 3) := D_180 W_prog_10_method_10_code_0 15 rfl rfl rfl
theorem d_10_10_18 : decode prog_10_method_10_code 18 = .ok (.iconst 1, 1) := D_4 W_prog_10_method_10_code_0 18 rfl rfl
theorem d_10_10_19 : decode prog_10_method_10_code 19 = .ok (.isub, 1) := D_100 W_prog_10_method_10_code_0 19 rfl rfl
theorem d_10_10_20 : decode prog_10_method_10_code 20 = .ok (.invokevirtual 83, 3) := D_182 W_prog_10_method_10_code_0 20 rfl rfl rfl
theorem d_10_10_23 : decode prog_10_method_10_code 23 = .ok (.iload_n 1, 1) := D_27 W_prog_10_method_10_code_0 23 rfl rfl
theorem d_10_10_24 : decode prog_10_method_10_code 24 = .ok (.ireturn, 1) := D_172 W_prog_10_method_10_code_0 24 rfl rfl
theorem d_10_15_67 : decode prog_10_method_15_code 67 = .ok (.istore 5, 2) := D_54 W_prog_10_method_15_code_64 3 rfl rfl
theorem d_10_15_69 : decode prog_10_method_15_code 69 = .ok (.aload_n 0, 1) := D_42 W_prog_10_method_15_code_64 5 rfl rfl
theorem d_10_15_70 : decode prog_10_method_15_code 70 = .ok (.getfield 39, 3) := D_180 W_prog_10_method_15_code_64 6 rfl rfl rfl
theorem d_10_15_73 : decode prog_10_method_15_code 73 = .ok (.ifCond .eq 4, 3) := D_153 W_prog_10_method_15_code_64 9 rfl rfl rfl
theorem d_10_15_77 : decode prog_10_method_15_code 77 = .ok (.iload 4, 2) := D_21 W_prog_10_method_15_code_64 13 rfl rfl
theorem d_10_15_79 : decode prog_10_method_15_code 79 = .ok (.bipush 9, 2) := D_16 W_prog_10_method_15_code_64 15 rfl rfl rfl
theorem d_10_15_81 : decode prog_10_method_15_code 81 = .ok (.if_icmp .ne 19, 3) := D_160 W_prog_10_method_15_code_64 17 rfl rfl rfl
theorem d_10_15_84 : decode prog_10_method_15_code 84 = .ok (.iload 5, 2) := D_21 W_prog_10_method_15_code_64 20 rfl rfl
theorem d_10_15_86 : decode prog_10_method_15_code 86 = .ok (.ifCond .le 14, 3) := D_158 W_prog_10_method_15_code_64 22 rfl rfl rfl
theorem d_10_15_89 : decode prog_10_method_15_code 89 = .ok (.aload_n 0, 1) := D_42 W_prog_10_method_15_code_64 25 rfl rfl
theorem d_10_15_90 : decode prog_10_method_15_code 90 = .ok (.iload_n 1, 1) := D_27 W_prog_10_method_15_code_64 26 rfl rfl
theorem d_10_15_91 : decode prog_10_method_15_code 91 = .ok (.iload 5, 2) := D_21 W_prog_10_method_15_code_64 27 rfl rfl
theorem d_10_15_93 : decode prog_10_method_15_code 93 = .ok (.iload_n 2, 1) := D_28 W_prog_10_method_15_code_64 29 rfl rfl
theorem d_10_15_94 : decode prog_10_method_15_code 94 = .ok (.invokevirtual 149, 3) := D_182 W_prog_10_method_15_code_64 30 rfl rfl rfl
theorem W_prog_10_method_15_code_96 : chW prog_10_method_15_code 96 [149, 167, 0, 23, 21, 4, 16, 8, 159, 0, 10, 21, 4, 16, 9, 160, 0, 9, 42, 27, 29, 182, 0, 152, 177] := chW_of (by decide +kernel)
theorem d_10_15_97 : decode prog_10_method_15_code 97 = .ok (.goto 23, 3) := D_167 W_prog_10_method_15_code_96 1 rfl rfl rfl
theorem d_10_15_76 : decode prog_10_method_15_code 76 = .ok (.return_, 1) := D_177 W_prog_10_method_15_code_64 12 rfl rfl
theorem d_10_15_23 : decode prog_10_method_15_code 23 = .ok (.aload_n 0, 1) := D_42 W_prog_10_method_15_code_0 23 rfl rfl
theorem d_10_15_24 : decode prog_10_method_15_code 24 = .ok (.getfield 39, 3) := D_180 W_prog_10_method_15_code_0 24 rfl rfl rfl
theorem d_10_15_27 : decode prog_10_method_15_code 27 = .ok (.ifCond .ne 35, 3) := D_154 W_prog_10_method_15_code_0 27 rfl rfl rfl
theorem d_10_15_30 : decode prog_10_method_15_code 30 = .ok (.iload 4, 2) := D_21 W_prog_10_method_15_code_0 30 rfl rfl
theorem d_10_15_32 : decode prog_10_method_15_code 32 = .ok (.bipush 12, 2) := D_16 W_prog_10_method_15_code_32 0 rfl rfl rfl
theorem d_10_15_34 : decode prog_10_method_15_code 34 = .ok (.if_icmp .ne 28, 3) := D_160 W_prog_10_method_15_code_32 2 rfl rfl rfl
theorem d_10_15_37 : decode prog_10_method_15_code 37 = .ok (.aload_n 0, 1) := D_42 W_prog_10_method_15_code_32 5 rfl rfl
theorem d_10_15_38 : decode prog_10_method_15_code 38 = .ok (.getfield 20, 3) := D_180 W_prog_10_method_15_code_32 6 rfl rfl rfl
theorem d_10_15_41 : decode prog_10_method_15_code 41 = .ok (.aload_n 0, 1) := D_42 W_prog_10_method_15_code_32 9 rfl rfl
theorem d_10_15_42 : decode prog_10_method_15_code 42 = .ok (.getfield 51, 3) := D_180 W_prog_10_method_15_code_32 10 rfl rfl rfl
theorem d_10_15_45 : decode prog_10_method_15_code 45 = .ok (.iaload, 1) := D_46 W_prog_10_method_15_code_32 13 rfl rfl
theorem d_10_15_46 : decode prog_10_method_15_code 46 = .ok (.iconst (-1), 1) := D_2 W_prog_10_method_15_code_32 14 rfl rfl
theorem d_10_15_47 : decode prog_10_method_15_code 47 = .ok (.if_icmp .ne 15, 3) := D_160 W_prog_10_method_15_code_32 15 rfl rfl rfl
theorem d_10_15_50 : decode prog_10_method_15_code 50 = .ok (.aload_n 0, 1) := D_42 W_prog_10_method_15_code_32 18 rfl rfl
theorem d_10_15_51 : decode prog_10_method_15_code 51 = .ok (.getfield 20, 3) := D_180 W_prog_10_method_15_code_32 19 rfl rfl rfl
theorem d_10_15_54 : decode prog_10_method_15_code 54 = .ok (.aload_n 0, 1) := D_42 W_prog_10_method_15_code_32 22 rfl rfl
theorem d_10_15_55 : decode prog_10_method_15_code 55 = .ok (.getfield 51, 3) := D_180 W_prog_10_method_15_code_32 23 rfl rfl rfl
theorem d_10_15_58 : decode prog_10_method_15_code 58 = .ok (.iload_n 1, 1) := D_27 W_prog_10_method_15_code_32 26 rfl rfl
theorem d_10_15_59 : decode prog_10_method_15_code 59 = .ok (.iconst 4, 1) := D_7 W_prog_10_method_15_code_32 27 rfl rfl
theorem d_10_15_60 : decode prog_10_method_15_code 60 = .ok (.irem, 1) := D_112 W_prog_10_method_15_code_32 28 rfl rfl
theorem d_10_15_61 : decode prog_10_method_15_code 61 = .ok (.iastore, 1) := D_79 W_prog_10_method_15_code_32 29 rfl rfl
theorem d_10_15_62 : decode prog_10_method_15_code 62 = .ok (.return_, 1) := D_177 W_prog_10_method_15_code_32 30 rfl rfl
theorem d_10_15_120 : decode prog_10_method_15_code 120 = .ok (.return_, 1) := D_177 W_prog_10_method_15_code_96 24 rfl rfl
theorem d_10_15_100 : decode prog_10_method_15_code 100 = .ok (.iload 4, 2) := D_21 W_prog_10_method_15_code_96 4 rfl rfl
theorem d_10_15_102 : decode prog_10_method_15_code 102 = .ok (.bipush 8, 2) := D_16 W_prog_10_method_15_code_96 6 rfl rfl rfl
theorem d_10_15_104 : decode prog_10_method_15_code 104 = .ok (.if_icmp .eq 10, 3) := D_159 W_prog_10_method_15_code_96 8 rfl rfl rfl
theorem d_10_15_107 : decode prog_10_method_15_code 107 = .ok (.iload 4, 2) := D_21 W_prog_10_method_15_code_96 11 rfl rfl
theorem d_10_15_109 : decode prog_10_method_15_code 109 = .ok (.bipush 9, 2) := D_16 W_prog_10_method_15_code_96 13 rfl rfl rfl
theorem d_10_15_111 : decode prog_10_method_15_code 111 = .ok (.if_icmp .ne 9, 3) := D_160 W_prog_10_method_15_code_96 15 rfl rfl rfl
theorem d_10_15_114 : decode prog_10_method_15_code 114 = .ok (.aload_n 0, 1) := D_42 W_prog_10_method_15_code_96 18 rfl rfl
theorem d_10_15_115 : decode prog_10_method_15_code 115 = .ok (.iload_n 1, 1) := D_27 W_prog_10_method_15_code_96 19 rfl rfl
theorem d_10_15_116 : decode prog_10_method_15_code 116 = .ok (.iload_n 3, 1) := D_29 W_prog_10_method_15_code_96 20 rfl rfl
theorem d_10_15_117 : decode prog_10_method_15_code 117 = .ok (.invokevirtual 152, 3) := D_182 W_prog_10_method_15_code_96 21 rfl rfl rfl
theorem d_9_6_16 : decode prog_9_method_6_code 16 = .ok (.putfield 109, 3) := D_181 W_prog_9_method_6_code_0 16 rfl rfl rfl
theorem d_9_6_19 : decode prog_9_method_6_code 19 = .ok (.aload_n 0, 1) := D_42 W_prog_9_method_6_code_0 19 rfl rfl
theorem d_9_6_20 : decode prog_9_method_6_code 20 = .ok (.aload_n 0, 1) := D_42 W_prog_9_method_6_code_0 20 rfl rfl
theorem d_9_6_21 : decode prog_9_method_6_code 21 = .ok (.getfield 109, 3) := D_180 W_prog_9_method_6_code_0 21 rfl rfl rfl
theorem d_9_6_24 : decode prog_9_method_6_code 24 = .ok (.lconst 1, 1) := D_10 W_prog_9_method_6_code_0 24 rfl rfl
theorem d_9_6_25 : decode prog_9_method_6_code 25 = .ok (.ladd, 1) := D_97 W_prog_9_method_6_code_0 25 rfl rfl
theorem d_9_6_26 : decode prog_9_method_6_code 26 = .ok (.putfield 98, 3) := D_181 W_prog_9_method_6_code_0 26 rfl rfl rfl
theorem d_9_6_29 : decode prog_9_method_6_code 29 = .ok (.aload_n 0, 1) := D_42 W_prog_9_method_6_code_0 29 rfl rfl
theorem d_9_6_30 : decode prog_9_method_6_code 30 = .ok (.iload_n 1, 1) := D_27 W_prog_9_method_6_code_0 30 rfl rfl
theorem d_9_6_31 : decode prog_9_method_6_code 31 = .ok (.putfield 91, 3) := D_181 W_prog_9_method_6_code_0 31 rfl rfl rfl
theorem W_prog_9_method_6_code_32 : chW prog_9_method_6_code 32 [0, 91, 3, 62, 29, 42, 180, 0, 18, 190, 162, 0, 16, 42, 180, 0, 18, 29, 3, 84, 132, 3, 1, 167, 255, 237, 42, 180, 0, 91, 28, 162, 0, 95, 42, 42] := chW_of (by decide +kernel)
theorem d_9_6_34 : decode prog_9_method_6_code 34 = .ok (.iconst 0, 1) := D_3 W_prog_9_method_6_code_32 2 rfl rfl
theorem d_9_6_35 : decode prog_9_method_6_code 35 = .ok (.istore_n 3, 1) := D_62 W_prog_9_method_6_code_32 3 rfl rfl
theorem d_9_6_36 : decode prog_9_method_6_code 36 = .ok (.iload_n 3, 1) := D_29 W_prog_9_method_6_code_32 4 rfl rfl
theorem d_9_6_37 : decode prog_9_method_6_code 37 = .ok (.aload_n 0, 1) := D_42 W_prog_9_method_6_code_32 5 rfl rfl
theorem d_9_6_38 : decode prog_9_method_6_code 38 = .ok (.getfield 18, 3) := D_180 W_prog_9_method_6_code_32 6 rfl rfl rfl
theorem d_9_6_41 : decode prog_9_method_6_code 41 = .ok (.arraylength, 1) := D_190 W_prog_9_method_6_code_32 9 rfl rfl
theorem d_9_6_42 : decode prog_9_method_6_code 42 = .ok (.if_icmp .ge 16, 3) := D_162 W_prog_9_method_6_code_32 10 rfl rfl rfl
theorem d_9_6_45 : decode prog_9_method_6_code 45 = .ok (.aload_n 0, 1) := D_42 W_prog_9_method_6_code_32 13 rfl rfl
theorem d_9_6_46 : decode prog_9_method_6_code 46 = .ok (.getfield 18, 3) := D_180 W_prog_9_method_6_code_32 14 rfl rfl rfl
theorem d_9_6_49 : decode prog_9_method_6_code 49 = .ok (.iload_n 3, 1) := D_29 W_prog_9_method_6_code_32 17 rfl rfl
theorem d_9_6_50 : decode prog_9_method_6_code 50 = .ok (.iconst 0, 1) := D_3 W_prog_9_method_6_code_32 18 rfl rfl
theorem d_9_6_51 : decode prog_9_method_6_code 51 = .ok (.bastore, 1) := D_84 W_prog_9_method_6_code_32 19 rfl rfl
theorem d_9_6_52 : decode prog_9_method_6_code 52 = .ok (.iinc 3 1, 3) := D_132 W_prog_9_method_6_code_32 20 rfl rfl rfl
theorem d_9_6_55 : decode prog_9_method_6_code 55 = .ok (.goto (-19), 3) := D_167 W_prog_9_method_6_code_32 23 rfl rfl rfl
theorem d_9_6_58 : decode prog_9_method_6_code 58 = .ok (.aload_n 0, 1) := D_42 W_prog_9_method_6_code_32 26 rfl rfl
theorem d_9_6_59 : decode prog_9_method_6_code 59 = .ok (.getfield 91, 3) := D_180 W_prog_9_method_6_code_32 27 rfl rfl rfl
theorem d_9_6_62 : decode prog_9_method_6_code 62 = .ok (.iload_n 2, 1) := D_28 W_prog_9_method_6_code_32 30 rfl rfl
theorem d_9_6_63 : decode prog_9_method_6_code 63 = .ok (.if_icmp .ge 95, 3) := D_162 W_prog_9_method_6_code_32 31 rfl rfl rfl
theorem W_prog_9_method_6_code_64 : chW prog_9_method_6_code 64 [0, 95, 42, 42, 180, 0, 22, 180, 0, 81, 7, 50, 42, 180, 0, 91, 47, 182, 0, 105, 42, 180, 0, 109, 148, 154, 0, 69, 42, 42, 180, 0, 98, 42, 42, 180] := chW_of (by decide +kernel)
theorem d_9_6_66 : decode prog_9_method_6_code 66 = .ok (.aload_n 0, 1) := D_42 W_prog_9_method_6_code_64 2 rfl rfl
theorem d_9_6_67 : decode prog_9_method_6_code 67 = .ok (.aload_n 0, 1) := D_42 W_prog_9_method_6_code_64 3 rfl rfl
theorem d_9_6_68 : decode prog_9_method_6_code 68 = .ok (.getfield 22, 3) := D_180 W_prog_9_method_6_code_64 4 rfl rfl rfl
theorem d_9_6_71 : decode prog_9_method_6_code 71 = .ok (.getfield 81, 3) := D_180 W_prog_9_method_6_code_64 7 rfl rfl rfl
theorem d_9_6_74 : decode prog_9_method_6_code 74 = .ok (.iconst 4, 1) := D_7 W_prog_9_method_6_code_64 10 rfl rfl
theorem d_9_6_75 : decode prog_9_method_6_code 75 = .ok (.aaload, 1) := D_50 W_prog_9_method_6_code_64 11 rfl rfl
theorem d_9_6_76 : decode prog_9_method_6_code 76 = .ok (.aload_n 0, 1) := D_42 W_prog_9_method_6_code_64 12 rfl rfl
theorem d_9_6_77 : decode prog_9_method_6_code 77 = .ok (.getfield 91, 3) := D_180 W_prog_9_method_6_code_64 13 rfl rfl rfl
theorem d_9_6_80 : decode prog_9_method_6_code 80 = .ok (.laload, 1) := D_47 W_prog_9_method_6_code_64 16 rfl rfl
theorem d_9_6_81 : decode prog_9_method_6_code 81 = .ok (.invokevirtual 105, 3) := D_182 W_prog_9_method_6_code_64 17 rfl rfl rfl
theorem d_9_6_84 : decode prog_9_method_6_code 84 = .ok (.aload_n 0, 1) := D_42 W_prog_9_method_6_code_64 20 rfl rfl
theorem d_9_6_85 : decode prog_9_method_6_code 85 = .ok (.getfield 109, 3) := D_180 W_prog_9_method_6_code_64 21 rfl rfl rfl
theorem d_9_6_88 : decode prog_9_method_6_code 88 = .ok (.lcmp, 1) := D_148 W_prog_9_method_6_code_64 24 rfl rfl
theorem d_9_6_89 : decode prog_9_method_6_code 89 = .ok (.ifCond .ne 69, 3) := D_154 W_prog_9_method_6_code_64 25 rfl rfl rfl
theorem d_9_6_92 : decode prog_9_method_6_code 92 = .ok (.aload_n 0, 1) := D_42 W_prog_9_method_6_code_64 28 rfl rfl
theorem d_9_6_93 : decode prog_9_method_6_code 93 = .ok (.aload_n 0, 1) := D_42 W_prog_9_method_6_code_64 29 rfl rfl
theorem d_9_6_94 : decode prog_9_method_6_code 94 = .ok (.getfield 98, 3) := D_180 W_prog_9_method_6_code_64 30 rfl rfl rfl
theorem W_prog_9_method_6_code_96 : chW prog_9_method_6_code 96 [98, 42, 42, 180, 0, 22, 180, 0, 81, 8, 50, 42, 180, 0, 91, 47, 182, 0, 105, 184, 0, 102, 181, 0, 98, 42, 180, 0, 18, 42, 180, 0, 22, 180, 0, 81] := chW_of (by decide +kernel)
theorem d_9_6_97 : decode prog_9_method_6_code 97 = .ok (.aload_n 0, 1) := D_42 W_prog_9_method_6_code_96 1 rfl rfl
theorem d_9_6_98 : decode prog_9_method_6_code 98 = .ok (.aload_n 0, 1) := D_42 W_prog_9_method_6_code_96 2 rfl rfl
theorem d_9_6_99 : decode prog_9_method_6_code 99 = .ok (.getfield 22, 3) := D_180 W_prog_9_method_6_code_96 3 rfl rfl rfl
theorem d_9_6_102 : decode prog_9_method_6_code 102 = .ok (.getfield 81, 3) := D_180 W_prog_9_method_6_code_96 6 rfl rfl rfl
theorem d_9_6_105 : decode prog_9_method_6_code 105 = .ok (.iconst 5, 1) := D_8 W_prog_9_method_6_code_96 9 rfl rfl
theorem d_9_6_106 : decode prog_9_method_6_code 106 = .ok (.aaload, 1) := D_50 W_prog_9_method_6_code_96 10 rfl rfl
theorem d_9_6_107 : decode prog_9_method_6_code 107 = .ok (.aload_n 0, 1) := D_42 W_prog_9_method_6_code_96 11 rfl rfl
theorem d_9_6_108 : decode prog_9_method_6_code 108 = .ok (.getfield 91, 3) := D_180 W_prog_9_method_6_code_96 12 rfl rfl rfl
theorem d_9_6_111 : decode prog_9_method_6_code 111 = .ok (.laload, 1) := D_47 W_prog_9_method_6_code_96 15 rfl rfl
theorem d_9_6_112 : decode prog_9_method_6_code 112 = .ok (.invokevirtual 105, 3) := D_182 W_prog_9_method_6_code_96 16 rfl rfl rfl
theorem d_9_6_115 : decode prog_9_method_6_code 115 = .ok (.invokestatic 102, 3) := D_184 W_prog_9_method_6_code_96 19 rfl rfl rfl
theorem d_9_6_118 : decode prog_9_method_6_code 118 = .ok (.putfield 98, 3) := D_181 W_prog_9_method_6_code_96 22 rfl rfl rfl
theorem d_9_6_121 : decode prog_9_method_6_code 121 = .ok (.aload_n 0, 1) := D_42 W_prog_9_method_6_code_96 25 rfl rfl
theorem d_9_6_122 : decode prog_9_method_6_code 122 = .ok (.getfield 18, 3) := D_180 W_prog_9_method_6_code_96 26 rfl rfl rfl
theorem d_9_6_125 : decode prog_9_method_6_code 125 = .ok (.aload_n 0, 1) := D_42 W_prog_9_method_6_code_96 29 rfl rfl
theorem d_9_6_126 : decode prog_9_method_6_code 126 = .ok (.getfield 22, 3) := D_180 W_prog_9_method_6_code_96 30 rfl rfl rfl
theorem W_prog_9_method_6_code_128 : chW prog_9_method_6_code 128 [22, 180, 0, 81, 5, 50, 42, 180, 0, 91, 47, 136, 16, 127, 126, 4, 84, 42, 89, 180, 0, 91, 4, 96, 181, 0, 91, 167, 255, 159, 42, 180, 0, 91, 28, 162] := chW_of (by decide +kernel)
theorem d_9_6_129 : decode prog_9_method_6_code 129 = .ok (.getfield 81, 3) := D_180 W_prog_9_method_6_code_128 1 rfl rfl rfl
theorem d_9_6_132 : decode prog_9_method_6_code 132 = .ok (.iconst 2, 1) := D_5 W_prog_9_method_6_code_128 4 rfl rfl
theorem d_9_6_133 : decode prog_9_method_6_code 133 = .ok (.aaload, 1) := D_50 W_prog_9_method_6_code_128 5 rfl rfl
theorem d_9_6_134 : decode prog_9_method_6_code 134 = .ok (.aload_n 0, 1) := D_42 W_prog_9_method_6_code_128 6 rfl rfl
theorem d_9_6_135 : decode prog_9_method_6_code 135 = .ok (.getfield 91, 3) := D_180 W_prog_9_method_6_code_128 7 rfl rfl rfl
theorem d_9_6_138 : decode prog_9_method_6_code 138 = .ok (.laload, 1) := D_47 W_prog_9_method_6_code_128 10 rfl rfl
theorem d_9_6_139 : decode prog_9_method_6_code 139 = .ok (.l2i, 1) := D_136 W_prog_9_method_6_code_128 11 rfl rfl
theorem d_9_6_140 : decode prog_9_method_6_code 140 = .ok (.bipush 127, 2) := D_16 W_prog_9_method_6_code_128 12 rfl rfl rfl
theorem d_9_6_142 : decode prog_9_method_6_code 142 = .ok (.iand, 1) := D_126 W_prog_9_method_6_code_128 14 rfl rfl
theorem d_9_6_143 : decode prog_9_method_6_code 143 = .ok (.iconst 1, 1) := D_4 W_prog_9_method_6_code_128 15 rfl rfl
theorem d_9_6_144 : decode prog_9_method_6_code 144 = .ok (.bastore, 1) := D_84 W_prog_9_method_6_code_128 16 rfl rfl
theorem d_9_6_145 : decode prog_9_method_6_code 145 = .ok (.aload_n 0, 1) := D_42 W_prog_9_method_6_code_128 17 rfl rfl
theorem d_9_6_146 : decode prog_9_method_6_code 146 = .ok (.dup, 1) := D_89 W_prog_9_method_6_code_128 18 rfl rfl
theorem d_9_6_147 : decode prog_9_method_6_code 147 = .ok (.getfield 91, 3) := D_180 W_prog_9_method_6_code_128 19 rfl rfl rfl
theorem d_9_6_150 : decode prog_9_method_6_code 150 = .ok (.iconst 1, 1) := D_4 W_prog_9_method_6_code_128 22 rfl rfl
theorem d_9_6_151 : decode prog_9_method_6_code 151 = .ok (.iadd, 1) := D_96 W_prog_9_method_6_code_128 23 rfl rfl
theorem d_9_6_152 : decode prog_9_method_6_code 152 = .ok (.putfield 91, 3) := D_181 W_prog_9_method_6_code_128 24 rfl rfl rfl
theorem d_9_6_155 : decode prog_9_method_6_code 155 = .ok (.goto (-97), 3) := D_167 W_prog_9_method_6_code_128 27 rfl rfl rfl
theorem d_9_6_158 : decode prog_9_method_6_code 158 = .ok (.aload_n 0, 1) := D_42 W_prog_9_method_6_code_128 30 rfl rfl
theorem d_9_6_159 : decode prog_9_method_6_code 159 = .ok (.getfield 91, 3) := D_180 W_prog_9_method_6_code_128 31 rfl rfl rfl
theorem W_prog_9_method_6_code_160 : chW prog_9_method_6_code 160 [0, 91, 28, 162, 0, 32, 42, 42, 180, 0, 98, 42, 42, 180, 0, 22, 180, 0, 81, 7, 50, 42, 180, 0, 91, 47, 182, 0, 105, 184, 0, 112, 181, 0, 98, 177] := chW_of (by decide +kernel)
theorem d_9_6_162 : decode prog_9_method_6_code 162 = .ok (.iload_n 2, 1) := D_28 W_prog_9_method_6_code_160 2 rfl rfl
theorem d_9_6_163 : decode prog_9_method_6_code 163 = .ok (.if_icmp .ge 32, 3) := D_162 W_prog_9_method_6_code_160 3 rfl rfl rfl
theorem d_9_6_166 : decode prog_9_method_6_code 166 = .ok (.aload_n 0, 1) := D_42 W_prog_9_method_6_code_160 6 rfl rfl
theorem d_9_6_167 : decode prog_9_method_6_code 167 = .ok (.aload_n 0, 1) := D_42 W_prog_9_method_6_code_160 7 rfl rfl
theorem d_9_6_168 : decode prog_9_method_6_code 168 = .ok (.getfield 98, 3) := D_180 W_prog_9_method_6_code_160 8 rfl rfl rfl
theorem d_9_6_171 : decode prog_9_method_6_code 171 = .ok (.aload_n 0, 1) := D_42 W_prog_9_method_6_code_160 11 rfl rfl
theorem d_9_6_172 : decode prog_9_method_6_code 172 = .ok (.aload_n 0, 1) := D_42 W_prog_9_method_6_code_160 12 rfl rfl
theorem d_9_6_173 : decode prog_9_method_6_code 173 = .ok (.getfield 22, 3) := D_180 W_prog_9_method_6_code_160 13 rfl rfl rfl
theorem d_9_6_176 : decode prog_9_method_6_code 176 = .ok (.getfield 81, 3) := D_180 W_prog_9_method_6_code_160 16 rfl rfl rfl
theorem d_9_6_179 : decode prog_9_method_6_code 179 = .ok (.iconst 4, 1) := D_7 W_prog_9_method_6_code_160 19 rfl rfl
theorem d_9_6_180 : decode prog_9_method_6_code 180 = .ok (.aaload, 1) := D_50 W_prog_9_method_6_code_160 20 rfl rfl
theorem d_9_6_181 : decode prog_9_method_6_code 181 = .ok (.aload_n 0, 1) := D_42 W_prog_9_method_6_code_160 21 rfl rfl
theorem d_9_6_182 : decode prog_9_method_6_code 182 = .ok (.getfield 91, 3) := D_180 W_prog_9_method_6_code_160 22 rfl rfl rfl
theorem d_9_6_185 : decode prog_9_method_6_code 185 = .ok (.laload, 1) := D_47 W_prog_9_method_6_code_160 25 rfl rfl
theorem d_9_6_186 : decode prog_9_method_6_code 186 = .ok (.invokevirtual 105, 3) := D_182 W_prog_9_method_6_code_160 26 rfl rfl rfl
theorem d_9_6_189 : decode prog_9_method_6_code 189 = .ok (.invokestatic 112, 3) := D_184 W_prog_9_method_6_code_160 29 rfl rfl rfl
theorem W_prog_9_method_6_code_192 : chW prog_9_method_6_code 192 [181, 0, 98, 177] := chW_of (by decide +kernel)
theorem d_9_6_192 : decode prog_9_method_6_code 192 = .ok (.putfield 98, 3) := D_181 W_prog_9_method_6_code_192 0 rfl rfl rfl
theorem d_9_6_195 : decode prog_9_method_6_code 195 = .ok (.return_, 1) := D_177 W_prog_9_method_6_code_192 3 rfl rfl
theorem d_9_7_44 : decode prog_9_method_7_code 44 = .ok (.iinc 2 1, 3) := D_132 W_prog_9_method_7_code_32 12 rfl rfl rfl
theorem d_9_7_47 : decode prog_9_method_7_code 47 = .ok (.goto (-35), 3) := D_167 W_prog_9_method_7_code_32 15 rfl rfl rfl
theorem d_9_7_50 : decode prog_9_method_7_code 50 = .ok (.return_, 1) := D_177 W_prog_9_method_7_code_32 18 rfl rfl
theorem d_7_29_16 : decode prog_7_method_29_code 16 = .ok (.sipush 400, 3) := D_17 W_prog_7_method_29_code_0 16 rfl rfl rfl
theorem d_7_29_19 : decode prog_7_method_29_code 19 = .ok (.iload_n 0, 1) := D_26 W_prog_7_method_29_code_0 19 rfl rfl
theorem d_7_29_20 : decode prog_7_method_29_code 20 = .ok (.iload_n 1, 1) := D_27 W_prog_7_method_29_code_0 20 rfl rfl
theorem d_7_29_21 : decode prog_7_method_29_code 21 = .ok (.isub, 1) := D_100 W_prog_7_method_29_code_0 21 rfl rfl
theorem d_7_29_22 : decode prog_7_method_29_code 22 = .ok (.isub, 1) := D_100 W_prog_7_method_29_code_0 22 rfl rfl
theorem d_7_29_23 : decode prog_7_method_29_code 23 = .ok (.imul, 1) := D_104 W_prog_7_method_29_code_0 23 rfl rfl
theorem d_7_29_24 : decode prog_7_method_29_code 24 = .ok (.sipush 400, 3) := D_17 W_prog_7_method_29_code_0 24 rfl rfl rfl
theorem d_7_29_27 : decode prog_7_method_29_code 27 = .ok (.idiv, 1) := D_108 W_prog_7_method_29_code_0 27 rfl rfl
theorem d_7_29_5 : decode prog_7_method_29_code 5 = .ok (.iload_n 0, 1) := D_26 W_prog_7_method_29_code_0 5 rfl rfl
theorem d_7_29_6 : decode prog_7_method_29_code 6 = .ok (.invokestatic 304, 3) := D_184 W_prog_7_method_29_code_0 6 rfl rfl rfl
theorem d_7_29_9 : decode prog_7_method_29_code 9 = .ok (.goto 19, 3) := D_167 W_prog_7_method_29_code_0 9 rfl rfl rfl
theorem d_7_29_28 : decode prog_7_method_29_code 28 = .ok (.ireturn, 1) := D_172 W_prog_7_method_29_code_0 28 rfl rfl
theorem d_11_16_29 : decode prog_11_method_16_code 29 = .ok (.iadd, 1) := D_96 W_prog_11_method_16_code_0 29 rfl rfl
theorem d_11_16_30 : decode prog_11_method_16_code 30 = .ok (.istore 4, 2) := D_54 W_prog_11_method_16_code_0 30 rfl rfl
theorem W_prog_11_method_16_code_32 : chW prog_11_method_16_code 32 [21, 4, 178, 0, 180, 27, 46, 100, 42, 27, 182, 0, 150, 100, 16, 12, 184, 0, 130, 172] := chW_of (by decide +kernel)
theorem d_11_16_32 : decode prog_11_method_16_code 32 = .ok (.iload 4, 2) := D_21 W_prog_11_method_16_code_32 0 rfl rfl
theorem d_11_16_34 : decode prog_11_method_16_code 34 = .ok (.getstatic 180, 3) := D_178 W_prog_11_method_16_code_32 2 rfl rfl rfl
theorem d_11_16_37 : decode prog_11_method_16_code 37 = .ok (.iload_n 1, 1) := D_27 W_prog_11_method_16_code_32 5 rfl rfl
theorem d_11_16_38 : decode prog_11_method_16_code 38 = .ok (.iaload, 1) := D_46 W_prog_11_method_16_code_32 6 rfl rfl
theorem d_11_16_39 : decode prog_11_method_16_code 39 = .ok (.isub, 1) := D_100 W_prog_11_method_16_code_32 7 rfl rfl
theorem d_11_16_40 : decode prog_11_method_16_code 40 = .ok (.aload_n 0, 1) := D_42 W_prog_11_method_16_code_32 8 rfl rfl
theorem d_11_16_41 : decode prog_11_method_16_code 41 = .ok (.iload_n 1, 1) := D_27 W_prog_11_method_16_code_32 9 rfl rfl
theorem d_11_16_42 : decode prog_11_method_16_code 42 = .ok (.invokevirtual 150, 3) := D_182 W_prog_11_method_16_code_32 10 rfl rfl rfl
theorem d_11_16_45 : decode prog_11_method_16_code 45 = .ok (.isub, 1) := D_100 W_prog_11_method_16_code_32 13 rfl rfl
theorem d_11_16_46 : decode prog_11_method_16_code 46 = .ok (.bipush 12, 2) := D_16 W_prog_11_method_16_code_32 14 rfl rfl rfl
theorem d_11_16_48 : decode prog_11_method_16_code 48 = .ok (.invokestatic 130, 3) := D_184 W_prog_11_method_16_code_32 16 rfl rfl rfl
theorem d_11_16_51 : decode prog_11_method_16_code 51 = .ok (.ireturn, 1) := D_172 W_prog_11_method_16_code_32 19 rfl rfl
theorem d_11_16_16 : decode prog_11_method_16_code 16 = .ok (.bipush 99, 2) := D_16 W_prog_11_method_16_code_0 16 rfl rfl rfl
theorem d_11_16_18 : decode prog_11_method_16_code 18 = .ok (.ireturn, 1) := D_172 W_prog_11_method_16_code_0 18 rfl rfl
theorem d_11_17_54 : decode prog_11_method_17_code 54 = .ok (.istore 8, 2) := D_54 W_prog_11_method_17_code_32 22 rfl rfl
theorem d_11_17_56 : decode prog_11_method_17_code 56 = .ok (.iload 8, 2) := D_21 W_prog_11_method_17_code_32 24 rfl rfl
theorem d_11_17_58 : decode prog_11_method_17_code 58 = .ok (.iload_n 3, 1) := D_29 W_prog_11_method_17_code_32 26 rfl rfl
theorem d_11_17_59 : decode prog_11_method_17_code 59 = .ok (.if_icmp .lt 22, 3) := D_161 W_prog_11_method_17_code_32 27 rfl rfl rfl
theorem d_11_17_62 : decode prog_11_method_17_code 62 = .ok (.iload 8, 2) := D_21 W_prog_11_method_17_code_32 30 rfl rfl
theorem W_prog_11_method_17_code_64 : chW prog_11_method_17_code 64 [29, 160, 0, 29, 25, 6, 180, 0, 106, 21, 7, 46, 21, 4, 162, 0, 16, 21, 8, 62, 25, 6, 180, 0, 106, 21, 7, 46, 54, 4, 132, 7, 1, 167, 255, 191] := chW_of (by decide +kernel)
theorem d_11_17_64 : decode prog_11_method_17_code 64 = .ok (.iload_n 3, 1) := D_29 W_prog_11_method_17_code_64 0 rfl rfl
theorem d_11_17_65 : decode prog_11_method_17_code 65 = .ok (.if_icmp .ne 29, 3) := D_160 W_prog_11_method_17_code_64 1 rfl rfl rfl
theorem d_11_17_68 : decode prog_11_method_17_code 68 = .ok (.aload 6, 2) := D_25 W_prog_11_method_17_code_64 4 rfl rfl
theorem d_11_17_70 : decode prog_11_method_17_code 70 = .ok (.getfield 106, 3) := D_180 W_prog_11_method_17_code_64 6 rfl rfl rfl
theorem d_11_17_73 : decode prog_11_method_17_code 73 = .ok (.iload 7, 2) := D_21 W_prog_11_method_17_code_64 9 rfl rfl
theorem d_11_17_75 : decode prog_11_method_17_code 75 = .ok (.iaload, 1) := D_46 W_prog_11_method_17_code_64 11 rfl rfl
theorem d_11_17_76 : decode prog_11_method_17_code 76 = .ok (.iload 4, 2) := D_21 W_prog_11_method_17_code_64 12 rfl rfl
theorem d_11_17_78 : decode prog_11_method_17_code 78 = .ok (.if_icmp .ge 16, 3) := D_162 W_prog_11_method_17_code_64 14 rfl rfl rfl
theorem d_11_17_81 : decode prog_11_method_17_code 81 = .ok (.iload 8, 2) := D_21 W_prog_11_method_17_code_64 17 rfl rfl
theorem d_11_17_83 : decode prog_11_method_17_code 83 = .ok (.istore_n 3, 1) := D_62 W_prog_11_method_17_code_64 19 rfl rfl
theorem d_11_17_84 : decode prog_11_method_17_code 84 = .ok (.aload 6, 2) := D_25 W_prog_11_method_17_code_64 20 rfl rfl
theorem d_11_17_86 : decode prog_11_method_17_code 86 = .ok (.getfield 106, 3) := D_180 W_prog_11_method_17_code_64 22 rfl rfl rfl
theorem d_11_17_89 : decode prog_11_method_17_code 89 = .ok (.iload 7, 2) := D_21 W_prog_11_method_17_code_64 25 rfl rfl
theorem d_11_17_91 : decode prog_11_method_17_code 91 = .ok (.iaload, 1) := D_46 W_prog_11_method_17_code_64 27 rfl rfl
theorem d_11_17_92 : decode prog_11_method_17_code 92 = .ok (.istore 4, 2) := D_54 W_prog_11_method_17_code_64 28 rfl rfl
