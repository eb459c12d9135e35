theorem d_5_22_130 : decode prog_5_method_22_code 130 = .ok (.iconst 1, 1) := D_4 W_prog_5_method_22_code_128 2 rfl rfl
theorem d_5_22_131 : decode prog_5_method_22_code 131 = .ok (.bipush 8, 2) := D_16 W_prog_5_method_22_code_128 3 rfl rfl rfl
theorem d_5_22_133 : decode prog_5_method_22_code 133 = .ok (.invokevirtual 273, 3) := D_182 W_prog_5_method_22_code_128 5 rfl rfl rfl
theorem d_5_22_136 : decode prog_5_method_22_code 136 = .ok (.ifCond .eq 15, 3) := D_153 W_prog_5_method_22_code_128 8 rfl rfl rfl
theorem d_5_22_139 : decode prog_5_method_22_code 139 = .ok (.aload_n 0, 1) := D_42 W_prog_5_method_22_code_128 11 rfl rfl
theorem d_5_22_140 : decode prog_5_method_22_code 140 = .ok (.iload_n 1, 1) := D_27 W_prog_5_method_22_code_128 12 rfl rfl
theorem d_5_22_141 : decode prog_5_method_22_code 141 = .ok (.invokevirtual 184, 3) := D_182 W_prog_5_method_22_code_128 13 rfl rfl rfl
theorem d_5_22_144 : decode prog_5_method_22_code 144 = .ok (.ifCond .eq 7, 3) := D_153 W_prog_5_method_22_code_128 16 rfl rfl rfl
theorem d_5_22_147 : decode prog_5_method_22_code 147 = .ok (.iconst 1, 1) := D_4 W_prog_5_method_22_code_128 19 rfl rfl
theorem d_5_22_148 : decode prog_5_method_22_code 148 = .ok (.goto 4, 3) := D_167 W_prog_5_method_22_code_128 20 rfl rfl rfl
theorem d_5_22_25 : decode prog_5_method_22_code 25 = .ok (.aload_n 0, 1) := D_42 W_prog_5_method_22_code_0 25 rfl rfl
theorem d_5_22_26 : decode prog_5_method_22_code 26 = .ok (.iload_n 1, 1) := D_27 W_prog_5_method_22_code_0 26 rfl rfl
theorem d_5_22_27 : decode prog_5_method_22_code 27 = .ok (.invokevirtual 255, 3) := D_182 W_prog_5_method_22_code_0 27 rfl rfl rfl
theorem d_5_22_30 : decode prog_5_method_22_code 30 = .ok (.ireturn, 1) := D_172 W_prog_5_method_22_code_0 30 rfl rfl
theorem d_5_22_9 : decode prog_5_method_22_code 9 = .ok (.aload_n 0, 1) := D_42 W_prog_5_method_22_code_0 9 rfl rfl
theorem d_5_22_10 : decode prog_5_method_22_code 10 = .ok (.iload_n 1, 1) := D_27 W_prog_5_method_22_code_0 10 rfl rfl
theorem d_5_22_11 : decode prog_5_method_22_code 11 = .ok (.invokevirtual 252, 3) := D_182 W_prog_5_method_22_code_0 11 rfl rfl rfl
theorem d_5_22_14 : decode prog_5_method_22_code 14 = .ok (.ireturn, 1) := D_172 W_prog_5_method_22_code_0 14 rfl rfl
theorem d_5_22_152 : decode prog_5_method_22_code 152 = .ok (.ireturn, 1) := D_172 W_prog_5_method_22_code_128 24 rfl rfl
theorem d_5_22_151 : decode prog_5_method_22_code 151 = .ok (.iconst 0, 1) := D_3 W_prog_5_method_22_code_128 23 rfl rfl
theorem W_prog_5_method_30_code_32 : chW prog_5_method_30_code 32 [0, 238, 153, 0, 16, 42, 16, 93, 182, 0, 241, 153, 0, 7, 4, 167, 0, 4, 3, 172] := chW_of (by decide +kernel)
theorem d_5_30_34 : decode prog_5_method_30_code 34 = .ok (.ifCond .eq 16, 3) := D_153 W_prog_5_method_30_code_32 2 rfl rfl rfl
theorem d_5_30_37 : decode prog_5_method_30_code 37 = .ok (.aload_n 0, 1) := D_42 W_prog_5_method_30_code_32 5 rfl rfl
theorem d_5_30_38 : decode prog_5_method_30_code 38 = .ok (.bipush 93, 2) := D_16 W_prog_5_method_30_code_32 6 rfl rfl rfl
theorem d_5_30_40 : decode prog_5_method_30_code 40 = .ok (.invokevirtual 241, 3) := D_182 W_prog_5_method_30_code_32 8 rfl rfl rfl
theorem d_5_30_43 : decode prog_5_method_30_code 43 = .ok (.ifCond .eq 7, 3) := D_153 W_prog_5_method_30_code_32 11 rfl rfl rfl
theorem d_5_30_46 : decode prog_5_method_30_code 46 = .ok (.iconst 1, 1) := D_4 W_prog_5_method_30_code_32 14 rfl rfl
theorem d_5_30_47 : decode prog_5_method_30_code 47 = .ok (.goto 4, 3) := D_167 W_prog_5_method_30_code_32 15 rfl rfl rfl
theorem d_5_30_51 : decode prog_5_method_30_code 51 = .ok (.ireturn, 1) := D_172 W_prog_5_method_30_code_32 19 rfl rfl
theorem d_5_30_50 : decode prog_5_method_30_code 50 = .ok (.iconst 0, 1) := D_3 W_prog_5_method_30_code_32 18 rfl rfl
theorem d_5_31_27 : decode prog_5_method_31_code 27 = .ok (.ifCond .ne 5, 3) := D_154 W_prog_5_method_31_code_0 27 rfl rfl rfl
theorem W_prog_5_method_31_code_32 : chW prog_5_method_31_code 32 [42, 180, 0, 48, 20, 1, 54, 182, 0, 88, 153, 0, 11, 42, 27, 182, 1, 56, 153, 0, 7, 4, 167, 0, 4, 3, 172] := chW_of (by decide +kernel)
theorem d_5_31_32 : decode prog_5_method_31_code 32 = .ok (.aload_n 0, 1) := D_42 W_prog_5_method_31_code_32 0 rfl rfl
theorem d_5_31_33 : decode prog_5_method_31_code 33 = .ok (.getfield 48, 3) := D_180 W_prog_5_method_31_code_32 1 rfl rfl rfl
theorem d_5_31_36 : decode prog_5_method_31_code 36 = .ok (.ldc2_w 310, 3) := D_20 W_prog_5_method_31_code_32 4 rfl rfl rfl
theorem d_5_31_39 : decode prog_5_method_31_code 39 = .ok (.invokevirtual 88, 3) := D_182 W_prog_5_method_31_code_32 7 rfl rfl rfl
theorem d_5_31_42 : decode prog_5_method_31_code 42 = .ok (.ifCond .eq 11, 3) := D_153 W_prog_5_method_31_code_32 10 rfl rfl rfl
theorem d_5_31_45 : decode prog_5_method_31_code 45 = .ok (.aload_n 0, 1) := D_42 W_prog_5_method_31_code_32 13 rfl rfl
theorem d_5_31_46 : decode prog_5_method_31_code 46 = .ok (.iload_n 1, 1) := D_27 W_prog_5_method_31_code_32 14 rfl rfl
theorem d_5_31_47 : decode prog_5_method_31_code 47 = .ok (.invokevirtual 312, 3) := D_182 W_prog_5_method_31_code_32 15 rfl rfl rfl
theorem d_5_31_50 : decode prog_5_method_31_code 50 = .ok (.ifCond .eq 7, 3) := D_153 W_prog_5_method_31_code_32 18 rfl rfl rfl
theorem d_5_31_57 : decode prog_5_method_31_code 57 = .ok (.iconst 0, 1) := D_3 W_prog_5_method_31_code_32 25 rfl rfl
theorem d_5_31_30 : decode prog_5_method_31_code 30 = .ok (.iconst 0, 1) := D_3 W_prog_5_method_31_code_0 30 rfl rfl
theorem d_5_31_31 : decode prog_5_method_31_code 31 = .ok (.ireturn, 1) := D_172 W_prog_5_method_31_code_0 31 rfl rfl
theorem d_5_31_10 : decode prog_5_method_31_code 10 = .ok (.iconst 0, 1) := D_3 W_prog_5_method_31_code_0 10 rfl rfl
theorem d_5_31_11 : decode prog_5_method_31_code 11 = .ok (.ireturn, 1) := D_172 W_prog_5_method_31_code_0 11 rfl rfl
theorem d_5_31_53 : decode prog_5_method_31_code 53 = .ok (.iconst 1, 1) := D_4 W_prog_5_method_31_code_32 21 rfl rfl
theorem d_5_31_54 : decode prog_5_method_31_code 54 = .ok (.goto 4, 3) := D_167 W_prog_5_method_31_code_32 22 rfl rfl rfl
theorem d_5_31_58 : decode prog_5_method_31_code 58 = .ok (.ireturn, 1) := D_172 W_prog_5_method_31_code_32 26 rfl rfl
theorem d_5_32_76 : decode prog_5_method_32_code 76 = .ok (.ifCond .ne 5, 3) := D_154 W_prog_5_method_32_code_64 12 rfl rfl rfl
theorem d_5_32_81 : decode prog_5_method_32_code 81 = .ok (.iinc 3 1, 3) := D_132 W_prog_5_method_32_code_64 17 rfl rfl rfl
theorem d_5_32_84 : decode prog_5_method_32_code 84 = .ok (.goto (-73), 3) := D_167 W_prog_5_method_32_code_64 20 rfl rfl rfl
theorem d_5_32_79 : decode prog_5_method_32_code 79 = .ok (.iconst 0, 1) := D_3 W_prog_5_method_32_code_64 15 rfl rfl
theorem d_5_32_80 : decode prog_5_method_32_code 80 = .ok (.ireturn, 1) := D_172 W_prog_5_method_32_code_64 16 rfl rfl
theorem d_5_32_87 : decode prog_5_method_32_code 87 = .ok (.iconst 1, 1) := D_4 W_prog_5_method_32_code_64 23 rfl rfl
theorem d_5_32_88 : decode prog_5_method_32_code 88 = .ok (.ireturn, 1) := D_172 W_prog_5_method_32_code_64 24 rfl rfl
theorem d_5_34_115 : decode prog_5_method_34_code 115 = .ok (.ireturn, 1) := D_172 W_prog_5_method_34_code_96 19 rfl rfl
theorem d_5_34_56 : decode prog_5_method_34_code 56 = .ok (.aload_n 0, 1) := D_42 W_prog_5_method_34_code_32 24 rfl rfl
theorem d_5_34_57 : decode prog_5_method_34_code 57 = .ok (.iconst 2, 1) := D_5 W_prog_5_method_34_code_32 25 rfl rfl
theorem d_5_34_58 : decode prog_5_method_34_code 58 = .ok (.invokevirtual 101, 3) := D_182 W_prog_5_method_34_code_32 26 rfl rfl rfl
theorem d_5_34_61 : decode prog_5_method_34_code 61 = .ok (.ireturn, 1) := D_172 W_prog_5_method_34_code_32 29 rfl rfl
theorem d_5_34_11 : decode prog_5_method_34_code 11 = .ok (.aload_n 0, 1) := D_42 W_prog_5_method_34_code_0 11 rfl rfl
theorem d_5_34_12 : decode prog_5_method_34_code 12 = .ok (.iconst 2, 1) := D_5 W_prog_5_method_34_code_0 12 rfl rfl
theorem d_5_34_13 : decode prog_5_method_34_code 13 = .ok (.invokevirtual 101, 3) := D_182 W_prog_5_method_34_code_0 13 rfl rfl rfl
theorem d_5_34_16 : decode prog_5_method_34_code 16 = .ok (.ireturn, 1) := D_172 W_prog_5_method_34_code_0 16 rfl rfl
theorem d_5_35_70 : decode prog_5_method_35_code 70 = .ok (.ireturn, 1) := D_172 W_prog_5_method_35_code_64 6 rfl rfl
theorem d_5_35_11 : decode prog_5_method_35_code 11 = .ok (.aload_n 0, 1) := D_42 W_prog_5_method_35_code_0 11 rfl rfl
theorem d_5_35_12 : decode prog_5_method_35_code 12 = .ok (.iconst 2, 1) := D_5 W_prog_5_method_35_code_0 12 rfl rfl
theorem d_5_35_13 : decode prog_5_method_35_code 13 = .ok (.invokevirtual 101, 3) := D_182 W_prog_5_method_35_code_0 13 rfl rfl rfl
theorem d_5_35_16 : decode prog_5_method_35_code 16 = .ok (.ireturn, 1) := D_172 W_prog_5_method_35_code_0 16 rfl rfl
theorem d_5_9_77 : decode prog_5_method_9_code 77 = .ok (.ifCond .ne 5, 3) := D_154 W_prog_5_method_9_code_64 13 rfl rfl rfl
theorem d_5_9_82 : decode prog_5_method_9_code 82 = .ok (.aload_n 0, 1) := D_42 W_prog_5_method_9_code_64 18 rfl rfl
theorem d_5_9_83 : decode prog_5_method_9_code 83 = .ok (.getfield 52, 3) := D_180 W_prog_5_method_9_code_64 19 rfl rfl rfl
theorem d_5_9_86 : decode prog_5_method_9_code 86 = .ok (.aload_n 0, 1) := D_42 W_prog_5_method_9_code_64 22 rfl rfl
theorem d_5_9_87 : decode prog_5_method_9_code 87 = .ok (.getfield 66, 3) := D_180 W_prog_5_method_9_code_64 23 rfl rfl rfl
theorem d_5_9_90 : decode prog_5_method_9_code 90 = .ok (.lload_n 2, 1) := D_32 W_prog_5_method_9_code_64 26 rfl rfl
theorem d_5_9_91 : decode prog_5_method_9_code 91 = .ok (.lastore, 1) := D_80 W_prog_5_method_9_code_64 27 rfl rfl
theorem d_5_9_92 : decode prog_5_method_9_code 92 = .ok (.aload_n 0, 1) := D_42 W_prog_5_method_9_code_64 28 rfl rfl
theorem d_5_9_93 : decode prog_5_method_9_code 93 = .ok (.getfield 56, 3) := D_180 W_prog_5_method_9_code_64 29 rfl rfl rfl
theorem W_prog_5_method_9_code_96 : chW prog_5_method_9_code 96 [42, 180, 0, 66, 27, 79, 42, 89, 180, 0, 66, 4, 96, 181, 0, 66, 4, 172] := chW_of (by decide +kernel)
theorem d_5_9_96 : decode prog_5_method_9_code 96 = .ok (.aload_n 0, 1) := D_42 W_prog_5_method_9_code_96 0 rfl rfl
theorem d_5_9_97 : decode prog_5_method_9_code 97 = .ok (.getfield 66, 3) := D_180 W_prog_5_method_9_code_96 1 rfl rfl rfl
theorem d_5_9_100 : decode prog_5_method_9_code 100 = .ok (.iload_n 1, 1) := D_27 W_prog_5_method_9_code_96 4 rfl rfl
theorem d_5_9_101 : decode prog_5_method_9_code 101 = .ok (.iastore, 1) := D_79 W_prog_5_method_9_code_96 5 rfl rfl
theorem d_5_9_102 : decode prog_5_method_9_code 102 = .ok (.aload_n 0, 1) := D_42 W_prog_5_method_9_code_96 6 rfl rfl
theorem d_5_9_103 : decode prog_5_method_9_code 103 = .ok (.dup, 1) := D_89 W_prog_5_method_9_code_96 7 rfl rfl
theorem d_5_9_104 : decode prog_5_method_9_code 104 = .ok (.getfield 66, 3) := D_180 W_prog_5_method_9_code_96 8 rfl rfl rfl
theorem d_5_9_107 : decode prog_5_method_9_code 107 = .ok (.iconst 1, 1) := D_4 W_prog_5_method_9_code_96 11 rfl rfl
theorem d_5_9_108 : decode prog_5_method_9_code 108 = .ok (.iadd, 1) := D_96 W_prog_5_method_9_code_96 12 rfl rfl
theorem d_5_9_109 : decode prog_5_method_9_code 109 = .ok (.putfield 66, 3) := D_181 W_prog_5_method_9_code_96 13 rfl rfl rfl
theorem d_5_9_112 : decode prog_5_method_9_code 112 = .ok (.iconst 1, 1) := D_4 W_prog_5_method_9_code_96 16 rfl rfl
theorem d_5_9_113 : decode prog_5_method_9_code 113 = .ok (.ireturn, 1) := D_172 W_prog_5_method_9_code_96 17 rfl rfl
theorem d_5_9_44 : decode prog_5_method_9_code 44 = .ok (.aload_n 0, 1) := D_42 W_prog_5_method_9_code_32 12 rfl rfl
theorem d_5_9_45 : decode prog_5_method_9_code 45 = .ok (.iconst 4, 1) := D_7 W_prog_5_method_9_code_32 13 rfl rfl
theorem d_5_9_46 : decode prog_5_method_9_code 46 = .ok (.invokevirtual 101, 3) := D_182 W_prog_5_method_9_code_32 14 rfl rfl rfl
theorem d_5_9_49 : decode prog_5_method_9_code 49 = .ok (.ireturn, 1) := D_172 W_prog_5_method_9_code_32 17 rfl rfl
theorem d_5_9_21 : decode prog_5_method_9_code 21 = .ok (.aload_n 0, 1) := D_42 W_prog_5_method_9_code_0 21 rfl rfl
theorem d_5_9_22 : decode prog_5_method_9_code 22 = .ok (.iconst 2, 1) := D_5 W_prog_5_method_9_code_0 22 rfl rfl
theorem d_5_9_23 : decode prog_5_method_9_code 23 = .ok (.invokevirtual 101, 3) := D_182 W_prog_5_method_9_code_0 23 rfl rfl rfl
theorem d_5_9_26 : decode prog_5_method_9_code 26 = .ok (.ireturn, 1) := D_172 W_prog_5_method_9_code_0 26 rfl rfl
theorem d_5_9_80 : decode prog_5_method_9_code 80 = .ok (.iconst 0, 1) := D_3 W_prog_5_method_9_code_64 16 rfl rfl
theorem d_5_9_81 : decode prog_5_method_9_code 81 = .ok (.ireturn, 1) := D_172 W_prog_5_method_9_code_64 17 rfl rfl
theorem d_13_4_57 : decode prog_13_method_4_code 57 = .ok (.aload_n 0, 1) := D_42 W_prog_13_method_4_code_32 25 rfl rfl
theorem d_13_4_58 : decode prog_13_method_4_code 58 = .ok (.getfield 24, 3) := D_180 W_prog_13_method_4_code_32 26 rfl rfl rfl
theorem d_13_4_61 : decode prog_13_method_4_code 61 = .ok (.getfield 105, 3) := D_180 W_prog_13_method_4_code_32 29 rfl rfl rfl
theorem W_prog_13_method_4_code_64 : chW prog_13_method_4_code 64 [29, 46, 62, 132, 4, 1, 167, 255, 191, 177] := chW_of (by decide +kernel)
theorem d_13_4_64 : decode prog_13_method_4_code 64 = .ok (.iload_n 3, 1) := D_29 W_prog_13_method_4_code_64 0 rfl rfl
theorem d_13_4_65 : decode prog_13_method_4_code 65 = .ok (.iaload, 1) := D_46 W_prog_13_method_4_code_64 1 rfl rfl
theorem d_13_4_66 : decode prog_13_method_4_code 66 = .ok (.istore_n 3, 1) := D_62 W_prog_13_method_4_code_64 2 rfl rfl
theorem d_13_4_67 : decode prog_13_method_4_code 67 = .ok (.iinc 4 1, 3) := D_132 W_prog_13_method_4_code_64 3 rfl rfl rfl
theorem d_13_4_70 : decode prog_13_method_4_code 70 = .ok (.goto (-65), 3) := D_167 W_prog_13_method_4_code_64 6 rfl rfl rfl
theorem d_13_4_73 : decode prog_13_method_4_code 73 = .ok (.return_, 1) := D_177 W_prog_13_method_4_code_64 9 rfl rfl
theorem d_13_6_150 : decode prog_13_method_6_code 150 = .ok (.goto 135, 3) := D_167 W_prog_13_method_6_code_128 22 rfl rfl rfl
theorem d_13_6_153 : decode prog_13_method_6_code 153 = .ok (.aload_n 0, 1) := D_42 W_prog_13_method_6_code_128 25 rfl rfl
theorem d_13_6_154 : decode prog_13_method_6_code 154 = .ok (.iload_n 1, 1) := D_27 W_prog_13_method_6_code_128 26 rfl rfl
theorem d_13_6_155 : decode prog_13_method_6_code 155 = .ok (.iload_n 2, 1) := D_28 W_prog_13_method_6_code_128 27 rfl rfl
theorem d_13_6_156 : decode prog_13_method_6_code 156 = .ok (.invokevirtual 123, 3) := D_182 W_prog_13_method_6_code_128 28 rfl rfl rfl
theorem d_13_6_159 : decode prog_13_method_6_code 159 = .ok (.goto 126, 3) := D_167 W_prog_13_method_6_code_128 31 rfl rfl rfl
theorem W_prog_13_method_6_code_160 : chW prog_13_method_6_code 160 [0, 126, 42, 42, 180, 0, 24, 180, 0, 81, 42, 180, 0, 24, 180, 0, 117, 27, 46, 46, 28, 4, 96, 182, 0, 91, 167, 0, 99, 42, 4, 27, 28, 182, 0, 126] := chW_of (by decide +kernel)
theorem d_13_6_162 : decode prog_13_method_6_code 162 = .ok (.aload_n 0, 1) := D_42 W_prog_13_method_6_code_160 2 rfl rfl
theorem d_13_6_163 : decode prog_13_method_6_code 163 = .ok (.aload_n 0, 1) := D_42 W_prog_13_method_6_code_160 3 rfl rfl
theorem d_13_6_164 : decode prog_13_method_6_code 164 = .ok (.getfield 24, 3) := D_180 W_prog_13_method_6_code_160 4 rfl rfl rfl
theorem d_13_6_167 : decode prog_13_method_6_code 167 = .ok (.getfield 81, 3) := D_180 W_prog_13_method_6_code_160 7 rfl rfl rfl
theorem d_13_6_170 : decode prog_13_method_6_code 170 = .ok (.aload_n 0, 1) := D_42 W_prog_13_method_6_code_160 10 rfl rfl
theorem d_13_6_171 : decode prog_13_method_6_code 171 = .ok (.getfield 24, 3) := D_180 W_prog_13_method_6_code_160 11 rfl rfl rfl
theorem d_13_6_174 : decode prog_13_method_6_code 174 = .ok (.getfield 117, 3) := D_180 W_prog_13_method_6_code_160 14 rfl rfl rfl
theorem d_13_6_177 : decode prog_13_method_6_code 177 = .ok (.iload_n 1, 1) := D_27 W_prog_13_method_6_code_160 17 rfl rfl
theorem d_13_6_178 : decode prog_13_method_6_code 178 = .ok (.iaload, 1) := D_46 W_prog_13_method_6_code_160 18 rfl rfl
theorem d_13_6_179 : decode prog_13_method_6_code 179 = .ok (.iaload, 1) := D_46 W_prog_13_method_6_code_160 19 rfl rfl
theorem d_13_6_180 : decode prog_13_method_6_code 180 = .ok (.iload_n 2, 1) := D_28 W_prog_13_method_6_code_160 20 rfl rfl
theorem d_13_6_181 : decode prog_13_method_6_code 181 = .ok (.iconst 1, 1) := D_4 W_prog_13_method_6_code_160 21 rfl rfl
theorem d_13_6_182 : decode prog_13_method_6_code 182 = .ok (.iadd, 1) := D_96 W_prog_13_method_6_code_160 22 rfl rfl
theorem d_13_6_183 : decode prog_13_method_6_code 183 = .ok (.invokevirtual 91, 3) := D_182 W_prog_13_method_6_code_160 23 rfl rfl rfl
theorem d_13_6_186 : decode prog_13_method_6_code 186 = .ok (.goto 99, 3) := D_167 W_prog_13_method_6_code_160 26 rfl rfl rfl
theorem d_13_6_189 : decode prog_13_method_6_code 189 = .ok (.aload_n 0, 1) := D_42 W_prog_13_method_6_code_160 29 rfl rfl
theorem d_13_6_190 : decode prog_13_method_6_code 190 = .ok (.iconst 1, 1) := D_4 W_prog_13_method_6_code_160 30 rfl rfl
theorem d_13_6_191 : decode prog_13_method_6_code 191 = .ok (.iload_n 1, 1) := D_27 W_prog_13_method_6_code_160 31 rfl rfl
theorem W_prog_13_method_6_code_192 : chW prog_13_method_6_code 192 [28, 182, 0, 126, 167, 0, 89, 42, 2, 27, 28, 182, 0, 126, 167, 0, 79, 42, 29, 28, 182, 0, 130, 167, 0, 70, 42, 42, 180, 0, 24, 180, 0, 117, 27, 46] := chW_of (by decide +kernel)
theorem d_13_6_192 : decode prog_13_method_6_code 192 = .ok (.iload_n 2, 1) := D_28 W_prog_13_method_6_code_192 0 rfl rfl
theorem d_13_6_193 : decode prog_13_method_6_code 193 = .ok (.invokevirtual 126, 3) := D_182 W_prog_13_method_6_code_192 1 rfl rfl rfl
theorem d_13_6_196 : decode prog_13_method_6_code 196 = .ok (.goto 89, 3) := D_167 W_prog_13_method_6_code_192 4 rfl rfl rfl
theorem d_13_6_199 : decode prog_13_method_6_code 199 = .ok (.aload_n 0, 1) := D_42 W_prog_13_method_6_code_192 7 rfl rfl
theorem d_13_6_200 : decode prog_13_method_6_code 200 = .ok (.iconst (-1), 1) := D_2 W_prog_13_method_6_code_192 8 rfl rfl
theorem d_13_6_201 : decode prog_13_method_6_code 201 = .ok (.iload_n 1, 1) := D_27 W_prog_13_method_6_code_192 9 rfl rfl
theorem d_13_6_202 : decode prog_13_method_6_code 202 = .ok (.iload_n 2, 1) := D_28 W_prog_13_method_6_code_192 10 rfl rfl
theorem d_13_6_203 : decode prog_13_method_6_code 203 = .ok (.invokevirtual 126, 3) := D_182 W_prog_13_method_6_code_192 11 rfl rfl rfl
theorem d_13_6_206 : decode prog_13_method_6_code 206 = .ok (.goto 79, 3) := D_167 W_prog_13_method_6_code_192 14 rfl rfl rfl
theorem d_13_6_209 : decode prog_13_method_6_code 209 = .ok (.aload_n 0, 1) := D_42 W_prog_13_method_6_code_192 17 rfl rfl
theorem d_13_6_210 : decode prog_13_method_6_code 210 = .ok (.iload_n 3, 1) := D_29 W_prog_13_method_6_code_192 18 rfl rfl
theorem d_13_6_211 : decode prog_13_method_6_code 211 = .ok (.iload_n 2, 1) := D_28 W_prog_13_method_6_code_192 19 rfl rfl
theorem d_13_6_212 : decode prog_13_method_6_code 212 = .ok (.invokevirtual 130, 3) := D_182 W_prog_13_method_6_code_192 20 rfl rfl rfl
theorem d_13_6_215 : decode prog_13_method_6_code 215 = .ok (.goto 70, 3) := D_167 W_prog_13_method_6_code_192 23 rfl rfl rfl
theorem d_13_6_218 : decode prog_13_method_6_code 218 = .ok (.aload_n 0, 1) := D_42 W_prog_13_method_6_code_192 26 rfl rfl
theorem d_13_6_219 : decode prog_13_method_6_code 219 = .ok (.aload_n 0, 1) := D_42 W_prog_13_method_6_code_192 27 rfl rfl
theorem d_13_6_220 : decode prog_13_method_6_code 220 = .ok (.getfield 24, 3) := D_180 W_prog_13_method_6_code_192 28 rfl rfl rfl
theorem d_13_6_223 : decode prog_13_method_6_code 223 = .ok (.getfield 117, 3) := D_180 W_prog_13_method_6_code_192 31 rfl rfl rfl
theorem W_prog_13_method_6_code_224 : chW prog_13_method_6_code 224 [0, 117, 27, 46, 4, 182, 0, 133, 42, 42, 180, 0, 24, 180, 0, 136, 27, 46, 2, 182, 0, 133, 42, 29, 28, 4, 96, 182, 0, 91, 42, 42, 180, 0, 24, 180] := chW_of (by decide +kernel)
theorem d_13_6_226 : decode prog_13_method_6_code 226 = .ok (.iload_n 1, 1) := D_27 W_prog_13_method_6_code_224 2 rfl rfl
theorem d_13_6_227 : decode prog_13_method_6_code 227 = .ok (.iaload, 1) := D_46 W_prog_13_method_6_code_224 3 rfl rfl
theorem d_13_6_228 : decode prog_13_method_6_code 228 = .ok (.iconst 1, 1) := D_4 W_prog_13_method_6_code_224 4 rfl rfl
theorem d_13_6_229 : decode prog_13_method_6_code 229 = .ok (.invokevirtual 133, 3) := D_182 W_prog_13_method_6_code_224 5 rfl rfl rfl
theorem d_13_6_232 : decode prog_13_method_6_code 232 = .ok (.aload_n 0, 1) := D_42 W_prog_13_method_6_code_224 8 rfl rfl
theorem d_13_6_233 : decode prog_13_method_6_code 233 = .ok (.aload_n 0, 1) := D_42 W_prog_13_method_6_code_224 9 rfl rfl
theorem d_13_6_234 : decode prog_13_method_6_code 234 = .ok (.getfield 24, 3) := D_180 W_prog_13_method_6_code_224 10 rfl rfl rfl
theorem d_13_6_237 : decode prog_13_method_6_code 237 = .ok (.getfield 136, 3) := D_180 W_prog_13_method_6_code_224 13 rfl rfl rfl
theorem d_13_6_240 : decode prog_13_method_6_code 240 = .ok (.iload_n 1, 1) := D_27 W_prog_13_method_6_code_224 16 rfl rfl
theorem d_13_6_241 : decode prog_13_method_6_code 241 = .ok (.iaload, 1) := D_46 W_prog_13_method_6_code_224 17 rfl rfl
theorem d_13_6_242 : decode prog_13_method_6_code 242 = .ok (.iconst (-1), 1) := D_2 W_prog_13_method_6_code_224 18 rfl rfl
theorem d_13_6_243 : decode prog_13_method_6_code 243 = .ok (.invokevirtual 133, 3) := D_182 W_prog_13_method_6_code_224 19 rfl rfl rfl
theorem d_13_6_246 : decode prog_13_method_6_code 246 = .ok (.aload_n 0, 1) := D_42 W_prog_13_method_6_code_224 22 rfl rfl
theorem d_13_6_247 : decode prog_13_method_6_code 247 = .ok (.iload_n 3, 1) := D_29 W_prog_13_method_6_code_224 23 rfl rfl
theorem d_13_6_248 : decode prog_13_method_6_code 248 = .ok (.iload_n 2, 1) := D_28 W_prog_13_method_6_code_224 24 rfl rfl
theorem d_13_6_249 : decode prog_13_method_6_code 249 = .ok (.iconst 1, 1) := D_4 W_prog_13_method_6_code_224 25 rfl rfl
theorem d_13_6_250 : decode prog_13_method_6_code 250 = .ok (.iadd, 1) := D_96 W_prog_13_method_6_code_224 26 rfl rfl
theorem d_13_6_251 : decode prog_13_method_6_code 251 = .ok (.invokevirtual 91, 3) := D_182 W_prog_13_method_6_code_224 27 rfl rfl rfl
theorem d_13_6_254 : decode prog_13_method_6_code 254 = .ok (.aload_n 0, 1) := D_42 W_prog_13_method_6_code_224 30 rfl rfl
theorem d_13_6_255 : decode prog_13_method_6_code 255 = .ok (.aload_n 0, 1) := D_42 W_prog_13_method_6_code_224 31 rfl rfl
theorem W_prog_13_method_6_code_256 : chW prog_13_method_6_code 256 [180, 0, 24, 180, 0, 117, 27, 46, 2, 182, 0, 133, 42, 42, 180, 0, 24, 180, 0, 136, 27, 46, 4, 182, 0, 133, 167, 0, 3, 177] := chW_of (by decide +kernel)
theorem d_13_6_256 : decode prog_13_method_6_code 256 = .ok (.getfield 24, 3) := D_180 W_prog_13_method_6_code_256 0 rfl rfl rfl
theorem d_13_6_259 : decode prog_13_method_6_code 259 = .ok (.getfield 117, 3) := D_180 W_prog_13_method_6_code_256 3 rfl rfl rfl
theorem d_13_6_262 : decode prog_13_method_6_code 262 = .ok (.iload_n 1, 1) := D_27 W_prog_13_method_6_code_256 6 rfl rfl
theorem d_13_6_263 : decode prog_13_method_6_code 263 = .ok (.iaload, 1) := D_46 W_prog_13_method_6_code_256 7 rfl rfl
theorem d_13_6_264 : decode prog_13_method_6_code 264 = .ok (.iconst (-1), 1) := D_2 W_prog_13_method_6_code_256 8 rfl rfl
theorem d_13_6_265 : decode prog_13_method_6_code 265 = .ok (.invokevirtual 133, 3) := D_182 W_prog_13_method_6_code_256 9 rfl rfl rfl
theorem d_13_6_268 : decode prog_13_method_6_code 268 = .ok (.aload_n 0, 1) := D_42 W_prog_13_method_6_code_256 12 rfl rfl
theorem d_13_6_269 : decode prog_13_method_6_code 269 = .ok (.aload_n 0, 1) := D_42 W_prog_13_method_6_code_256 13 rfl rfl
theorem d_13_6_270 : decode prog_13_method_6_code 270 = .ok (.getfield 24, 3) := D_180 W_prog_13_method_6_code_256 14 rfl rfl rfl
theorem d_13_6_273 : decode prog_13_method_6_code 273 = .ok (.getfield 136, 3) := D_180 W_prog_13_method_6_code_256 17 rfl rfl rfl
theorem d_13_6_276 : decode prog_13_method_6_code 276 = .ok (.iload_n 1, 1) := D_27 W_prog_13_method_6_code_256 20 rfl rfl
theorem d_13_6_277 : decode prog_13_method_6_code 277 = .ok (.iaload, 1) := D_46 W_prog_13_method_6_code_256 21 rfl rfl
theorem d_13_6_278 : decode prog_13_method_6_code 278 = .ok (.iconst 1, 1) := D_4 W_prog_13_method_6_code_256 22 rfl rfl
theorem d_13_6_279 : decode prog_13_method_6_code 279 = .ok (.invokevirtual 133, 3) := D_182 W_prog_13_method_6_code_256 23 rfl rfl rfl
theorem d_13_6_282 : decode prog_13_method_6_code 282 = .ok (.goto 3, 3) := D_167 W_prog_13_method_6_code_256 26 rfl rfl rfl
theorem d_13_6_285 : decode prog_13_method_6_code 285 = .ok (.return_, 1) := D_177 W_prog_13_method_6_code_256 29 rfl rfl
theorem d_13_7_111 : decode prog_13_method_7_code 111 = .ok (.aload_n 0, 1) := D_42 W_prog_13_method_7_code_96 15 rfl rfl
theorem d_13_7_112 : decode prog_13_method_7_code 112 = .ok (.dup, 1) := D_89 W_prog_13_method_7_code_96 16 rfl rfl
theorem d_13_7_113 : decode prog_13_method_7_code 113 = .ok (.getfield 45, 3) := D_180 W_prog_13_method_7_code_96 17 rfl rfl rfl
theorem d_13_7_116 : decode prog_13_method_7_code 116 = .ok (.iconst 1, 1) := D_4 W_prog_13_method_7_code_96 20 rfl rfl
theorem d_13_7_117 : decode prog_13_method_7_code 117 = .ok (.isub, 1) := D_100 W_prog_13_method_7_code_96 21 rfl rfl
theorem d_13_7_118 : decode prog_13_method_7_code 118 = .ok (.putfield 45, 3) := D_181 W_prog_13_method_7_code_96 22 rfl rfl rfl
theorem d_13_7_121 : decode prog_13_method_7_code 121 = .ok (.aload_n 0, 1) := D_42 W_prog_13_method_7_code_96 25 rfl rfl
theorem d_13_7_122 : decode prog_13_method_7_code 122 = .ok (.iload_n 3, 1) := D_29 W_prog_13_method_7_code_96 26 rfl rfl
theorem d_13_7_123 : decode prog_13_method_7_code 123 = .ok (.putfield 54, 3) := D_181 W_prog_13_method_7_code_96 27 rfl rfl rfl
theorem d_13_7_126 : decode prog_13_method_7_code 126 = .ok (.aload_n 0, 1) := D_42 W_prog_13_method_7_code_96 30 rfl rfl
theorem d_13_7_127 : decode prog_13_method_7_code 127 = .ok (.iload 4, 2) := D_21 W_prog_13_method_7_code_96 31 rfl rfl
theorem W_prog_13_method_7_code_128 : chW prog_13_method_7_code 128 [4, 181, 0, 57, 177] := chW_of (by decide +kernel)
theorem d_13_7_129 : decode prog_13_method_7_code 129 = .ok (.putfield 57, 3) := D_181 W_prog_13_method_7_code_128 1 rfl rfl rfl
theorem d_13_7_132 : decode prog_13_method_7_code 132 = .ok (.return_, 1) := D_177 W_prog_13_method_7_code_128 4 rfl rfl
theorem d_13_8_63 : decode prog_13_method_8_code 63 = .ok (.iload_n 3, 1) := D_29 W_prog_13_method_8_code_32 31 rfl rfl
theorem W_prog_13_method_8_code_64 : chW prog_13_method_8_code 64 [2, 159, 0, 56, 42, 42, 180, 0, 24, 180, 0, 95, 27, 46, 182, 0, 98, 42, 42, 180, 0, 24, 180, 0, 81, 29, 46, 28, 4, 96, 182, 0, 91, 42, 180, 0] := chW_of (by decide +kernel)
theorem d_13_8_64 : decode prog_13_method_8_code 64 = .ok (.iconst (-1), 1) := D_2 W_prog_13_method_8_code_64 0 rfl rfl
theorem d_13_8_65 : decode prog_13_method_8_code 65 = .ok (.if_icmp .eq 56, 3) := D_159 W_prog_13_method_8_code_64 1 rfl rfl rfl
theorem d_13_8_68 : decode prog_13_method_8_code 68 = .ok (.aload_n 0, 1) := D_42 W_prog_13_method_8_code_64 4 rfl rfl
theorem d_13_8_69 : decode prog_13_method_8_code 69 = .ok (.aload_n 0, 1) := D_42 W_prog_13_method_8_code_64 5 rfl rfl
theorem d_13_8_70 : decode prog_13_method_8_code 70 = .ok (.getfield 24, 3) := D_180 W_prog_13_method_8_code_64 6 rfl rfl rfl
theorem d_13_8_73 : decode prog_13_method_8_code 73 = .ok (.getfield 95, 3) := D_180 W_prog_13_method_8_code_64 9 rfl rfl rfl
theorem d_13_8_76 : decode prog_13_method_8_code 76 = .ok (.iload_n 1, 1) := D_27 W_prog_13_method_8_code_64 12 rfl rfl
theorem d_13_8_77 : decode prog_13_method_8_code 77 = .ok (.iaload, 1) := D_46 W_prog_13_method_8_code_64 13 rfl rfl
theorem d_13_8_78 : decode prog_13_method_8_code 78 = .ok (.invokevirtual 98, 3) := D_182 W_prog_13_method_8_code_64 14 rfl rfl rfl
theorem d_13_8_81 : decode prog_13_method_8_code 81 = .ok (.aload_n 0, 1) := D_42 W_prog_13_method_8_code_64 17 rfl rfl
theorem d_13_8_82 : decode prog_13_method_8_code 82 = .ok (.aload_n 0, 1) := D_42 W_prog_13_method_8_code_64 18 rfl rfl
theorem d_13_8_83 : decode prog_13_method_8_code 83 = .ok (.getfield 24, 3) := D_180 W_prog_13_method_8_code_64 19 rfl rfl rfl
theorem d_13_8_86 : decode prog_13_method_8_code 86 = .ok (.getfield 81, 3) := D_180 W_prog_13_method_8_code_64 22 rfl rfl rfl
theorem d_13_8_89 : decode prog_13_method_8_code 89 = .ok (.iload_n 3, 1) := D_29 W_prog_13_method_8_code_64 25 rfl rfl
theorem d_13_8_90 : decode prog_13_method_8_code 90 = .ok (.iaload, 1) := D_46 W_prog_13_method_8_code_64 26 rfl rfl
theorem d_13_8_91 : decode prog_13_method_8_code 91 = .ok (.iload_n 2, 1) := D_28 W_prog_13_method_8_code_64 27 rfl rfl
theorem d_13_8_92 : decode prog_13_method_8_code 92 = .ok (.iconst 1, 1) := D_4 W_prog_13_method_8_code_64 28 rfl rfl
theorem d_13_8_93 : decode prog_13_method_8_code 93 = .ok (.iadd, 1) := D_96 W_prog_13_method_8_code_64 29 rfl rfl
theorem d_13_8_94 : decode prog_13_method_8_code 94 = .ok (.invokevirtual 91, 3) := D_182 W_prog_13_method_8_code_64 30 rfl rfl rfl
theorem W_prog_13_method_8_code_96 : chW prog_13_method_8_code 96 [91, 42, 180, 0, 24, 180, 0, 105, 29, 46, 54, 5, 21, 5, 2, 160, 0, 7, 29, 167, 0, 5, 21, 5, 62, 132, 4, 1, 167, 255, 145, 177] := chW_of (by decide +kernel)
theorem d_13_8_97 : decode prog_13_method_8_code 97 = .ok (.aload_n 0, 1) := D_42 W_prog_13_method_8_code_96 1 rfl rfl
theorem d_13_8_98 : decode prog_13_method_8_code 98 = .ok (.getfield 24, 3) := D_180 W_prog_13_method_8_code_96 2 rfl rfl rfl
theorem d_13_8_101 : decode prog_13_method_8_code 101 = .ok (.getfield 105, 3) := D_180 W_prog_13_method_8_code_96 5 rfl rfl rfl
theorem d_13_8_104 : decode prog_13_method_8_code 104 = .ok (.iload_n 3, 1) := D_29 W_prog_13_method_8_code_96 8 rfl rfl
theorem d_13_8_105 : decode prog_13_method_8_code 105 = .ok (.iaload, 1) := D_46 W_prog_13_method_8_code_96 9 rfl rfl
theorem d_13_8_106 : decode prog_13_method_8_code 106 = .ok (.istore 5, 2) := D_54 W_prog_13_method_8_code_96 10 rfl rfl
theorem d_13_8_108 : decode prog_13_method_8_code 108 = .ok (.iload 5, 2) := D_21 W_prog_13_method_8_code_96 12 rfl rfl
theorem d_13_8_110 : decode prog_13_method_8_code 110 = .ok (.iconst (-1), 1) := D_2 W_prog_13_method_8_code_96 14 rfl rfl
theorem d_13_8_111 : decode prog_13_method_8_code 111 = .ok (.if_icmp .ne 7, 3) := D_160 W_prog_13_method_8_code_96 15 rfl rfl rfl
theorem d_13_8_118 : decode prog_13_method_8_code 118 = .ok (.iload 5, 2) := D_21 W_prog_13_method_8_code_96 22 rfl rfl
theorem d_13_8_114 : decode prog_13_method_8_code 114 = .ok (.iload_n 3, 1) := D_29 W_prog_13_method_8_code_96 18 rfl rfl
theorem d_13_8_115 : decode prog_13_method_8_code 115 = .ok (.goto 5, 3) := D_167 W_prog_13_method_8_code_96 19 rfl rfl rfl
theorem d_13_8_120 : decode prog_13_method_8_code 120 = .ok (.istore_n 3, 1) := D_62 W_prog_13_method_8_code_96 24 rfl rfl
theorem d_13_8_121 : decode prog_13_method_8_code 121 = .ok (.iinc 4 1, 3) := D_132 W_prog_13_method_8_code_96 25 rfl rfl rfl
theorem d_13_8_124 : decode prog_13_method_8_code 124 = .ok (.goto (-111), 3) := D_167 W_prog_13_method_8_code_96 28 rfl rfl rfl
theorem d_13_8_127 : decode prog_13_method_8_code 127 = .ok (.return_, 1) := D_177 W_prog_13_method_8_code_96 31 rfl rfl
theorem d_13_9_82 : decode prog_13_method_9_code 82 = .ok (.aload_n 0, 1) := D_42 W_prog_13_method_9_code_64 18 rfl rfl
theorem d_13_9_83 : decode prog_13_method_9_code 83 = .ok (.dup, 1) := D_89 W_prog_13_method_9_code_64 19 rfl rfl
theorem d_13_9_84 : decode prog_13_method_9_code 84 = .ok (.getfield 78, 3) := D_180 W_prog_13_method_9_code_64 20 rfl rfl rfl
theorem d_13_9_87 : decode prog_13_method_9_code 87 = .ok (.iconst 1, 1) := D_4 W_prog_13_method_9_code_64 23 rfl rfl
theorem d_13_9_88 : decode prog_13_method_9_code 88 = .ok (.isub, 1) := D_100 W_prog_13_method_9_code_64 24 rfl rfl
theorem d_13_9_89 : decode prog_13_method_9_code 89 = .ok (.putfield 78, 3) := D_181 W_prog_13_method_9_code_64 25 rfl rfl rfl
theorem d_13_9_92 : decode prog_13_method_9_code 92 = .ok (.return_, 1) := D_177 W_prog_13_method_9_code_64 28 rfl rfl
theorem d_13_9_9 : decode prog_13_method_9_code 9 = .ok (.return_, 1) := D_177 W_prog_13_method_9_code_0 9 rfl rfl
theorem d_13_10_26 : decode prog_13_method_10_code 26 = .ok (.aload_n 0, 1) := D_42 W_prog_13_method_10_code_0 26 rfl rfl
theorem d_13_10_27 : decode prog_13_method_10_code 27 = .ok (.dup, 1) := D_89 W_prog_13_method_10_code_0 27 rfl rfl
theorem d_13_10_28 : decode prog_13_method_10_code 28 = .ok (.getfield 42, 3) := D_180 W_prog_13_method_10_code_0 28 rfl rfl rfl
theorem d_13_10_31 : decode prog_13_method_10_code 31 = .ok (.iconst 1, 1) := D_4 W_prog_13_method_10_code_0 31 rfl rfl
theorem W_prog_13_method_10_code_32 : chW prog_13_method_10_code 32 [100, 181, 0, 42, 42, 180, 0, 28, 29, 182, 0, 142, 177] := chW_of (by decide +kernel)
theorem d_13_10_32 : decode prog_13_method_10_code 32 = .ok (.isub, 1) := D_100 W_prog_13_method_10_code_32 0 rfl rfl
theorem d_13_10_33 : decode prog_13_method_10_code 33 = .ok (.putfield 42, 3) := D_181 W_prog_13_method_10_code_32 1 rfl rfl rfl
theorem d_13_10_36 : decode prog_13_method_10_code 36 = .ok (.aload_n 0, 1) := D_42 W_prog_13_method_10_code_32 4 rfl rfl
theorem d_13_10_37 : decode prog_13_method_10_code 37 = .ok (.getfield 28, 3) := D_180 W_prog_13_method_10_code_32 5 rfl rfl rfl
theorem d_13_10_40 : decode prog_13_method_10_code 40 = .ok (.iload_n 3, 1) := D_29 W_prog_13_method_10_code_32 8 rfl rfl
theorem d_13_10_41 : decode prog_13_method_10_code 41 = .ok (.invokevirtual 142, 3) := D_182 W_prog_13_method_10_code_32 9 rfl rfl rfl
theorem d_13_10_44 : decode prog_13_method_10_code 44 = .ok (.return_, 1) := D_177 W_prog_13_method_10_code_32 12 rfl rfl
noncomputable abbrev Q_Scribe_writeDown (K : zK) (D : va_G) (ca : Nat → ClassId) (ad : Nat → Int → Nat → Nat) (L : List Nat) (r : Int) (F : zF) (B : zB) (A : Nat → Prop) : Array Value → State → Outcome → State → Prop := va_Qi (S := Unit) (fun p _ => p = iI r) (fun _ => zPo D ca ad lnC K.2 L F B A) A
noncomputable def f_Scribe_writeDown_158 (K : zK) (l0 : Int) (F : zF) (B : zB) : zO := if 0 ≤ l0 ∧ l0 < K.2 7 then if 0 ≤ (F 7 l0 1) ∧ (F 7 l0 1) < K.2 0 then zbind (f_ByteRow_clear K (F 7 l0 1) F B) (fun r40 F40 B40 => some ((-2), F40, B40)) else none else none
set_option maxHeartbeats 4000000 in
set_option maxRecDepth 100000 in
theorem b_Scribe_writeDown_158 {D : va_G} {ca : Nat → ClassId} {ad : Nat → Int → Nat → Nat} {L : List Nat} {aS vS : Nat → Nat} {A : Nat → Prop} {p : Program} {l : Launch} {e : Env} {s : State} {m : MethodId} {args : Array Value} {below : List Frame} {meth : Method} {c : Code} {K : zK} {r : Int} {F9 : zF} {B9 : zB} (X : zX D ca L aS vS A p s m args meth c prog_9_method_2_code 8 (Option.some Jvm.ClassFile.FieldType.int) "StaveHouse$Scribe") {l0 : Int} {F : zF} {B : zB} {H : Heap} {locs : List Loc} {ls : Array Slot} (hf : f_Scribe_writeDown_158 K l0 F B = some (r, F9, B9)) (hZ : zH D ca ad lnC K.2 L F B A H) (hS : va_S A s.heap H locs) (hl : lv_has ls 8 [(0, .ref (ad 7 l0 0))]) : W p l e ({ frames := 9, cells := 0, slots := 0, locals := 209 } : Room) s m args below meth c H locs 0 0 (MQ below (Q_Scribe_writeDown K D ca ad L r F9 B9 A) args s 0 0 A) (F0 m 158 ls []) := by
  obtain ⟨hx, hb, hr, hml, hown, hts, hlk, hK, hA, hL, hX⟩ := id X
  replace hf : (if 0 ≤ l0 ∧ l0 < K.2 7 then if 0 ≤ (F 7 l0 1) ∧ (F 7 l0 1) < K.2 0 then zbind (f_ByteRow_clear K (F 7 l0 1) F B) (fun r40 F40 B40 => some ((-2), F40, B40)) else none else none) = some (r, F9, B9) := hf
  refine lv_aload_n hx hb d_9_2_158 rfl (lv_at hl 0 rfl) ?_
  obtain ⟨g38, hf⟩ := gif hf
  refine zget (ci := 7) (C := RX7) (T := TX7) (v := va_rf (zrf ad 0 (F 7 l0 1))) (k := 1) hx hb hts inW_7 hown hK hZ g38.1 g38.2 rfl (by decide) k_2_99 rfl d_9_2_159 ?_
  obtain ⟨g39, hf⟩ := gif hf
  refine W.eq (g2 := F0 m 162 ls [.ref (ad 0 (F 7 l0 1) 0)]) (by rw [zrf_pos (ad := ad) (t := 0) g39.1]; try rfl) ?_
  obtain ⟨r40, F40, B40, hc40, hf⟩ := gbind hf
  refine va_callv (va_runV (As := []) (rest := []) ⟨hx, hb, hml, hown, hts⟩ (c_ByteRow_clear (l := l) hc40) (cwV 0 hts (gdV k_8_143 k_5_167 k_5_168 k_1_2 k_5_169) rfl rfl rfl (by decide +kernel) ⟨Nat.le_of_ble_eq_true rfl, Nat.le_of_ble_eq_true rfl⟩) (zPV X hZ hS (ci := 0) g39.1 g39.2 (r := (RX0, TX0, 3)) rfl []) rfl rfl hl.1 rfl (lv_room (Nat.le_of_ble_eq_true rfl)) d_9_2_162 ⟨Nat.le_of_ble_eq_true rfl, Nat.le_of_ble_eq_true rfl⟩) hS (fun q _ h => zAin X hS q h) (zAin X hS) (fun u40 t40 H40 locs40 ht40 hv40 hw40 hB40 hz40 hk40 hS40 => ?_)
  have hZ40 := zBack X ht40 hB40
  refine lv_bipush (v := iI (-2)) hx hb d_9_2_165 (by decide) ?_
  cases hf
  exact W.iret hx hb hr (fun t ht hW => ⟨⟨_, (), rfl, rfl, by rw [ht]; exact hZ40, va_K.moved hW.alike hK⟩, hS40.F ht⟩) hS40.2.2 d_9_2_167 hlk

noncomputable def f_Scribe_writeDown_135 (K : zK) (l0 : Int) (F : zF) (B : zB) : zO := if 0 ≤ l0 ∧ l0 < K.2 7 then if 0 ≤ (F 7 l0 1) ∧ (F 7 l0 1) < K.2 0 then if r32 (F 0 (F 7 l0 1) 2) then (if (F 0 (F 7 l0 1) 2) = 0 then if r32 (F 0 (F 7 l0 1) 1) then (if (F 0 (F 7 l0 1) 1) ≤ 3000 then some (F 0 (F 7 l0 1) 1, F, B) else f_Scribe_writeDown_158 K l0 F B) else none else f_Scribe_writeDown_158 K l0 F B) else none else none else none
set_option maxHeartbeats 4000000 in
set_option maxRecDepth 100000 in
theorem b_Scribe_writeDown_135 {D : va_G} {ca : Nat → ClassId} {ad : Nat → Int → Nat → Nat} {L : List Nat} {aS vS : Nat → Nat} {A : Nat → Prop} {p : Program} {l : Launch} {e : Env} {s : State} {m : MethodId} {args : Array Value} {below : List Frame} {meth : Method} {c : Code} {K : zK} {r : Int} {F9 : zF} {B9 : zB} (X : zX D ca L aS vS A p s m args meth c prog_9_method_2_code 8 (Option.some Jvm.ClassFile.FieldType.int) "StaveHouse$Scribe") {l0 : Int} {F : zF} {B : zB} {H : Heap} {locs : List Loc} {ls : Array Slot} (hf : f_Scribe_writeDown_135 K l0 F B = some (r, F9, B9)) (hZ : zH D ca ad lnC K.2 L F B A H) (hS : va_S A s.heap H locs) (hl : lv_has ls 8 [(0, .ref (ad 7 l0 0))]) : W p l e ({ frames := 9, cells := 0, slots := 0, locals := 209 } : Room) s m args below meth c H locs 0 0 (MQ below (Q_Scribe_writeDown K D ca ad L r F9 B9 A) args s 0 0 A) (F0 m 135 ls []) := by
  obtain ⟨hx, hb, hr, hml, hown, hts, hlk, hK, hA, hL, hX⟩ := id X
  replace hf : (if 0 ≤ l0 ∧ l0 < K.2 7 then if 0 ≤ (F 7 l0 1) ∧ (F 7 l0 1) < K.2 0 then if r32 (F 0 (F 7 l0 1) 2) then (if (F 0 (F 7 l0 1) 2) = 0 then if r32 (F 0 (F 7 l0 1) 1) then (if (F 0 (F 7 l0 1) 1) ≤ 3000 then some (F 0 (F 7 l0 1) 1, F, B) else f_Scribe_writeDown_158 K l0 F B) else none else f_Scribe_writeDown_158 K l0 F B) else none else none else none) = some (r, F9, B9) := hf
  refine lv_aload_n hx hb d_9_2_135 rfl (lv_at hl 0 rfl) ?_
  obtain ⟨g31, hf⟩ := gif hf
  refine zget (ci := 7) (C := RX7) (T := TX7) (v := va_rf (zrf ad 0 (F 7 l0 1))) (k := 1) hx hb hts inW_7 hown hK hZ g31.1 g31.2 rfl (by decide) k_2_99 rfl d_9_2_136 ?_
  obtain ⟨g33, hf⟩ := gif hf
  refine zunrf g33.1 ?_
  refine zget (ci := 0) (C := RX0) (T := TX0) (v := .int (iI (F 0 (F 7 l0 1) 2))) (k := 2) hx hb hts inW_0 hown hK hZ g33.1 g33.2 rfl (by decide) k_1_49 rfl d_9_2_139 ?_
  obtain ⟨g34, hf⟩ := gif hf
  refine z0ne (tgt := 158) hx hb g34 d_9_2_142 (by decide) (fun h35 => ?_) (fun h35 => ?_)
  · replace hf := gneg hf h35
    exact b_Scribe_writeDown_158 X hf hZ hS (lv_sub hl [0] rfl)
  · replace hf := gpos hf h35
    refine lv_aload_n hx hb d_9_2_145 rfl (lv_at hl 0 rfl) ?_
    refine zget (ci := 7) (C := RX7) (T := TX7) (v := va_rf (zrf ad 0 (F 7 l0 1))) (k := 1) hx hb hts inW_7 hown hK hZ g31.1 g31.2 rfl (by decide) k_2_99 rfl d_9_2_146 ?_
    refine zunrf g33.1 ?_
    refine zget (ci := 0) (C := RX0) (T := TX0) (v := .int (iI (F 0 (F 7 l0 1) 1))) (k := 1) hx hb hts inW_0 hown hK hZ g33.1 g33.2 rfl (by decide) k_1_45 rfl d_9_2_149 ?_
    refine lv_sipush (v := iI 3000) hx hb d_9_2_152 (by decide) ?_
    obtain ⟨g36, hf⟩ := gif hf
    refine zle (tgt := 168) hx hb g36 (by decide) d_9_2_155 (by decide) (fun h37 => ?_) (fun h37 => ?_)
    · replace hf := gpos hf h37
      refine lv_aload_n hx hb d_9_2_168 rfl (lv_at hl 0 rfl) ?_
      refine zget (ci := 7) (C := RX7) (T := TX7) (v := va_rf (zrf ad 0 (F 7 l0 1))) (k := 1) hx hb hts inW_7 hown hK hZ g31.1 g31.2 rfl (by decide) k_2_99 rfl d_9_2_169 ?_
      refine zunrf g33.1 ?_
      refine zget (ci := 0) (C := RX0) (T := TX0) (v := .int (iI (F 0 (F 7 l0 1) 1))) (k := 1) hx hb hts inW_0 hown hK hZ g33.1 g33.2 rfl (by decide) k_1_45 rfl d_9_2_172 ?_
      cases hf
      exact W.iret hx hb hr (fun t ht hW => ⟨⟨_, (), rfl, rfl, by rw [ht]; exact hZ, va_K.moved hW.alike hK⟩, hS.F ht⟩) hS.2.2 d_9_2_175 hlk
    · replace hf := gneg hf h37
      exact b_Scribe_writeDown_158 X hf hZ hS (lv_sub hl [0] rfl)

noncomputable def f_Scribe_writeDown_95 (K : zK) : Nat → Int → Int → Int → Int → Int → zF → zB → zO
  | 0, _, _, _, _, _, _, _ => none
  | n + 1, l7, l6, l4, l0, l1, F, B => if 0 ≤ l1 ∧ l1 < K.2 8 then if r32 l7 then if r32 (F 8 l1 2) then (if (F 8 l1 2) ≤ l7 then f_Scribe_writeDown_135 K l0 F B else if r32 l6 then (if 4 ≤ l6 then f_Scribe_writeDown_135 K l0 F B else if 0 ≤ l0 ∧ l0 < K.2 7 then zbind (f_Scribe_writeVoice K l0 l7 l6 l4 F B) (fun r29 F29 B29 => zbind (f_Scribe_trackEnd K l0 l7 F29 B29) (fun r30 F30 B30 => f_Scribe_writeDown_95 K n r30 (l6 + 1) l4 l0 l1 F30 B30)) else none) else none) else none else none else none
set_option maxHeartbeats 4000000 in
set_option maxRecDepth 100000 in
theorem b_Scribe_writeDown_95 {D : va_G} {ca : Nat → ClassId} {ad : Nat → Int → Nat → Nat} {L : List Nat} {aS vS : Nat → Nat} {A : Nat → Prop} {p : Program} {l : Launch} {e : Env} {s : State} {m : MethodId} {args : Array Value} {below : List Frame} {meth : Method} {c : Code} {K : zK} {r : Int} {F9 : zF} {B9 : zB} (X : zX D ca L aS vS A p s m args meth c prog_9_method_2_code 8 (Option.some Jvm.ClassFile.FieldType.int) "StaveHouse$Scribe") : ∀ {n : Nat} {l7 : Int} {l6 : Int} {l4 : Int} {l0 : Int} {l1 : Int} {F : zF} {B : zB} {H : Heap} {locs : List Loc} {ls : Array Slot}, f_Scribe_writeDown_95 K n l7 l6 l4 l0 l1 F B = some (r, F9, B9) → zH D ca ad lnC K.2 L F B A H → va_S A s.heap H locs → lv_has ls 8 [(7, .int (iI l7)), (6, .int (iI l6)), (4, .long (lI l4)), (0, .ref (ad 7 l0 0)), (1, .ref (ad 8 l1 0))] → W p l e ({ frames := 9, cells := 0, slots := 0, locals := 209 } : Room) s m args below meth c H locs 0 0 (MQ below (Q_Scribe_writeDown K D ca ad L r F9 B9 A) args s 0 0 A) (F0 m 95 ls []) := by
  obtain ⟨hx, hb, hr, hml, hown, hts, hlk, hK, hA, hL, hX⟩ := id X
  intro n
  induction n with
  | zero =>
    intros
    rename_i hf _ _ _
    cases hf
  | succ n ih =>
    intro l7 l6 l4 l0 l1 F B H locs ls hf hZ hS hl
    replace hf : (if 0 ≤ l1 ∧ l1 < K.2 8 then if r32 l7 then if r32 (F 8 l1 2) then (if (F 8 l1 2) ≤ l7 then f_Scribe_writeDown_135 K l0 F B else if r32 l6 then (if 4 ≤ l6 then f_Scribe_writeDown_135 K l0 F B else if 0 ≤ l0 ∧ l0 < K.2 7 then zbind (f_Scribe_writeVoice K l0 l7 l6 l4 F B) (fun r29 F29 B29 => zbind (f_Scribe_trackEnd K l0 l7 F29 B29) (fun r30 F30 B30 => f_Scribe_writeDown_95 K n r30 (l6 + 1) l4 l0 l1 F30 B30)) else none) else none) else none else none else none) = some (r, F9, B9) := hf
    refine lv_iload hx hb d_9_2_95 (lv_at hl 0 rfl) ?_
    refine lv_aload_n hx hb d_9_2_97 rfl (lv_at hl 4 rfl) ?_
    obtain ⟨g22, hf⟩ := gif hf
    refine zget (ci := 8) (C := RX8) (T := TX8) (v := .int (iI (F 8 l1 2))) (k := 2) hx hb hts inW_8 hown hK hZ g22.1 g22.2 rfl (by decide) k_7_224 rfl d_9_2_98 ?_
    obtain ⟨g23, hf⟩ := gif hf
    obtain ⟨g24, hf⟩ := gif hf
    refine zge (tgt := 135) hx hb g23 g24 d_9_2_101 (by decide) (fun h25 => ?_) (fun h25 => ?_)
    · replace hf := gpos hf h25
      exact b_Scribe_writeDown_135 X hf hZ hS (lv_sub hl [3] rfl)
    · replace hf := gneg hf h25
      refine lv_iload hx hb d_9_2_104 (lv_at hl 1 rfl) ?_
      refine lv_iconst (v := iI 4) hx hb d_9_2_106 rfl ?_
      obtain ⟨g26, hf⟩ := gif hf
      refine zge (tgt := 135) hx hb g26 (by decide) d_9_2_107 (by decide) (fun h27 => ?_) (fun h27 => ?_)
      · replace hf := gpos hf h27
        exact b_Scribe_writeDown_135 X hf hZ hS (lv_sub hl [3] rfl)
      · replace hf := gneg hf h27
        refine lv_aload_n hx hb d_9_2_110 rfl (lv_at hl 3 rfl) ?_
        refine lv_iload hx hb d_9_2_111 (lv_at hl 0 rfl) ?_
        refine lv_iload hx hb d_9_2_113 (lv_at hl 1 rfl) ?_
        refine lv_lload hx hb d_9_2_115 (lv_at hl 2 rfl) ?_
        refine zl2iw hx hb d_9_2_117 ?_
        obtain ⟨g28, hf⟩ := gif hf
        obtain ⟨r29, F29, B29, hc29, hf⟩ := gbind hf
        refine va_callv (va_runV (As := [.int (iI l7), .int (iI l6), .int (iI l4)]) (rest := []) ⟨hx, hb, hml, hown, hts⟩ (c_Scribe_writeVoice (l := l) hc29) (cwV 3 hts (gdV k_8_182 k_8_184 ks_116 k_1_7 k_8_185) rfl rfl rfl (by decide +kernel) ⟨Nat.le_of_ble_eq_true rfl, Nat.le_of_ble_eq_true rfl⟩) (zPV X hZ hS (ci := 7) g28.1 g28.2 (r := (RX7, TX7, 9)) rfl [.int (iI l7), .int (iI l6), .int (iI l4)]) rfl rfl hl.1 rfl (lv_room (Nat.le_of_ble_eq_true rfl)) d_9_2_118 ⟨Nat.le_of_ble_eq_true rfl, Nat.le_of_ble_eq_true rfl⟩) hS (fun q _ h => zAin X hS q h) (zAin X hS) (fun u29 t29 H29 locs29 ht29 hv29 hw29 hB29 hz29 hk29 hS29 => ?_)
        have hZ29 := zBack X ht29 hB29
        refine lv_iinc (v := iI (l6 + 1)) (lv' := [(6, .int (iI (l6 + 1))), (7, .int (iI l7)), (4, .long (lI l4)), (0, .ref (ad 7 l0 0)), (1, .ref (ad 8 l1 0))]) hx hb d_9_2_121 hl (k := 1) rfl (iI_add _ 1) (by decide) rfl (fun ls hl => ?_)
        refine lv_aload_n hx hb d_9_2_124 rfl (lv_at hl 3 rfl) ?_
        refine lv_iload hx hb d_9_2_125 (lv_at hl 1 rfl) ?_
        obtain ⟨r30, F30, B30, hc30, hf⟩ := gbind hf
        refine va_calli (va_runV (As := [.int (iI l7)]) (rest := []) ⟨hx, hb, hml, hown, hts⟩ (c_Scribe_trackEnd (l := l) hc30) (cwV 1 hts (gdV k_8_148 k_8_150 ks_112 k_1_7 k_8_151) rfl rfl rfl (by decide +kernel) ⟨Nat.le_of_ble_eq_true rfl, Nat.le_of_ble_eq_true rfl⟩) (zPV X hZ29 hS29 (ci := 7) g28.1 g28.2 (r := (RX7, TX7, 9)) rfl [.int (iI l7)]) rfl rfl hl.1 rfl (lv_room (Nat.le_of_ble_eq_true rfl)) d_9_2_127 ⟨Nat.le_of_ble_eq_true rfl, Nat.le_of_ble_eq_true rfl⟩) hS29 (fun q _ h => zAin X hS29 q h) (zAin X hS29) (fun p30 u30 t30 H30 locs30 ht30 hv30 hw30 hB30 hz30 hk30 hS30 => ?_)
        have hZ30 := zBack X ht30 hB30
        subst hw30
        refine lv_istore (lv' := [(7, .int (iI r30)), (6, .int (iI (l6 + 1))), (4, .long (lI l4)), (0, .ref (ad 7 l0 0)), (1, .ref (ad 8 l1 0))]) hx hb d_9_2_130 hl (by decide) rfl (fun ls hl => ?_)
        refine lv_goto (tgt := 95) hx hb d_9_2_132 (by decide) ?_
        exact ih hf hZ30 hS30 (lv_sub hl [0, 1, 2, 3, 4] rfl)

noncomputable def f_Scribe_writeDown (K : zK) (l0 : Int) (l1 : Int) (l2 : Int) (l3 : Int) (F : zF) (B : zB) : zO := if 0 ≤ l0 ∧ l0 < K.2 7 then if 0 ≤ l1 ∧ l1 < K.2 8 then if l1 < K.2 8 then if 0 ≤ l3 ∧ l3 < K.2 0 then if l3 < K.2 0 then if r32 l2 then if r32 (B 8 l1 0 5) then if ¬ iI (zmax (B 8 l1 0 5) 1) = 0 then zbind (f_ByteRow_clear K l3 (zup3 (zup3 (zup3 (zup3 F 7 l0 0 l1) 7 l0 1 l3) 7 l0 2 (zmax l2 1)) 7 l0 3 ((zdv 512 (zmax (B 8 l1 0 5) 1)) * (B 8 l1 0 4))) B) (fun r13 F13 B13 => zbind (f_Scribe_lastPlace K l0 F13 B13) (fun r14 F14 B14 => if ¬ iI (F14 7 l0 2) = 0 then if r32 (zdv 512 (F14 7 l0 2)) then if r32 (F14 7 l0 3) then if r64 (r14 * (zdv 512 (F14 7 l0 2))) then if r64 (100 * (F14 7 l0 3)) then (if (zcmp (r14 * (zdv 512 (F14 7 l0 2))) (100 * (F14 7 l0 3))) ≤ 0 then zbind (f_Scribe_writeHead K l0 F14 B14) (fun r21 F21 B21 => f_Scribe_writeDown_95 K K.1 0 0 (r14 * (zdv 512 (F14 7 l0 2))) l0 l1 F21 B21) else some ((-2), F14, B14)) else none else none else none else none else none)) else none else none else none else none else none else none else none else none
set_option maxHeartbeats 4000000 in
set_option maxRecDepth 100000 in
theorem c_Scribe_writeDown {l : Launch} {D : va_G} {ca : Nat → ClassId} {ad : Nat → Int → Nat → Nat} {L : List Nat} {aS vS : Nat → Nat} {sz : Nat} {K : zK}  {l0 : Int} {l1 : Int} {l2 : Int} {l3 : Int} {F F9 : zF} {B B9 : zB} {r : Int} (hf : f_Scribe_writeDown K l0 l1 l2 l3 F B = some (r, F9, B9)) : Met l ({ cls := "StaveHouse$Scribe", name := "writeDown", desc := "(LStaveHouse$SoundFile;ILStaveHouse$ByteRow;)I" } : Jvm.MethodName) (Cond.code ({ cls := "StaveHouse$Scribe", name := "writeDown", desc := "(LStaveHouse$SoundFile;ILStaveHouse$ByteRow;)I" } : Jvm.MethodName) prog_9_method_2_code 8 (Option.some Jvm.ClassFile.FieldType.int) :: wAll) ({ frames := 9, cells := 0, slots := 0, locals := 209 } : Room) (va_Pc [.ref (ad 7 l0 0), .ref (ad 8 l1 0), .int (iI l2), .ref (ad 0 l3 0)] (zPre D ca ad lnC K.2 L aS vS F B sz)) (Q_Scribe_writeDown K D ca ad L r F9 B9 (zA L sz)) 0 0 (zA L sz) := by
  refine zMet (Qc := Q_Scribe_writeDown K D ca ad L r F9 B9) (lv := [(0, .ref (ad 7 l0 0)), (1, .ref (ad 8 l1 0)), (2, .int (iI l2)), (3, .ref (ad 0 l3 0))]) (by decide) (Nat.le_of_ble_eq_true rfl) rfl (fun A p e s m below meth c ls X hZ hS hl => ?_)
  obtain ⟨hx, hb, hr, hml, hown, hts, hlk, hK, hA, hL, hX⟩ := id X
  replace hf : (if 0 ≤ l0 ∧ l0 < K.2 7 then if 0 ≤ l1 ∧ l1 < K.2 8 then if l1 < K.2 8 then if 0 ≤ l3 ∧ l3 < K.2 0 then if l3 < K.2 0 then if r32 l2 then if r32 (B 8 l1 0 5) then if ¬ iI (zmax (B 8 l1 0 5) 1) = 0 then zbind (f_ByteRow_clear K l3 (zup3 (zup3 (zup3 (zup3 F 7 l0 0 l1) 7 l0 1 l3) 7 l0 2 (zmax l2 1)) 7 l0 3 ((zdv 512 (zmax (B 8 l1 0 5) 1)) * (B 8 l1 0 4))) B) (fun r13 F13 B13 => zbind (f_Scribe_lastPlace K l0 F13 B13) (fun r14 F14 B14 => if ¬ iI (F14 7 l0 2) = 0 then if r32 (zdv 512 (F14 7 l0 2)) then if r32 (F14 7 l0 3) then if r64 (r14 * (zdv 512 (F14 7 l0 2))) then if r64 (100 * (F14 7 l0 3)) then (if (zcmp (r14 * (zdv 512 (F14 7 l0 2))) (100 * (F14 7 l0 3))) ≤ 0 then zbind (f_Scribe_writeHead K l0 F14 B14) (fun r21 F21 B21 => f_Scribe_writeDown_95 K K.1 0 0 (r14 * (zdv 512 (F14 7 l0 2))) l0 l1 F21 B21) else some ((-2), F14, B14)) else none else none else none else none else none)) else none else none else none else none else none else none else none else none) = some (r, F9, B9) := hf
  refine lv_aload_n hx hb d_9_2_0 rfl (lv_at hl 0 rfl) ?_
  refine lv_aload_n hx hb d_9_2_1 rfl (lv_at hl 1 rfl) ?_
  obtain ⟨g1, hf⟩ := gif hf
  obtain ⟨g3, hf⟩ := gif hf
  refine W.eq (g2 := F0 m 2 ls [va_rf (zrf ad 8 l1), .ref (ad 7 l0 0)]) (by rw [zrf_pos (ad := ad) (t := 8) g3.1]; try rfl) ?_
  obtain ⟨g4, hf⟩ := gif hf
  refine zput (ci := 7) (C := RX7) (T := TX7) (k := 0) (v := l1) (w := va_rf (zrf ad 8 l1)) hx hb hts inW_7 tyX7 tyX7_ok nmX7 hown hK hZ hS g1.1 g1.2 rfl (by decide) k_2_98 rfl (fun G h => congrArg (fun q => va_rf (zrf ad 8 q)) h) (zrf_nar rfl _) (zrf_fit rfl _) (zyes (t0 := 8) rfl g4) d_9_2_2 (fun H2 locs2 hZ2 hS2 => ?_)
  refine lv_aload_n hx hb d_9_2_5 rfl (lv_at hl 0 rfl) ?_
  refine lv_aload_n hx hb d_9_2_6 rfl (lv_at hl 3 rfl) ?_
  obtain ⟨g6, hf⟩ := gif hf
  refine W.eq (g2 := F0 m 7 ls [va_rf (zrf ad 0 l3), .ref (ad 7 l0 0)]) (by rw [zrf_pos (ad := ad) (t := 0) g6.1]; try rfl) ?_
  obtain ⟨g7, hf⟩ := gif hf
  refine zput (ci := 7) (C := RX7) (T := TX7) (k := 1) (v := l3) (w := va_rf (zrf ad 0 l3)) hx hb hts inW_7 tyX7 tyX7_ok nmX7 hown hK hZ2 hS2 g1.1 g1.2 rfl (by decide) k_2_99 rfl (fun G h => congrArg (fun q => va_rf (zrf ad 0 q)) h) (zrf_nar rfl _) (zrf_fit rfl _) (zyes (t0 := 0) rfl g7) d_9_2_7 (fun H5 locs5 hZ5 hS5 => ?_)
  refine lv_aload_n hx hb d_9_2_10 rfl (lv_at hl 0 rfl) ?_
  refine lv_iload_n hx hb d_9_2_11 rfl (lv_at hl 2 rfl) ?_
  refine lv_iconst (v := iI 1) hx hb d_9_2_12 rfl ?_
  obtain ⟨g8, hf⟩ := gif hf
  refine va_mmax hx hb (by rw [hml]; exact hl.1.symm) hown (hts _ k_8_142) (hts _ k_1_39) (hts _ k_1_3) (hts _ k_1_40) (Nat.le_of_ble_eq_true rfl) (Nat.le_of_ble_eq_true rfl) (Nat.le_of_ble_eq_true rfl) (Nat.le_of_ble_eq_true rfl) d_9_2_13 ?_
  rw [zmax_e g8 (by decide)]
  refine zput (ci := 7) (C := RX7) (T := TX7) (k := 2) (v := (zmax l2 1)) (w := .int (iI (zmax l2 1))) hx hb hts inW_7 tyX7 tyX7_ok nmX7 hown hK hZ5 hS5 g1.1 g1.2 rfl (by decide) k_2_100 rfl (fun G h => congrArg (fun q => Value.int (iI q)) h) rfl rfl (zno (by decide)) d_9_2_16 (fun H9 locs9 hZ9 hS9 => ?_)
  refine lv_aload_n hx hb d_9_2_19 rfl (lv_at hl 0 rfl) ?_
  refine lv_sipush (v := iI 512) hx hb d_9_2_20 (by decide) ?_
  refine lv_aload_n hx hb d_9_2_23 rfl (lv_at hl 1 rfl) ?_
  refine zget (ci := 8) (C := RX8) (T := TX8) (v := .ref (ad 8 l1 (0 + 1))) (k := 0) hx hb hts inW_8 hown hK hZ9 g3.1 g3.2 rfl (by decide) k_7_218 rfl d_9_2_24 ?_
  refine lv_iconst (v := iI 5) hx hb d_9_2_27 rfl ?_
  refine zald (ci := 8) (k := 0) hx hb hK rfl hZ9 g3.1 g3.2 rfl (Nat.le_of_ble_eq_true rfl) (by decide) (show (5 : Int) < 7 by decide) d_9_2_28 ?_
  refine lv_iconst (v := iI 1) hx hb d_9_2_29 rfl ?_
  obtain ⟨g10, hf⟩ := gif hf
  refine va_mmax hx hb (by rw [hml]; exact hl.1.symm) hown (hts _ k_8_142) (hts _ k_1_39) (hts _ k_1_3) (hts _ k_1_40) (Nat.le_of_ble_eq_true rfl) (Nat.le_of_ble_eq_true rfl) (Nat.le_of_ble_eq_true rfl) (Nat.le_of_ble_eq_true rfl) d_9_2_30 ?_
  rw [zmax_e g10 (by decide)]
  obtain ⟨g11, hf⟩ := gif hf
  refine zdv_r hx hb g11 d_9_2_33 ?_
  refine lv_aload_n hx hb d_9_2_34 rfl (lv_at hl 1 rfl) ?_
  refine zget (ci := 8) (C := RX8) (T := TX8) (v := .ref (ad 8 l1 (0 + 1))) (k := 0) hx hb hts inW_8 hown hK hZ9 g3.1 g3.2 rfl (by decide) k_7_218 rfl d_9_2_35 ?_
  refine lv_iconst (v := iI 4) hx hb d_9_2_38 rfl ?_
  refine zald (ci := 8) (k := 0) hx hb hK rfl hZ9 g3.1 g3.2 rfl (Nat.le_of_ble_eq_true rfl) (by decide) (show (4 : Int) < 7 by decide) d_9_2_39 ?_
  refine zmul hx hb d_9_2_40 ?_
  refine zput (ci := 7) (C := RX7) (T := TX7) (k := 3) (v := ((zdv 512 (zmax (B 8 l1 0 5) 1)) * (B 8 l1 0 4))) (w := .int (iI ((zdv 512 (zmax (B 8 l1 0 5) 1)) * (B 8 l1 0 4)))) hx hb hts inW_7 tyX7 tyX7_ok nmX7 hown hK hZ9 hS9 g1.1 g1.2 rfl (by decide) k_2_101 rfl (fun G h => congrArg (fun q => Value.int (iI q)) h) rfl rfl (zno (by decide)) d_9_2_41 (fun H12 locs12 hZ12 hS12 => ?_)
  refine lv_aload_n hx hb d_9_2_44 rfl (lv_at hl 0 rfl) ?_
  refine zget (ci := 7) (C := RX7) (T := TX7) (v := va_rf (zrf ad 0 l3)) (k := 1) hx hb hts inW_7 hown hK hZ12 g1.1 g1.2 rfl (by decide) k_2_99 (congrArg (fun q : Int => va_rf (zrf ad 0 q)) (show (zup3 (zup3 (zup3 (zup3 F 7 l0 0 l1) 7 l0 1 l3) 7 l0 2 (zmax l2 1)) 7 l0 3 ((zdv 512 (zmax (B 8 l1 0 5) 1)) * (B 8 l1 0 4))) 7 l0 1 = l3 by simp [zup3])) d_9_2_45 ?_
  refine W.eq (g2 := F0 m 48 ls [.ref (ad 0 l3 0)]) (by rw [zrf_pos (ad := ad) (t := 0) g6.1]; try rfl) ?_
  obtain ⟨r13, F13, B13, hc13, hf⟩ := gbind hf
  refine va_callv (va_runV (As := []) (rest := []) ⟨hx, hb, hml, hown, hts⟩ (c_ByteRow_clear (l := l) hc13) (cwV 0 hts (gdV k_8_143 k_5_167 k_5_168 k_1_2 k_5_169) rfl rfl rfl (by decide +kernel) ⟨Nat.le_of_ble_eq_true rfl, Nat.le_of_ble_eq_true rfl⟩) (zPV X hZ12 hS12 (ci := 0) g6.1 g6.2 (r := (RX0, TX0, 3)) rfl []) rfl rfl hl.1 rfl (lv_room (Nat.le_of_ble_eq_true rfl)) d_9_2_48 ⟨Nat.le_of_ble_eq_true rfl, Nat.le_of_ble_eq_true rfl⟩) hS12 (fun q _ h => zAin X hS12 q h) (zAin X hS12) (fun u13 t13 H13 locs13 ht13 hv13 hw13 hB13 hz13 hk13 hS13 => ?_)
  have hZ13 := zBack X ht13 hB13
  refine lv_aload_n hx hb d_9_2_51 rfl (lv_at hl 0 rfl) ?_
  obtain ⟨r14, F14, B14, hc14, hf⟩ := gbind hf
  refine va_calll (va_runV (As := []) (rest := []) ⟨hx, hb, hml, hown, hts⟩ (c_Scribe_lastPlace (l := l) hc14) (cwV 0 hts (gdV k_8_144 k_8_146 ks_111 k_1_7 k_8_147) rfl rfl rfl (by decide +kernel) ⟨Nat.le_of_ble_eq_true rfl, Nat.le_of_ble_eq_true rfl⟩) (zPV X hZ13 hS13 (ci := 7) g1.1 g1.2 (r := (RX7, TX7, 9)) rfl []) rfl rfl hl.1 rfl (lv_room (Nat.le_of_ble_eq_true rfl)) d_9_2_52 ⟨Nat.le_of_ble_eq_true rfl, Nat.le_of_ble_eq_true rfl⟩) hS13 (fun q _ h => zAin X hS13 q h) (zAin X hS13) (fun p14 u14 t14 H14 locs14 ht14 hv14 hw14 hB14 hz14 hk14 hS14 => ?_)
  have hZ14 := zBack X ht14 hB14
  subst hw14
  refine lv_sipush (v := iI 512) hx hb d_9_2_55 (by decide) ?_
  refine lv_aload_n hx hb d_9_2_58 rfl (lv_at hl 0 rfl) ?_
  refine zget (ci := 7) (C := RX7) (T := TX7) (v := .int (iI (F14 7 l0 2))) (k := 2) hx hb hts inW_7 hown hK hZ14 g1.1 g1.2 rfl (by decide) k_2_100 rfl d_9_2_59 ?_
  obtain ⟨g15, hf⟩ := gif hf
  refine zdv_r hx hb g15 d_9_2_62 ?_
  obtain ⟨g16, hf⟩ := gif hf
  refine zi2l hx hb g16 d_9_2_63 ?_
  refine zlmul hx hb d_9_2_64 ?_
  refine lv_lstore (lv' := [(4, .long (lI (r14 * (zdv 512 (F14 7 l0 2))))), (0, .ref (ad 7 l0 0)), (1, .ref (ad 8 l1 0)), (2, .int (iI l2)), (3, .ref (ad 0 l3 0))]) hx hb d_9_2_65 hl (by decide) rfl (fun ls hl => ?_)
  refine lv_lload hx hb d_9_2_67 (lv_at hl 0 rfl) ?_
  refine lv_ldc2 hx hb hown (hts _ k_8_165) d_9_2_69 ?_
  refine W.eq (g2 := F0 m 72 ls [.long (lI 100), .long (lI (r14 * (zdv 512 (F14 7 l0 2))))]) rfl ?_
  refine lv_aload_n hx hb d_9_2_72 rfl (lv_at hl 1 rfl) ?_
  refine zget (ci := 7) (C := RX7) (T := TX7) (v := .int (iI (F14 7 l0 3))) (k := 3) hx hb hts inW_7 hown hK hZ14 g1.1 g1.2 rfl (by decide) k_2_101 rfl d_9_2_73 ?_
  obtain ⟨g17, hf⟩ := gif hf
  refine zi2l hx hb g17 d_9_2_76 ?_
  refine zlmul hx hb d_9_2_77 ?_
  obtain ⟨g18, hf⟩ := gif hf
  obtain ⟨g19, hf⟩ := gif hf
  refine zcmp_r hx hb g18 g19 d_9_2_78 ?_
  refine z0le (tgt := 85) hx hb zcmp_32 d_9_2_79 (by decide) (fun h20 => ?_) (fun h20 => ?_)
  · replace hf := gpos hf h20
    refine lv_aload_n hx hb d_9_2_85 rfl (lv_at hl 1 rfl) ?_
    obtain ⟨r21, F21, B21, hc21, hf⟩ := gbind hf
    refine va_callv (va_runV (As := []) (rest := []) ⟨hx, hb, hml, hown, hts⟩ (c_Scribe_writeHead (l := l) hc21) (cwV 0 hts (gdV k_8_166 k_8_168 ks_115 k_1_7 k_8_169) rfl rfl rfl (by decide +kernel) ⟨Nat.le_of_ble_eq_true rfl, Nat.le_of_ble_eq_true rfl⟩) (zPV X hZ14 hS14 (ci := 7) g1.1 g1.2 (r := (RX7, TX7, 9)) rfl []) rfl rfl hl.1 rfl (lv_room (Nat.le_of_ble_eq_true rfl)) d_9_2_86 ⟨Nat.le_of_ble_eq_true rfl, Nat.le_of_ble_eq_true rfl⟩) hS14 (fun q _ h => zAin X hS14 q h) (zAin X hS14) (fun u21 t21 H21 locs21 ht21 hv21 hw21 hB21 hz21 hk21 hS21 => ?_)
    have hZ21 := zBack X ht21 hB21
    refine lv_iconst (v := iI 0) hx hb d_9_2_89 rfl ?_
    refine lv_istore (lv' := [(6, .int (iI 0)), (4, .long (lI (r14 * (zdv 512 (F14 7 l0 2))))), (0, .ref (ad 7 l0 0)), (1, .ref (ad 8 l1 0)), (2, .int (iI l2)), (3, .ref (ad 0 l3 0))]) hx hb d_9_2_90 hl (by decide) rfl (fun ls hl => ?_)
    refine lv_iconst (v := iI 0) hx hb d_9_2_92 rfl ?_
    refine lv_istore (lv' := [(7, .int (iI 0)), (6, .int (iI 0)), (4, .long (lI (r14 * (zdv 512 (F14 7 l0 2))))), (0, .ref (ad 7 l0 0)), (1, .ref (ad 8 l1 0)), (2, .int (iI l2)), (3, .ref (ad 0 l3 0))]) hx hb d_9_2_93 hl (by decide) rfl (fun ls hl => ?_)
    exact b_Scribe_writeDown_95 X hf hZ21 hS21 (lv_sub hl [0, 1, 2, 3, 4] rfl)
  · replace hf := gneg hf h20
    refine lv_bipush (v := iI (-2)) hx hb d_9_2_82 (by decide) ?_
    cases hf
    exact W.iret hx hb hr (fun t ht hW => ⟨⟨_, (), rfl, rfl, by rw [ht]; exact hZ14, va_K.moved hW.alike hK⟩, hS14.F ht⟩) hS14.2.2 d_9_2_84 hlk

noncomputable abbrev Q_S_down (K : zK) (D : va_G) (ca : Nat → ClassId) (ad : Nat → Int → Nat → Nat) (L : List Nat) (r : Int) (F : zF) (B : zB) (A : Nat → Prop) : Array Value → State → Outcome → State → Prop := va_Qi (S := Unit) (fun p _ => p = iI r) (fun _ => zPo D ca ad lnC K.2 L F B A) A
noncomputable def f_S_down_50 (K : zK)  (F : zF) (B : zB) : zO := some ((-1), F, B)
