theorem d_6_4_38 : decode prog_6_method_4_code 38 = .ok (.iload_n 3, 1) := D_29 W_prog_6_method_4_code_32 6 rfl rfl
theorem d_6_4_39 : decode prog_6_method_4_code 39 = .ok (.aaload, 1) := D_50 W_prog_6_method_4_code_32 7 rfl rfl
theorem d_6_4_40 : decode prog_6_method_4_code 40 = .ok (.astore 4, 2) := D_58 W_prog_6_method_4_code_32 8 rfl rfl
theorem d_6_4_42 : decode prog_6_method_4_code 42 = .ok (.aload_n 0, 1) := D_42 W_prog_6_method_4_code_32 10 rfl rfl
theorem d_6_4_43 : decode prog_6_method_4_code 43 = .ok (.iload_n 3, 1) := D_29 W_prog_6_method_4_code_32 11 rfl rfl
theorem d_6_4_44 : decode prog_6_method_4_code 44 = .ok (.aload_n 1, 1) := D_43 W_prog_6_method_4_code_32 12 rfl rfl
theorem d_6_4_45 : decode prog_6_method_4_code 45 = .ok (.invokevirtual 55, 3) := D_182 W_prog_6_method_4_code_32 13 rfl rfl rfl
theorem d_6_4_48 : decode prog_6_method_4_code 48 = .ok (.invokevirtual 61, 3) := D_182 W_prog_6_method_4_code_32 16 rfl rfl rfl
theorem d_6_4_51 : decode prog_6_method_4_code 51 = .ok (.ifCond .ne 15, 3) := D_154 W_prog_6_method_4_code_32 19 rfl rfl rfl
theorem W_prog_6_method_4_code_64 : chW prog_6_method_4_code 64 [96, 172, 25, 4, 4, 182, 0, 45, 153, 0, 23, 42, 29, 182, 0, 68, 154, 0, 15, 16, 10, 16, 16, 25, 4, 180, 0, 72, 104, 96, 172, 28, 153, 0, 16, 25] := chW_of (by decide +kernel)
theorem d_6_4_66 : decode prog_6_method_4_code 66 = .ok (.aload 4, 2) := D_25 W_prog_6_method_4_code_64 2 rfl rfl
theorem d_6_4_68 : decode prog_6_method_4_code 68 = .ok (.iconst 1, 1) := D_4 W_prog_6_method_4_code_64 4 rfl rfl
theorem d_6_4_69 : decode prog_6_method_4_code 69 = .ok (.invokevirtual 45, 3) := D_182 W_prog_6_method_4_code_64 5 rfl rfl rfl
theorem d_6_4_72 : decode prog_6_method_4_code 72 = .ok (.ifCond .eq 23, 3) := D_153 W_prog_6_method_4_code_64 8 rfl rfl rfl
theorem d_6_4_75 : decode prog_6_method_4_code 75 = .ok (.aload_n 0, 1) := D_42 W_prog_6_method_4_code_64 11 rfl rfl
theorem d_6_4_76 : decode prog_6_method_4_code 76 = .ok (.iload_n 3, 1) := D_29 W_prog_6_method_4_code_64 12 rfl rfl
theorem d_6_4_77 : decode prog_6_method_4_code 77 = .ok (.invokevirtual 68, 3) := D_182 W_prog_6_method_4_code_64 13 rfl rfl rfl
theorem d_6_4_80 : decode prog_6_method_4_code 80 = .ok (.ifCond .ne 15, 3) := D_154 W_prog_6_method_4_code_64 16 rfl rfl rfl
theorem d_6_4_83 : decode prog_6_method_4_code 83 = .ok (.bipush 10, 2) := D_16 W_prog_6_method_4_code_64 19 rfl rfl rfl
theorem d_6_4_85 : decode prog_6_method_4_code 85 = .ok (.bipush 16, 2) := D_16 W_prog_6_method_4_code_64 21 rfl rfl rfl
theorem d_6_4_87 : decode prog_6_method_4_code 87 = .ok (.aload 4, 2) := D_25 W_prog_6_method_4_code_64 23 rfl rfl
theorem d_6_4_89 : decode prog_6_method_4_code 89 = .ok (.getfield 72, 3) := D_180 W_prog_6_method_4_code_64 25 rfl rfl rfl
theorem d_6_4_92 : decode prog_6_method_4_code 92 = .ok (.imul, 1) := D_104 W_prog_6_method_4_code_64 28 rfl rfl
theorem d_6_4_93 : decode prog_6_method_4_code 93 = .ok (.iadd, 1) := D_96 W_prog_6_method_4_code_64 29 rfl rfl
theorem d_6_4_94 : decode prog_6_method_4_code 94 = .ok (.ireturn, 1) := D_172 W_prog_6_method_4_code_64 30 rfl rfl
theorem d_6_4_54 : decode prog_6_method_4_code 54 = .ok (.bipush 13, 2) := D_16 W_prog_6_method_4_code_32 22 rfl rfl rfl
theorem d_6_4_56 : decode prog_6_method_4_code 56 = .ok (.bipush 16, 2) := D_16 W_prog_6_method_4_code_32 24 rfl rfl rfl
theorem d_6_4_58 : decode prog_6_method_4_code 58 = .ok (.aload 4, 2) := D_25 W_prog_6_method_4_code_32 26 rfl rfl
theorem d_6_4_60 : decode prog_6_method_4_code 60 = .ok (.getfield 65, 3) := D_180 W_prog_6_method_4_code_32 28 rfl rfl rfl
theorem d_6_4_63 : decode prog_6_method_4_code 63 = .ok (.imul, 1) := D_104 W_prog_6_method_4_code_32 31 rfl rfl
theorem d_6_4_64 : decode prog_6_method_4_code 64 = .ok (.iadd, 1) := D_96 W_prog_6_method_4_code_64 0 rfl rfl
theorem d_6_4_65 : decode prog_6_method_4_code 65 = .ok (.ireturn, 1) := D_172 W_prog_6_method_4_code_64 1 rfl rfl
theorem d_6_4_95 : decode prog_6_method_4_code 95 = .ok (.iload_n 2, 1) := D_28 W_prog_6_method_4_code_64 31 rfl rfl
theorem W_prog_6_method_4_code_96 : chW prog_6_method_4_code 96 [153, 0, 16, 25, 4, 7, 182, 0, 45, 154, 0, 7, 4, 167, 0, 4, 3, 54, 5, 25, 4, 7, 182, 0, 45, 153, 0, 7, 28, 153, 0, 17, 25, 4, 5, 182] := chW_of (by decide +kernel)
theorem d_6_4_96 : decode prog_6_method_4_code 96 = .ok (.ifCond .eq 16, 3) := D_153 W_prog_6_method_4_code_96 0 rfl rfl rfl
theorem d_6_4_99 : decode prog_6_method_4_code 99 = .ok (.aload 4, 2) := D_25 W_prog_6_method_4_code_96 3 rfl rfl
theorem d_6_4_101 : decode prog_6_method_4_code 101 = .ok (.iconst 4, 1) := D_7 W_prog_6_method_4_code_96 5 rfl rfl
theorem d_6_4_102 : decode prog_6_method_4_code 102 = .ok (.invokevirtual 45, 3) := D_182 W_prog_6_method_4_code_96 6 rfl rfl rfl
theorem d_6_4_105 : decode prog_6_method_4_code 105 = .ok (.ifCond .ne 7, 3) := D_154 W_prog_6_method_4_code_96 9 rfl rfl rfl
theorem d_6_4_108 : decode prog_6_method_4_code 108 = .ok (.iconst 1, 1) := D_4 W_prog_6_method_4_code_96 12 rfl rfl
theorem d_6_4_109 : decode prog_6_method_4_code 109 = .ok (.goto 4, 3) := D_167 W_prog_6_method_4_code_96 13 rfl rfl rfl
theorem d_6_4_113 : decode prog_6_method_4_code 113 = .ok (.istore 5, 2) := D_54 W_prog_6_method_4_code_96 17 rfl rfl
theorem d_6_4_115 : decode prog_6_method_4_code 115 = .ok (.aload 4, 2) := D_25 W_prog_6_method_4_code_96 19 rfl rfl
theorem d_6_4_117 : decode prog_6_method_4_code 117 = .ok (.iconst 4, 1) := D_7 W_prog_6_method_4_code_96 21 rfl rfl
theorem d_6_4_118 : decode prog_6_method_4_code 118 = .ok (.invokevirtual 45, 3) := D_182 W_prog_6_method_4_code_96 22 rfl rfl rfl
theorem d_6_4_121 : decode prog_6_method_4_code 121 = .ok (.ifCond .eq 7, 3) := D_153 W_prog_6_method_4_code_96 25 rfl rfl rfl
theorem d_6_4_124 : decode prog_6_method_4_code 124 = .ok (.iload_n 2, 1) := D_28 W_prog_6_method_4_code_96 28 rfl rfl
theorem d_6_4_125 : decode prog_6_method_4_code 125 = .ok (.ifCond .eq 17, 3) := D_153 W_prog_6_method_4_code_96 29 rfl rfl rfl
theorem W_prog_6_method_4_code_128 : chW prog_6_method_4_code 128 [25, 4, 5, 182, 0, 45, 153, 0, 20, 21, 5, 153, 0, 15, 16, 11, 16, 16, 25, 4, 180, 0, 72, 104, 96, 172, 21, 5, 154, 0, 12, 25, 4, 5, 182, 0] := chW_of (by decide +kernel)
theorem d_6_4_128 : decode prog_6_method_4_code 128 = .ok (.aload 4, 2) := D_25 W_prog_6_method_4_code_128 0 rfl rfl
theorem d_6_4_130 : decode prog_6_method_4_code 130 = .ok (.iconst 2, 1) := D_5 W_prog_6_method_4_code_128 2 rfl rfl
theorem d_6_4_131 : decode prog_6_method_4_code 131 = .ok (.invokevirtual 45, 3) := D_182 W_prog_6_method_4_code_128 3 rfl rfl rfl
theorem d_6_4_134 : decode prog_6_method_4_code 134 = .ok (.ifCond .eq 20, 3) := D_153 W_prog_6_method_4_code_128 6 rfl rfl rfl
theorem d_6_4_137 : decode prog_6_method_4_code 137 = .ok (.iload 5, 2) := D_21 W_prog_6_method_4_code_128 9 rfl rfl
theorem d_6_4_139 : decode prog_6_method_4_code 139 = .ok (.ifCond .eq 15, 3) := D_153 W_prog_6_method_4_code_128 11 rfl rfl rfl
theorem d_6_4_142 : decode prog_6_method_4_code 142 = .ok (.bipush 11, 2) := D_16 W_prog_6_method_4_code_128 14 rfl rfl rfl
theorem d_6_4_144 : decode prog_6_method_4_code 144 = .ok (.bipush 16, 2) := D_16 W_prog_6_method_4_code_128 16 rfl rfl rfl
theorem d_6_4_146 : decode prog_6_method_4_code 146 = .ok (.aload 4, 2) := D_25 W_prog_6_method_4_code_128 18 rfl rfl
theorem d_6_4_148 : decode prog_6_method_4_code 148 = .ok (.getfield 72, 3) := D_180 W_prog_6_method_4_code_128 20 rfl rfl rfl
theorem d_6_4_151 : decode prog_6_method_4_code 151 = .ok (.imul, 1) := D_104 W_prog_6_method_4_code_128 23 rfl rfl
theorem d_6_4_152 : decode prog_6_method_4_code 152 = .ok (.iadd, 1) := D_96 W_prog_6_method_4_code_128 24 rfl rfl
theorem d_6_4_153 : decode prog_6_method_4_code 153 = .ok (.ireturn, 1) := D_172 W_prog_6_method_4_code_128 25 rfl rfl
theorem d_6_4_154 : decode prog_6_method_4_code 154 = .ok (.iload 5, 2) := D_21 W_prog_6_method_4_code_128 26 rfl rfl
theorem d_6_4_156 : decode prog_6_method_4_code 156 = .ok (.ifCond .ne 12, 3) := D_154 W_prog_6_method_4_code_128 28 rfl rfl rfl
theorem d_6_4_159 : decode prog_6_method_4_code 159 = .ok (.aload 4, 2) := D_25 W_prog_6_method_4_code_128 31 rfl rfl
theorem d_6_4_161 : decode prog_6_method_4_code 161 = .ok (.iconst 2, 1) := D_5 W_prog_6_method_4_code_160 1 rfl rfl
theorem d_6_4_162 : decode prog_6_method_4_code 162 = .ok (.invokevirtual 45, 3) := D_182 W_prog_6_method_4_code_160 2 rfl rfl rfl
theorem d_6_4_165 : decode prog_6_method_4_code 165 = .ok (.ifCond .eq 7, 3) := D_153 W_prog_6_method_4_code_160 5 rfl rfl rfl
theorem d_6_4_172 : decode prog_6_method_4_code 172 = .ok (.iconst 0, 1) := D_3 W_prog_6_method_4_code_160 12 rfl rfl
theorem d_6_4_168 : decode prog_6_method_4_code 168 = .ok (.iconst 1, 1) := D_4 W_prog_6_method_4_code_160 8 rfl rfl
theorem d_6_4_169 : decode prog_6_method_4_code 169 = .ok (.goto 4, 3) := D_167 W_prog_6_method_4_code_160 9 rfl rfl rfl
theorem d_6_4_173 : decode prog_6_method_4_code 173 = .ok (.istore_n 2, 1) := D_61 W_prog_6_method_4_code_160 13 rfl rfl
theorem d_6_4_174 : decode prog_6_method_4_code 174 = .ok (.aload 4, 2) := D_25 W_prog_6_method_4_code_160 14 rfl rfl
theorem d_6_4_176 : decode prog_6_method_4_code 176 = .ok (.iload_n 2, 1) := D_28 W_prog_6_method_4_code_160 16 rfl rfl
theorem d_6_4_177 : decode prog_6_method_4_code 177 = .ok (.putfield 73, 3) := D_181 W_prog_6_method_4_code_160 17 rfl rfl rfl
theorem d_6_4_180 : decode prog_6_method_4_code 180 = .ok (.iinc 3 1, 3) := D_132 W_prog_6_method_4_code_160 20 rfl rfl rfl
theorem d_6_4_183 : decode prog_6_method_4_code 183 = .ok (.goto (-157), 3) := D_167 W_prog_6_method_4_code_160 23 rfl rfl rfl
theorem d_6_4_112 : decode prog_6_method_4_code 112 = .ok (.iconst 0, 1) := D_3 W_prog_6_method_4_code_96 16 rfl rfl
theorem d_6_4_227 : decode prog_6_method_4_code 227 = .ok (.ireturn, 1) := D_172 W_prog_6_method_4_code_224 3 rfl rfl
theorem d_7_17_42 : decode prog_7_method_17_code 42 = .ok (.iconst 0, 1) := D_3 W_prog_7_method_17_code_32 10 rfl rfl
theorem d_7_17_43 : decode prog_7_method_17_code 43 = .ok (.istore_n 3, 1) := D_62 W_prog_7_method_17_code_32 11 rfl rfl
theorem d_7_17_44 : decode prog_7_method_17_code 44 = .ok (.iload_n 3, 1) := D_29 W_prog_7_method_17_code_32 12 rfl rfl
theorem d_7_17_45 : decode prog_7_method_17_code 45 = .ok (.aload_n 1, 1) := D_43 W_prog_7_method_17_code_32 13 rfl rfl
theorem d_7_17_46 : decode prog_7_method_17_code 46 = .ok (.getfield 47, 3) := D_180 W_prog_7_method_17_code_32 14 rfl rfl rfl
theorem d_7_17_49 : decode prog_7_method_17_code 49 = .ok (.if_icmp .ge 21, 3) := D_162 W_prog_7_method_17_code_32 17 rfl rfl rfl
theorem W_prog_7_method_17_code_64 : chW prog_7_method_17_code 64 [132, 3, 1, 167, 255, 233, 177] := chW_of (by decide +kernel)
theorem d_7_17_70 : decode prog_7_method_17_code 70 = .ok (.return_, 1) := D_177 W_prog_7_method_17_code_64 6 rfl rfl
theorem d_7_17_52 : decode prog_7_method_17_code 52 = .ok (.aload_n 0, 1) := D_42 W_prog_7_method_17_code_32 20 rfl rfl
theorem d_7_17_53 : decode prog_7_method_17_code 53 = .ok (.aload_n 1, 1) := D_43 W_prog_7_method_17_code_32 21 rfl rfl
theorem d_7_17_54 : decode prog_7_method_17_code 54 = .ok (.getfield 52, 3) := D_180 W_prog_7_method_17_code_32 22 rfl rfl rfl
theorem d_7_17_57 : decode prog_7_method_17_code 57 = .ok (.iload_n 3, 1) := D_29 W_prog_7_method_17_code_32 25 rfl rfl
theorem d_7_17_58 : decode prog_7_method_17_code 58 = .ok (.aaload, 1) := D_50 W_prog_7_method_17_code_32 26 rfl rfl
theorem d_7_17_59 : decode prog_7_method_17_code 59 = .ok (.iload_n 3, 1) := D_29 W_prog_7_method_17_code_32 27 rfl rfl
theorem d_7_17_60 : decode prog_7_method_17_code 60 = .ok (.aload_n 2, 1) := D_44 W_prog_7_method_17_code_32 28 rfl rfl
theorem d_7_17_61 : decode prog_7_method_17_code 61 = .ok (.invokevirtual 217, 3) := D_182 W_prog_7_method_17_code_32 29 rfl rfl rfl
theorem d_7_17_64 : decode prog_7_method_17_code 64 = .ok (.iinc 3 1, 3) := D_132 W_prog_7_method_17_code_64 0 rfl rfl rfl
theorem d_7_17_67 : decode prog_7_method_17_code 67 = .ok (.goto (-23), 3) := D_167 W_prog_7_method_17_code_64 3 rfl rfl rfl
theorem d_10_2_133 : decode prog_10_method_2_code 133 = .ok (.aload_n 0, 1) := D_42 W_prog_10_method_2_code_128 5 rfl rfl
theorem d_10_2_134 : decode prog_10_method_2_code 134 = .ok (.dup, 1) := D_89 W_prog_10_method_2_code_128 6 rfl rfl
theorem d_10_2_135 : decode prog_10_method_2_code 135 = .ok (.getfield 51, 3) := D_180 W_prog_10_method_2_code_128 7 rfl rfl rfl
theorem d_10_2_138 : decode prog_10_method_2_code 138 = .ok (.iconst 1, 1) := D_4 W_prog_10_method_2_code_128 10 rfl rfl
theorem d_10_2_139 : decode prog_10_method_2_code 139 = .ok (.iadd, 1) := D_96 W_prog_10_method_2_code_128 11 rfl rfl
theorem d_10_2_140 : decode prog_10_method_2_code 140 = .ok (.putfield 51, 3) := D_181 W_prog_10_method_2_code_128 12 rfl rfl rfl
theorem d_10_2_143 : decode prog_10_method_2_code 143 = .ok (.aload_n 0, 1) := D_42 W_prog_10_method_2_code_128 15 rfl rfl
theorem d_10_2_144 : decode prog_10_method_2_code 144 = .ok (.aload_n 1, 1) := D_43 W_prog_10_method_2_code_128 16 rfl rfl
theorem d_10_2_145 : decode prog_10_method_2_code 145 = .ok (.getfield 31, 3) := D_180 W_prog_10_method_2_code_128 17 rfl rfl rfl
theorem d_10_2_148 : decode prog_10_method_2_code 148 = .ok (.putfield 36, 3) := D_181 W_prog_10_method_2_code_128 20 rfl rfl rfl
theorem d_10_2_151 : decode prog_10_method_2_code 151 = .ok (.aload_n 0, 1) := D_42 W_prog_10_method_2_code_128 23 rfl rfl
theorem d_10_2_152 : decode prog_10_method_2_code 152 = .ok (.lload 5, 2) := D_22 W_prog_10_method_2_code_128 24 rfl rfl
theorem d_10_2_154 : decode prog_10_method_2_code 154 = .ok (.aload_n 0, 1) := D_42 W_prog_10_method_2_code_128 26 rfl rfl
theorem d_10_2_155 : decode prog_10_method_2_code 155 = .ok (.getfield 27, 3) := D_180 W_prog_10_method_2_code_128 27 rfl rfl rfl
theorem d_10_2_158 : decode prog_10_method_2_code 158 = .ok (.i2l, 1) := D_133 W_prog_10_method_2_code_128 30 rfl rfl
theorem d_10_2_159 : decode prog_10_method_2_code 159 = .ok (.lsub, 1) := D_101 W_prog_10_method_2_code_128 31 rfl rfl
theorem W_prog_10_method_2_code_160 : chW prog_10_method_2_code 160 [182, 0, 70, 132, 2, 1, 167, 255, 133, 42, 180, 0, 39, 172] := chW_of (by decide +kernel)
theorem d_10_2_160 : decode prog_10_method_2_code 160 = .ok (.invokevirtual 70, 3) := D_182 W_prog_10_method_2_code_160 0 rfl rfl rfl
theorem d_10_2_163 : decode prog_10_method_2_code 163 = .ok (.iinc 2 1, 3) := D_132 W_prog_10_method_2_code_160 3 rfl rfl rfl
theorem d_10_2_166 : decode prog_10_method_2_code 166 = .ok (.goto (-123), 3) := D_167 W_prog_10_method_2_code_160 6 rfl rfl rfl
theorem d_10_2_169 : decode prog_10_method_2_code 169 = .ok (.aload_n 0, 1) := D_42 W_prog_10_method_2_code_160 9 rfl rfl
theorem d_10_2_170 : decode prog_10_method_2_code 170 = .ok (.getfield 39, 3) := D_180 W_prog_10_method_2_code_160 10 rfl rfl rfl
theorem d_10_2_173 : decode prog_10_method_2_code 173 = .ok (.ireturn, 1) := D_172 W_prog_10_method_2_code_160 13 rfl rfl
theorem d_9_11_14 : decode prog_9_method_11_code 14 = .ok (.return_, 1) := D_177 W_prog_9_method_11_code_0 14 rfl rfl
theorem d_1_21_38 : decode prog_1_method_21_code 38 = .ok (.aload_n 0, 1) := D_42 W_prog_1_method_21_code_32 6 rfl rfl
theorem d_1_21_39 : decode prog_1_method_21_code 39 = .ok (.getfield 22, 3) := D_180 W_prog_1_method_21_code_32 7 rfl rfl rfl
theorem d_1_21_42 : decode prog_1_method_21_code 42 = .ok (.getfield 56, 3) := D_180 W_prog_1_method_21_code_32 10 rfl rfl rfl
theorem d_1_21_45 : decode prog_1_method_21_code 45 = .ok (.ireturn, 1) := D_172 W_prog_1_method_21_code_32 13 rfl rfl
theorem d_1_21_20 : decode prog_1_method_21_code 20 = .ok (.iconst (-1), 1) := D_2 W_prog_1_method_21_code_0 20 rfl rfl
theorem d_1_21_21 : decode prog_1_method_21_code 21 = .ok (.ireturn, 1) := D_172 W_prog_1_method_21_code_0 21 rfl rfl
theorem d_9_10_202 : decode prog_9_method_10_code 202 = .ok (.aload_n 0, 1) := D_42 W_prog_9_method_10_code_192 10 rfl rfl
theorem d_9_10_203 : decode prog_9_method_10_code 203 = .ok (.invokevirtual 172, 3) := D_182 W_prog_9_method_10_code_192 11 rfl rfl rfl
theorem d_9_10_206 : decode prog_9_method_10_code 206 = .ok (.aload_n 0, 1) := D_42 W_prog_9_method_10_code_192 14 rfl rfl
theorem d_9_10_207 : decode prog_9_method_10_code 207 = .ok (.aload_n 0, 1) := D_42 W_prog_9_method_10_code_192 15 rfl rfl
theorem d_9_10_208 : decode prog_9_method_10_code 208 = .ok (.getfield 109, 3) := D_180 W_prog_9_method_10_code_192 16 rfl rfl rfl
theorem d_9_10_211 : decode prog_9_method_10_code 211 = .ok (.l2i, 1) := D_136 W_prog_9_method_10_code_192 19 rfl rfl
theorem d_9_10_212 : decode prog_9_method_10_code 212 = .ok (.iload 8, 2) := D_21 W_prog_9_method_10_code_192 20 rfl rfl
theorem d_9_10_214 : decode prog_9_method_10_code 214 = .ok (.imul, 1) := D_104 W_prog_9_method_10_code_192 22 rfl rfl
theorem d_9_10_215 : decode prog_9_method_10_code 215 = .ok (.aload_n 0, 1) := D_42 W_prog_9_method_10_code_192 23 rfl rfl
theorem d_9_10_216 : decode prog_9_method_10_code 216 = .ok (.getfield 98, 3) := D_180 W_prog_9_method_10_code_192 24 rfl rfl rfl
theorem d_9_10_219 : decode prog_9_method_10_code 219 = .ok (.l2i, 1) := D_136 W_prog_9_method_10_code_192 27 rfl rfl
theorem d_9_10_220 : decode prog_9_method_10_code 220 = .ok (.iload 8, 2) := D_21 W_prog_9_method_10_code_192 28 rfl rfl
theorem d_9_10_222 : decode prog_9_method_10_code 222 = .ok (.imul, 1) := D_104 W_prog_9_method_10_code_192 30 rfl rfl
theorem d_9_10_223 : decode prog_9_method_10_code 223 = .ok (.invokevirtual 175, 3) := D_182 W_prog_9_method_10_code_192 31 rfl rfl rfl
theorem W_prog_9_method_10_code_224 : chW prog_9_method_10_code 224 [0, 175, 42, 180, 0, 98, 136, 21, 8, 104, 54, 9, 132, 10, 1, 167, 255, 174, 42, 21, 9, 29, 182, 0, 169, 42, 29, 29, 42, 180, 0, 46, 96, 4, 100, 42] := chW_of (by decide +kernel)
theorem d_9_10_226 : decode prog_9_method_10_code 226 = .ok (.aload_n 0, 1) := D_42 W_prog_9_method_10_code_224 2 rfl rfl
theorem d_9_10_227 : decode prog_9_method_10_code 227 = .ok (.getfield 98, 3) := D_180 W_prog_9_method_10_code_224 3 rfl rfl rfl
theorem d_9_10_230 : decode prog_9_method_10_code 230 = .ok (.l2i, 1) := D_136 W_prog_9_method_10_code_224 6 rfl rfl
theorem d_9_10_231 : decode prog_9_method_10_code 231 = .ok (.iload 8, 2) := D_21 W_prog_9_method_10_code_224 7 rfl rfl
theorem d_9_10_233 : decode prog_9_method_10_code 233 = .ok (.imul, 1) := D_104 W_prog_9_method_10_code_224 9 rfl rfl
theorem d_9_10_234 : decode prog_9_method_10_code 234 = .ok (.istore 9, 2) := D_54 W_prog_9_method_10_code_224 10 rfl rfl
theorem d_9_10_236 : decode prog_9_method_10_code 236 = .ok (.iinc 10 1, 3) := D_132 W_prog_9_method_10_code_224 12 rfl rfl rfl
theorem d_9_10_239 : decode prog_9_method_10_code 239 = .ok (.goto (-82), 3) := D_167 W_prog_9_method_10_code_224 15 rfl rfl rfl
theorem d_9_10_242 : decode prog_9_method_10_code 242 = .ok (.aload_n 0, 1) := D_42 W_prog_9_method_10_code_224 18 rfl rfl
theorem d_9_10_243 : decode prog_9_method_10_code 243 = .ok (.iload 9, 2) := D_21 W_prog_9_method_10_code_224 19 rfl rfl
theorem d_9_10_245 : decode prog_9_method_10_code 245 = .ok (.iload_n 3, 1) := D_29 W_prog_9_method_10_code_224 21 rfl rfl
theorem d_9_10_246 : decode prog_9_method_10_code 246 = .ok (.invokevirtual 169, 3) := D_182 W_prog_9_method_10_code_224 22 rfl rfl rfl
theorem d_9_10_249 : decode prog_9_method_10_code 249 = .ok (.aload_n 0, 1) := D_42 W_prog_9_method_10_code_224 25 rfl rfl
theorem d_9_10_250 : decode prog_9_method_10_code 250 = .ok (.iload_n 3, 1) := D_29 W_prog_9_method_10_code_224 26 rfl rfl
theorem d_9_10_251 : decode prog_9_method_10_code 251 = .ok (.iload_n 3, 1) := D_29 W_prog_9_method_10_code_224 27 rfl rfl
theorem d_9_10_252 : decode prog_9_method_10_code 252 = .ok (.aload_n 0, 1) := D_42 W_prog_9_method_10_code_224 28 rfl rfl
theorem d_9_10_253 : decode prog_9_method_10_code 253 = .ok (.getfield 46, 3) := D_180 W_prog_9_method_10_code_224 29 rfl rfl rfl
theorem W_prog_9_method_10_code_256 : chW prog_9_method_10_code 256 [96, 4, 100, 42, 180, 0, 46, 4, 184, 0, 30, 108, 42, 180, 0, 46, 104, 182, 0, 169, 42, 180, 0, 26, 18, 178, 182, 0, 137, 177] := chW_of (by decide +kernel)
theorem d_9_10_256 : decode prog_9_method_10_code 256 = .ok (.iadd, 1) := D_96 W_prog_9_method_10_code_256 0 rfl rfl
theorem d_9_10_257 : decode prog_9_method_10_code 257 = .ok (.iconst 1, 1) := D_4 W_prog_9_method_10_code_256 1 rfl rfl
theorem d_9_10_258 : decode prog_9_method_10_code 258 = .ok (.isub, 1) := D_100 W_prog_9_method_10_code_256 2 rfl rfl
theorem d_9_10_259 : decode prog_9_method_10_code 259 = .ok (.aload_n 0, 1) := D_42 W_prog_9_method_10_code_256 3 rfl rfl
theorem d_9_10_260 : decode prog_9_method_10_code 260 = .ok (.getfield 46, 3) := D_180 W_prog_9_method_10_code_256 4 rfl rfl rfl
theorem d_9_10_263 : decode prog_9_method_10_code 263 = .ok (.iconst 1, 1) := D_4 W_prog_9_method_10_code_256 7 rfl rfl
theorem d_9_10_264 : decode prog_9_method_10_code 264 = .ok (.invokestatic 30, 3) := D_184 W_prog_9_method_10_code_256 8 rfl rfl rfl
theorem d_9_10_267 : decode prog_9_method_10_code 267 = .ok (.idiv, 1) := D_108 W_prog_9_method_10_code_256 11 rfl rfl
theorem d_9_10_268 : decode prog_9_method_10_code 268 = .ok (.aload_n 0, 1) := D_42 W_prog_9_method_10_code_256 12 rfl rfl
theorem d_9_10_269 : decode prog_9_method_10_code 269 = .ok (.getfield 46, 3) := D_180 W_prog_9_method_10_code_256 13 rfl rfl rfl
theorem d_9_10_272 : decode prog_9_method_10_code 272 = .ok (.imul, 1) := D_104 W_prog_9_method_10_code_256 16 rfl rfl
theorem d_9_10_273 : decode prog_9_method_10_code 273 = .ok (.invokevirtual 169, 3) := D_182 W_prog_9_method_10_code_256 17 rfl rfl rfl
theorem d_9_10_276 : decode prog_9_method_10_code 276 = .ok (.aload_n 0, 1) := D_42 W_prog_9_method_10_code_256 20 rfl rfl
theorem d_9_10_277 : decode prog_9_method_10_code 277 = .ok (.getfield 26, 3) := D_180 W_prog_9_method_10_code_256 21 rfl rfl rfl
theorem d_9_10_280 : decode prog_9_method_10_code 280 = .ok (.ldc 178, 2) := D_18 W_prog_9_method_10_code_256 24 rfl rfl
theorem d_9_10_282 : decode prog_9_method_10_code 282 = .ok (.invokevirtual 137, 3) := D_182 W_prog_9_method_10_code_256 26 rfl rfl rfl
theorem d_9_10_285 : decode prog_9_method_10_code 285 = .ok (.return_, 1) := D_177 W_prog_9_method_10_code_256 29 rfl rfl
noncomputable abbrev Q_Study_lookThrough (K : zK) (D : va_G) (ca : Nat → ClassId) (ad : Nat → Int → Nat → Nat) (L : List Nat) (r : Int) (F : zF) (B : zB) (A : Nat → Prop) : Array Value → State → Outcome → State → Prop := va_Qv (S := Unit) (fun _ => True) (fun _ => zPo D ca ad lnC K.2 L F B A) A
noncomputable def f_Study_lookThrough_55 (K : zK)  (F : zF) (B : zB) : zO := some (0, F, B)
set_option maxHeartbeats 4000000 in
set_option maxRecDepth 100000 in
theorem b_Study_lookThrough_55 {D : va_G} {ca : Nat → ClassId} {ad : Nat → Int → Nat → Nat} {L : List Nat} {aS vS : Nat → Nat} {A : Nat → Prop} {p : Program} {l : Launch} {e : Env} {s : State} {m : MethodId} {args : Array Value} {below : List Frame} {meth : Method} {c : Code} {K : zK} {r : Int} {F9 : zF} {B9 : zB} (X : zX D ca L aS vS A p s m args meth c prog_11_method_2_code 3 (Option.none : Option Jvm.ClassFile.FieldType) "StaveHouse$Study")  {F : zF} {B : zB} {H : Heap} {locs : List Loc} {ls : Array Slot} (hf : f_Study_lookThrough_55 K  F B = some (r, F9, B9)) (hZ : zH D ca ad lnC K.2 L F B A H) (hS : va_S A s.heap H locs) (hl : lv_has ls 3 []) : W p l e ({ frames := 5, cells := 0, slots := 0, locals := 110 } : Room) s m args below meth c H locs 0 0 (MQ below (Q_Study_lookThrough K D ca ad L r F9 B9 A) args s 0 0 A) (F0 m 55 ls []) := by
  obtain ⟨hx, hb, hr, hml, hown, hts, hlk, hK, hA, hL, hX⟩ := id X
  replace hf : (some (0, F, B)) = some (r, F9, B9) := hf
  cases hf
  exact W.vret hx hb hr (fun t ht hW => ⟨⟨(), rfl, trivial, by rw [ht]; exact hZ, va_K.moved hW.alike hK⟩, hS.F ht⟩) hS.2.2 d_11_2_55 hlk

noncomputable def f_Study_lookThrough_49 (rec12 : Int → Int → Int → zF → zB → zO) (K : zK) (l2 : Int) (l0 : Int) (l1 : Int) (F : zF) (B : zB) : zO := rec12 (l2 + 1) l0 l1 F B
set_option maxHeartbeats 4000000 in
set_option maxRecDepth 100000 in
theorem b_Study_lookThrough_49 {D : va_G} {ca : Nat → ClassId} {ad : Nat → Int → Nat → Nat} {L : List Nat} {aS vS : Nat → Nat} {A : Nat → Prop} {p : Program} {l : Launch} {e : Env} {s : State} {m : MethodId} {args : Array Value} {below : List Frame} {meth : Method} {c : Code} {K : zK} {r : Int} {F9 : zF} {B9 : zB} (X : zX D ca L aS vS A p s m args meth c prog_11_method_2_code 3 (Option.none : Option Jvm.ClassFile.FieldType) "StaveHouse$Study") {rec12 : Int → Int → Int → zF → zB → zO} (hrec12 : ∀ {l2 : Int} {l0 : Int} {l1 : Int} {F : zF} {B : zB} {H : Heap} {locs : List Loc} {ls : Array Slot}, rec12 l2 l0 l1 F B = some (r, F9, B9) → zH D ca ad lnC K.2 L F B A H → va_S A s.heap H locs → lv_has ls 3 [(2, .int (iI l2)), (0, .ref (ad 9 l0 0)), (1, .ref (ad 6 l1 0))] → W p l e ({ frames := 5, cells := 0, slots := 0, locals := 110 } : Room) s m args below meth c H locs 0 0 (MQ below (Q_Study_lookThrough K D ca ad L r F9 B9 A) args s 0 0 A) (F0 m 12 ls [])) {l2 : Int} {l0 : Int} {l1 : Int} {F : zF} {B : zB} {H : Heap} {locs : List Loc} {ls : Array Slot} (hf : f_Study_lookThrough_49 rec12 K l2 l0 l1 F B = some (r, F9, B9)) (hZ : zH D ca ad lnC K.2 L F B A H) (hS : va_S A s.heap H locs) (hl : lv_has ls 3 [(2, .int (iI l2)), (0, .ref (ad 9 l0 0)), (1, .ref (ad 6 l1 0))]) : W p l e ({ frames := 5, cells := 0, slots := 0, locals := 110 } : Room) s m args below meth c H locs 0 0 (MQ below (Q_Study_lookThrough K D ca ad L r F9 B9 A) args s 0 0 A) (F0 m 49 ls []) := by
  obtain ⟨hx, hb, hr, hml, hown, hts, hlk, hK, hA, hL, hX⟩ := id X
  replace hf : (rec12 (l2 + 1) l0 l1 F B) = some (r, F9, B9) := hf
  refine lv_iinc (v := iI (l2 + 1)) (lv' := [(2, .int (iI (l2 + 1))), (0, .ref (ad 9 l0 0)), (1, .ref (ad 6 l1 0))]) hx hb d_11_2_49 hl (k := 0) rfl (iI_add _ 1) (by decide) rfl (fun ls hl => ?_)
  refine lv_goto (tgt := 12) hx hb d_11_2_52 (by decide) ?_
  exact hrec12 hf hZ hS (lv_sub hl [0, 1, 2] rfl)

noncomputable def f_Study_lookThrough_12 (K : zK) : Nat → Int → Int → Int → zF → zB → zO
  | 0, _, _, _, _, _ => none
  | n + 1, l2, l0, l1, F, B => if 0 ≤ l0 ∧ l0 < K.2 9 then if r32 l2 then if r32 (F 9 l0 0) then (if (F 9 l0 0) ≤ l2 then f_Study_lookThrough_55 K F B else if r32 (F 9 l0 2) then (if 300 ≤ (F 9 l0 2) then f_Study_lookThrough_55 K F B else zbind (f_Study_takeLines K l0 l1 l2 F B) (fun r10 F10 B10 => (if l2 ≤ 0 then f_Study_lookThrough_49 (f_Study_lookThrough_12 K n) K l2 l0 l1 F10 B10 else if 0 ≤ l1 ∧ l1 < K.2 6 then zbind (f_Study_findFaults K l0 (F10 6 l1 1) l2 F10 B10) (fun r13 F13 B13 => f_Study_lookThrough_49 (f_Study_lookThrough_12 K n) K l2 l0 l1 F13 B13) else none))) else none) else none else none else none
set_option maxHeartbeats 4000000 in
set_option maxRecDepth 100000 in
theorem b_Study_lookThrough_12 {D : va_G} {ca : Nat → ClassId} {ad : Nat → Int → Nat → Nat} {L : List Nat} {aS vS : Nat → Nat} {A : Nat → Prop} {p : Program} {l : Launch} {e : Env} {s : State} {m : MethodId} {args : Array Value} {below : List Frame} {meth : Method} {c : Code} {K : zK} {r : Int} {F9 : zF} {B9 : zB} (X : zX D ca L aS vS A p s m args meth c prog_11_method_2_code 3 (Option.none : Option Jvm.ClassFile.FieldType) "StaveHouse$Study") : ∀ {n : Nat} {l2 : Int} {l0 : Int} {l1 : Int} {F : zF} {B : zB} {H : Heap} {locs : List Loc} {ls : Array Slot}, f_Study_lookThrough_12 K n l2 l0 l1 F B = some (r, F9, B9) → zH D ca ad lnC K.2 L F B A H → va_S A s.heap H locs → lv_has ls 3 [(2, .int (iI l2)), (0, .ref (ad 9 l0 0)), (1, .ref (ad 6 l1 0))] → W p l e ({ frames := 5, cells := 0, slots := 0, locals := 110 } : Room) s m args below meth c H locs 0 0 (MQ below (Q_Study_lookThrough K D ca ad L r F9 B9 A) args s 0 0 A) (F0 m 12 ls []) := by
  obtain ⟨hx, hb, hr, hml, hown, hts, hlk, hK, hA, hL, hX⟩ := id X
  intro n
  induction n with
  | zero =>
    intros
    rename_i hf _ _ _
    cases hf
  | succ n ih =>
    intro l2 l0 l1 F B H locs ls hf hZ hS hl
    replace hf : (if 0 ≤ l0 ∧ l0 < K.2 9 then if r32 l2 then if r32 (F 9 l0 0) then (if (F 9 l0 0) ≤ l2 then f_Study_lookThrough_55 K F B else if r32 (F 9 l0 2) then (if 300 ≤ (F 9 l0 2) then f_Study_lookThrough_55 K F B else zbind (f_Study_takeLines K l0 l1 l2 F B) (fun r10 F10 B10 => (if l2 ≤ 0 then f_Study_lookThrough_49 (f_Study_lookThrough_12 K n) K l2 l0 l1 F10 B10 else if 0 ≤ l1 ∧ l1 < K.2 6 then zbind (f_Study_findFaults K l0 (F10 6 l1 1) l2 F10 B10) (fun r13 F13 B13 => f_Study_lookThrough_49 (f_Study_lookThrough_12 K n) K l2 l0 l1 F13 B13) else none))) else none) else none else none else none) = some (r, F9, B9) := hf
    refine lv_iload_n hx hb d_11_2_12 rfl (lv_at hl 0 rfl) ?_
    refine lv_aload_n hx hb d_11_2_13 rfl (lv_at hl 1 rfl) ?_
    obtain ⟨g4, hf⟩ := gif hf
    refine zget (ci := 9) (C := RX9) (T := TX9) (v := .int (iI (F 9 l0 0))) (k := 0) hx hb hts inW_9 hown hK hZ g4.1 g4.2 rfl (by decide) k_5_197 rfl d_11_2_14 ?_
    obtain ⟨g5, hf⟩ := gif hf
    obtain ⟨g6, hf⟩ := gif hf
    refine zge (tgt := 55) hx hb g5 g6 d_11_2_17 (by decide) (fun h7 => ?_) (fun h7 => ?_)
    · replace hf := gpos hf h7
      exact b_Study_lookThrough_55 X hf hZ hS (lv_sub hl [] rfl)
    · replace hf := gneg hf h7
      refine lv_aload_n hx hb d_11_2_20 rfl (lv_at hl 1 rfl) ?_
      refine zget (ci := 9) (C := RX9) (T := TX9) (v := .int (iI (F 9 l0 2))) (k := 2) hx hb hts inW_9 hown hK hZ g4.1 g4.2 rfl (by decide) k_5_201 rfl d_11_2_21 ?_
      refine lv_sipush (v := iI 300) hx hb d_11_2_24 (by decide) ?_
      obtain ⟨g8, hf⟩ := gif hf
      refine zge (tgt := 55) hx hb g8 (by decide) d_11_2_27 (by decide) (fun h9 => ?_) (fun h9 => ?_)
      · replace hf := gpos hf h9
        exact b_Study_lookThrough_55 X hf hZ hS (lv_sub hl [] rfl)
      · replace hf := gneg hf h9
        refine lv_aload_n hx hb d_11_2_30 rfl (lv_at hl 1 rfl) ?_
        refine lv_aload_n hx hb d_11_2_31 rfl (lv_at hl 2 rfl) ?_
        refine lv_iload_n hx hb d_11_2_32 rfl (lv_at hl 0 rfl) ?_
        obtain ⟨r10, F10, B10, hc10, hf⟩ := gbind hf
        refine va_callv (va_runV (As := [.ref (ad 6 l1 0), .int (iI l2)]) (rest := []) ⟨hx, hb, hml, hown, hts⟩ (c_Study_takeLines (l := l) hc10) (cwV 2 hts (gdV k_6_9 k_6_11 ks_68 k_1_19 k_6_12) rfl rfl rfl (by decide +kernel) ⟨Nat.le_of_ble_eq_true rfl, Nat.le_of_ble_eq_true rfl⟩) (zPV X hZ hS (ci := 9) g4.1 g4.2 (r := (RX9, TX9, 11)) rfl [.ref (ad 6 l1 0), .int (iI l2)]) rfl rfl hl.1 rfl (lv_room (Nat.le_of_ble_eq_true rfl)) d_11_2_33 ⟨Nat.le_of_ble_eq_true rfl, Nat.le_of_ble_eq_true rfl⟩) hS (fun q _ h => zAin X hS q h) (zAin X hS) (fun u10 t10 H10 locs10 ht10 hv10 hw10 hB10 hz10 hk10 hS10 => ?_)
        have hZ10 := zBack X ht10 hB10
        refine lv_iload_n hx hb d_11_2_36 rfl (lv_at hl 0 rfl) ?_
        refine z0le (tgt := 49) hx hb g5 d_11_2_37 (by decide) (fun h11 => ?_) (fun h11 => ?_)
        · replace hf := gpos hf h11
          exact b_Study_lookThrough_49 X ih hf hZ10 hS10 (lv_sub hl [0, 1, 2] rfl)
        · replace hf := gneg hf h11
          refine lv_aload_n hx hb d_11_2_40 rfl (lv_at hl 1 rfl) ?_
          refine lv_aload_n hx hb d_11_2_41 rfl (lv_at hl 2 rfl) ?_
          obtain ⟨g12, hf⟩ := gif hf
          refine zget (ci := 6) (C := RX6) (T := TX6) (v := .int (iI (F10 6 l1 1))) (k := 1) hx hb hts inW_6 hown hK hZ10 g12.1 g12.2 rfl (by decide) k_2_192 rfl d_11_2_42 ?_
          refine lv_iload_n hx hb d_11_2_45 rfl (lv_at hl 0 rfl) ?_
          obtain ⟨r13, F13, B13, hc13, hf⟩ := gbind hf
          refine va_callv (va_runV (As := [.int (iI (F10 6 l1 1)), .int (iI l2)]) (rest := []) ⟨hx, hb, hml, hown, hts⟩ (c_Study_findFaults (l := l) hc13) (cwV 2 hts (gdV k_6_27 k_6_29 ks_70 k_1_19 k_6_30) rfl rfl rfl (by decide +kernel) ⟨Nat.le_of_ble_eq_true rfl, Nat.le_of_ble_eq_true rfl⟩) (zPV X hZ10 hS10 (ci := 9) g4.1 g4.2 (r := (RX9, TX9, 11)) rfl [.int (iI (F10 6 l1 1)), .int (iI l2)]) rfl rfl hl.1 rfl (lv_room (Nat.le_of_ble_eq_true rfl)) d_11_2_46 ⟨Nat.le_of_ble_eq_true rfl, Nat.le_of_ble_eq_true rfl⟩) hS10 (fun q _ h => zAin X hS10 q h) (zAin X hS10) (fun u13 t13 H13 locs13 ht13 hv13 hw13 hB13 hz13 hk13 hS13 => ?_)
          have hZ13 := zBack X ht13 hB13
          exact b_Study_lookThrough_49 X ih hf hZ13 hS13 (lv_sub hl [0, 1, 2] rfl)

noncomputable def f_Study_lookThrough (K : zK) (l0 : Int) (l1 : Int) (F : zF) (B : zB) : zO := if 0 ≤ l0 ∧ l0 < K.2 9 then zbind (f_Study_findMoments K l0 l1 F B) (fun r2 F2 B2 => f_Study_lookThrough_12 K K.1 0 l0 l1 (zup3 F2 9 l0 2 0) B2) else none
set_option maxHeartbeats 4000000 in
set_option maxRecDepth 100000 in
theorem c_Study_lookThrough {l : Launch} {D : va_G} {ca : Nat → ClassId} {ad : Nat → Int → Nat → Nat} {L : List Nat} {aS vS : Nat → Nat} {sz : Nat} {K : zK}  {l0 : Int} {l1 : Int} {F F9 : zF} {B B9 : zB} {r : Int} (hf : f_Study_lookThrough K l0 l1 F B = some (r, F9, B9)) : Met l ({ cls := "StaveHouse$Study", name := "lookThrough", desc := "(LStaveHouse$Piece;)V" } : Jvm.MethodName) (Cond.code ({ cls := "StaveHouse$Study", name := "lookThrough", desc := "(LStaveHouse$Piece;)V" } : Jvm.MethodName) prog_11_method_2_code 3 (Option.none : Option Jvm.ClassFile.FieldType) :: wAll) ({ frames := 5, cells := 0, slots := 0, locals := 110 } : Room) (va_Pc [.ref (ad 9 l0 0), .ref (ad 6 l1 0)] (zPre D ca ad lnC K.2 L aS vS F B sz)) (Q_Study_lookThrough K D ca ad L r F9 B9 (zA L sz)) 0 0 (zA L sz) := by
  refine zMet (Qc := Q_Study_lookThrough K D ca ad L r F9 B9) (lv := [(0, .ref (ad 9 l0 0)), (1, .ref (ad 6 l1 0))]) (by decide) (Nat.le_of_ble_eq_true rfl) rfl (fun A p e s m below meth c ls X hZ hS hl => ?_)
  obtain ⟨hx, hb, hr, hml, hown, hts, hlk, hK, hA, hL, hX⟩ := id X
  replace hf : (if 0 ≤ l0 ∧ l0 < K.2 9 then zbind (f_Study_findMoments K l0 l1 F B) (fun r2 F2 B2 => f_Study_lookThrough_12 K K.1 0 l0 l1 (zup3 F2 9 l0 2 0) B2) else none) = some (r, F9, B9) := hf
  refine lv_aload_n hx hb d_11_2_0 rfl (lv_at hl 0 rfl) ?_
  refine lv_aload_n hx hb d_11_2_1 rfl (lv_at hl 1 rfl) ?_
  obtain ⟨g1, hf⟩ := gif hf
  obtain ⟨r2, F2, B2, hc2, hf⟩ := gbind hf
  refine va_callv (va_runV (As := [.ref (ad 6 l1 0)]) (rest := []) ⟨hx, hb, hml, hown, hts⟩ (c_Study_findMoments (l := l) hc2) (cwV 1 hts (gdV k_5_239 k_6_1 ks_66 k_1_19 k_6_2) rfl rfl rfl (by decide +kernel) ⟨Nat.le_of_ble_eq_true rfl, Nat.le_of_ble_eq_true rfl⟩) (zPV X hZ hS (ci := 9) g1.1 g1.2 (r := (RX9, TX9, 11)) rfl [.ref (ad 6 l1 0)]) rfl rfl hl.1 rfl (lv_room (Nat.le_of_ble_eq_true rfl)) d_11_2_2 ⟨Nat.le_of_ble_eq_true rfl, Nat.le_of_ble_eq_true rfl⟩) hS (fun q _ h => zAin X hS q h) (zAin X hS) (fun u2 t2 H2 locs2 ht2 hv2 hw2 hB2 hz2 hk2 hS2 => ?_)
  have hZ2 := zBack X ht2 hB2
  refine lv_aload_n hx hb d_11_2_5 rfl (lv_at hl 0 rfl) ?_
  refine lv_iconst (v := iI 0) hx hb d_11_2_6 rfl ?_
  refine zput (ci := 9) (C := RX9) (T := TX9) (k := 2) (v := 0) (w := .int (iI 0)) hx hb hts inW_9 tyX9 tyX9_ok nmX9 hown hK hZ2 hS2 g1.1 g1.2 rfl (by decide) k_5_201 rfl (fun G h => congrArg (fun q => Value.int (iI q)) h) rfl rfl (zno (by decide)) d_11_2_7 (fun H3 locs3 hZ3 hS3 => ?_)
  refine lv_iconst (v := iI 0) hx hb d_11_2_10 rfl ?_
  refine lv_istore_n (lv' := [(2, .int (iI 0)), (0, .ref (ad 9 l0 0)), (1, .ref (ad 6 l1 0))]) hx hb d_11_2_11 rfl hl (by decide) rfl (fun ls hl => ?_)
  exact b_Study_lookThrough_12 X hf hZ3 hS3 (lv_sub hl [0, 1, 2] rfl)

noncomputable abbrev Q_Layout_breakLines (K : zK) (D : va_G) (ca : Nat → ClassId) (ad : Nat → Int → Nat → Nat) (L : List Nat) (r : Int) (F : zF) (B : zB) (A : Nat → Prop) : Array Value → State → Outcome → State → Prop := va_Qi (S := Unit) (fun p _ => p = iI r) (fun _ => zPo D ca ad lnC K.2 L F B A) A
noncomputable def f_Layout_breakLines_148 (K : zK) : Nat → Int → Int → Int → Int → zF → zB → zO
  | 0, _, _, _, _, _, _ => none
  | n + 1, l5, l0, l1, l2, F, B => if 0 ≤ l0 ∧ l0 < K.2 2 then if r32 l5 then if r32 (F 2 l0 0) then (if (F 2 l0 0) ≤ l5 then some (F 2 l0 0, F, B) else zbind (f_Layout_setXs K l0 l1 l5 l2 F B) (fun r30 F30 B30 => f_Layout_breakLines_148 K n (l5 + 1) l0 l1 l2 F30 B30)) else none else none else none
set_option maxHeartbeats 4000000 in
set_option maxRecDepth 100000 in
theorem b_Layout_breakLines_148 {D : va_G} {ca : Nat → ClassId} {ad : Nat → Int → Nat → Nat} {L : List Nat} {aS vS : Nat → Nat} {A : Nat → Prop} {p : Program} {l : Launch} {e : Env} {s : State} {m : MethodId} {args : Array Value} {below : List Frame} {meth : Method} {c : Code} {K : zK} {r : Int} {F9 : zF} {B9 : zB} (X : zX D ca L aS vS A p s m args meth c prog_4_method_2_code 6 (Option.some Jvm.ClassFile.FieldType.int) "StaveHouse$Layout") : ∀ {n : Nat} {l5 : Int} {l0 : Int} {l1 : Int} {l2 : Int} {F : zF} {B : zB} {H : Heap} {locs : List Loc} {ls : Array Slot}, f_Layout_breakLines_148 K n l5 l0 l1 l2 F B = some (r, F9, B9) → zH D ca ad lnC K.2 L F B A H → va_S A s.heap H locs → lv_has ls 6 [(5, .int (iI l5)), (0, .ref (ad 2 l0 0)), (1, .ref (ad 6 l1 0)), (2, .int (iI l2))] → W p l e ({ frames := 4, cells := 0, slots := 0, locals := 101 } : Room) s m args below meth c H locs 0 0 (MQ below (Q_Layout_breakLines K D ca ad L r F9 B9 A) args s 0 0 A) (F0 m 148 ls []) := by
  obtain ⟨hx, hb, hr, hml, hown, hts, hlk, hK, hA, hL, hX⟩ := id X
  intro n
  induction n with
  | zero =>
    intros
    rename_i hf _ _ _
    cases hf
  | succ n ih =>
    intro l5 l0 l1 l2 F B H locs ls hf hZ hS hl
    replace hf : (if 0 ≤ l0 ∧ l0 < K.2 2 then if r32 l5 then if r32 (F 2 l0 0) then (if (F 2 l0 0) ≤ l5 then some (F 2 l0 0, F, B) else zbind (f_Layout_setXs K l0 l1 l5 l2 F B) (fun r30 F30 B30 => f_Layout_breakLines_148 K n (l5 + 1) l0 l1 l2 F30 B30)) else none else none else none) = some (r, F9, B9) := hf
    refine lv_iload hx hb d_4_2_148 (lv_at hl 0 rfl) ?_
    refine lv_aload_n hx hb d_4_2_150 rfl (lv_at hl 1 rfl) ?_
    obtain ⟨g26, hf⟩ := gif hf
    refine zget (ci := 2) (C := RX2) (T := TX2) (v := .int (iI (F 2 l0 0))) (k := 0) hx hb hts inW_2 hown hK hZ g26.1 g26.2 rfl (by decide) k_6_215 rfl d_4_2_151 ?_
    obtain ⟨g27, hf⟩ := gif hf
    obtain ⟨g28, hf⟩ := gif hf
    refine zge (tgt := 171) hx hb g27 g28 d_4_2_154 (by decide) (fun h29 => ?_) (fun h29 => ?_)
    · replace hf := gpos hf h29
      refine lv_aload_n hx hb d_4_2_171 rfl (lv_at hl 1 rfl) ?_
      refine zget (ci := 2) (C := RX2) (T := TX2) (v := .int (iI (F 2 l0 0))) (k := 0) hx hb hts inW_2 hown hK hZ g26.1 g26.2 rfl (by decide) k_6_215 rfl d_4_2_172 ?_
      cases hf
      exact W.iret hx hb hr (fun t ht hW => ⟨⟨_, (), rfl, rfl, by rw [ht]; exact hZ, va_K.moved hW.alike hK⟩, hS.F ht⟩) hS.2.2 d_4_2_175 hlk
    · replace hf := gneg hf h29
      refine lv_aload_n hx hb d_4_2_157 rfl (lv_at hl 1 rfl) ?_
      refine lv_aload_n hx hb d_4_2_158 rfl (lv_at hl 2 rfl) ?_
      refine lv_iload hx hb d_4_2_159 (lv_at hl 0 rfl) ?_
      refine lv_iload_n hx hb d_4_2_161 rfl (lv_at hl 3 rfl) ?_
      obtain ⟨r30, F30, B30, hc30, hf⟩ := gbind hf
      refine va_callv (va_runV (As := [.ref (ad 6 l1 0), .int (iI l5), .int (iI l2)]) (rest := []) ⟨hx, hb, hml, hown, hts⟩ (c_Layout_setXs (l := l) hc30) (cwV 3 hts (gdV k_7_63 k_7_65 ks_85 k_1_21 k_7_66) rfl rfl rfl (by decide +kernel) ⟨Nat.le_of_ble_eq_true rfl, Nat.le_of_ble_eq_true rfl⟩) (zPV X hZ hS (ci := 2) g26.1 g26.2 (r := (RX2, TX2, 13)) rfl [.ref (ad 6 l1 0), .int (iI l5), .int (iI l2)]) rfl rfl hl.1 rfl (lv_room (Nat.le_of_ble_eq_true rfl)) d_4_2_162 ⟨Nat.le_of_ble_eq_true rfl, Nat.le_of_ble_eq_true rfl⟩) hS (fun q _ h => zAin X hS q h) (zAin X hS) (fun u30 t30 H30 locs30 ht30 hv30 hw30 hB30 hz30 hk30 hS30 => ?_)
      have hZ30 := zBack X ht30 hB30
      refine lv_iinc (v := iI (l5 + 1)) (lv' := [(5, .int (iI (l5 + 1))), (0, .ref (ad 2 l0 0)), (1, .ref (ad 6 l1 0)), (2, .int (iI l2))]) hx hb d_4_2_165 hl (k := 0) rfl (iI_add _ 1) (by decide) rfl (fun ls hl => ?_)
      refine lv_goto (tgt := 148) hx hb d_4_2_168 (by decide) ?_
      exact ih hf hZ30 hS30 (lv_sub hl [0, 1, 2, 3] rfl)

noncomputable def f_Layout_breakLines_135 (K : zK) (l3 : Int) (l0 : Int) (l1 : Int) (l2 : Int) (F : zF) (B : zB) : zO := if 0 ≤ l0 ∧ l0 < K.2 2 then if 0 ≤ (F 2 l0 0) ∧ (F 2 l0 0) < 101 then f_Layout_breakLines_148 K K.1 0 l0 l1 l2 F (zup4 B 2 l0 7 (F 2 l0 0) l3) else none else none
set_option maxHeartbeats 4000000 in
set_option maxRecDepth 100000 in
theorem b_Layout_breakLines_135 {D : va_G} {ca : Nat → ClassId} {ad : Nat → Int → Nat → Nat} {L : List Nat} {aS vS : Nat → Nat} {A : Nat → Prop} {p : Program} {l : Launch} {e : Env} {s : State} {m : MethodId} {args : Array Value} {below : List Frame} {meth : Method} {c : Code} {K : zK} {r : Int} {F9 : zF} {B9 : zB} (X : zX D ca L aS vS A p s m args meth c prog_4_method_2_code 6 (Option.some Jvm.ClassFile.FieldType.int) "StaveHouse$Layout") {l3 : Int} {l0 : Int} {l1 : Int} {l2 : Int} {F : zF} {B : zB} {H : Heap} {locs : List Loc} {ls : Array Slot} (hf : f_Layout_breakLines_135 K l3 l0 l1 l2 F B = some (r, F9, B9)) (hZ : zH D ca ad lnC K.2 L F B A H) (hS : va_S A s.heap H locs) (hl : lv_has ls 6 [(3, .int (iI l3)), (0, .ref (ad 2 l0 0)), (1, .ref (ad 6 l1 0)), (2, .int (iI l2))]) : W p l e ({ frames := 4, cells := 0, slots := 0, locals := 101 } : Room) s m args below meth c H locs 0 0 (MQ below (Q_Layout_breakLines K D ca ad L r F9 B9 A) args s 0 0 A) (F0 m 135 ls []) := by
  obtain ⟨hx, hb, hr, hml, hown, hts, hlk, hK, hA, hL, hX⟩ := id X
  replace hf : (if 0 ≤ l0 ∧ l0 < K.2 2 then if 0 ≤ (F 2 l0 0) ∧ (F 2 l0 0) < 101 then f_Layout_breakLines_148 K K.1 0 l0 l1 l2 F (zup4 B 2 l0 7 (F 2 l0 0) l3) else none else none) = some (r, F9, B9) := hf
  refine lv_aload_n hx hb d_4_2_135 rfl (lv_at hl 1 rfl) ?_
  obtain ⟨g23, hf⟩ := gif hf
  refine zget (ci := 2) (C := RX2) (T := TX2) (v := .ref (ad 2 l0 (7 + 1))) (k := 7) hx hb hts inW_2 hown hK hZ g23.1 g23.2 rfl (by decide) k_6_224 rfl d_4_2_136 ?_
  refine lv_aload_n hx hb d_4_2_139 rfl (lv_at hl 1 rfl) ?_
  refine zget (ci := 2) (C := RX2) (T := TX2) (v := .int (iI (F 2 l0 0))) (k := 0) hx hb hts inW_2 hown hK hZ g23.1 g23.2 rfl (by decide) k_6_215 rfl d_4_2_140 ?_
  refine lv_iload_n hx hb d_4_2_143 rfl (lv_at hl 0 rfl) ?_
  obtain ⟨g24, hf⟩ := gif hf
  refine zast (ci := 2) (k := 7) hx hb hK rfl hZ hS g23.1 g23.2 rfl (Nat.le_of_ble_eq_true rfl) g24.1 g24.2 d_4_2_144 (fun H25 locs25 hZ25 hS25 => ?_)
  refine lv_iconst (v := iI 0) hx hb d_4_2_145 rfl ?_
  refine lv_istore (lv' := [(5, .int (iI 0)), (3, .int (iI l3)), (0, .ref (ad 2 l0 0)), (1, .ref (ad 6 l1 0)), (2, .int (iI l2))]) hx hb d_4_2_146 hl (by decide) rfl (fun ls hl => ?_)
  exact b_Layout_breakLines_148 X hf hZ25 hS25 (lv_sub hl [0, 2, 3, 4] rfl)

noncomputable def f_Layout_breakLines_34 (K : zK) : Nat → Int → Int → Int → Int → Int → Int → zF → zB → zO
  | 0, _, _, _, _, _, _, _, _ => none
  | n + 1, l5, l4, l3, l0, l1, l2, F, B => if r32 l5 then (if 100 ≤ l5 then f_Layout_breakLines_135 K l3 l0 l1 l2 F B else if r32 l4 then if r32 l3 then (if l3 ≤ l4 then f_Layout_breakLines_135 K l3 l0 l1 l2 F B else if 0 ≤ l0 ∧ l0 < K.2 2 then if 0 ≤ (F 2 l0 0) ∧ (F 2 l0 0) < 101 then if 0 ≤ l4 ∧ l4 < 101 then zbind (f_Layout_widthOf K l0 l1 l4 ((zup4 B 2 l0 7 (F 2 l0 0) l4) 2 l0 11 l4) F (zup4 B 2 l0 7 (F 2 l0 0) l4)) (fun r16 F16 B16 => if 0 ≤ (F 2 l0 0) ∧ (F 2 l0 0) < 100 then if 0 ≤ ((zup4 B16 2 l0 8 (F 2 l0 0) r16) 2 l0 11 l4) ∧ ((zup4 B16 2 l0 8 (F 2 l0 0) r16) 2 l0 11 l4) < 101 then if 0 ≤ (F16 2 l0 0) ∧ (F16 2 l0 0) < 100 then f_Layout_breakLines_34 K n (l5 + 1) ((zup4 (zup4 B16 2 l0 8 (F 2 l0 0) r16) 2 l0 9 (F16 2 l0 0) (((zup4 B16 2 l0 8 (F 2 l0 0) r16) 2 l0 10 l4) - ((zup4 B16 2 l0 8 (F 2 l0 0) r16) 2 l0 10 ((zup4 B16 2 l0 8 (F 2 l0 0) r16) 2 l0 11 l4)))) 2 l0 11 l4) l3 l0 l1 l2 (zup3 F16 2 l0 0 ((F16 2 l0 0) + 1)) (zup4 (zup4 B16 2 l0 8 (F 2 l0 0) r16) 2 l0 9 (F16 2 l0 0) (((zup4 B16 2 l0 8 (F 2 l0 0) r16) 2 l0 10 l4) - ((zup4 B16 2 l0 8 (F 2 l0 0) r16) 2 l0 10 ((zup4 B16 2 l0 8 (F 2 l0 0) r16) 2 l0 11 l4)))) else none else none else none) else none else none else none) else none else none) else none
set_option maxHeartbeats 4000000 in
set_option maxRecDepth 100000 in
theorem b_Layout_breakLines_34 {D : va_G} {ca : Nat → ClassId} {ad : Nat → Int → Nat → Nat} {L : List Nat} {aS vS : Nat → Nat} {A : Nat → Prop} {p : Program} {l : Launch} {e : Env} {s : State} {m : MethodId} {args : Array Value} {below : List Frame} {meth : Method} {c : Code} {K : zK} {r : Int} {F9 : zF} {B9 : zB} (X : zX D ca L aS vS A p s m args meth c prog_4_method_2_code 6 (Option.some Jvm.ClassFile.FieldType.int) "StaveHouse$Layout") : ∀ {n : Nat} {l5 : Int} {l4 : Int} {l3 : Int} {l0 : Int} {l1 : Int} {l2 : Int} {F : zF} {B : zB} {H : Heap} {locs : List Loc} {ls : Array Slot}, f_Layout_breakLines_34 K n l5 l4 l3 l0 l1 l2 F B = some (r, F9, B9) → zH D ca ad lnC K.2 L F B A H → va_S A s.heap H locs → lv_has ls 6 [(5, .int (iI l5)), (4, .int (iI l4)), (3, .int (iI l3)), (0, .ref (ad 2 l0 0)), (1, .ref (ad 6 l1 0)), (2, .int (iI l2))] → W p l e ({ frames := 4, cells := 0, slots := 0, locals := 101 } : Room) s m args below meth c H locs 0 0 (MQ below (Q_Layout_breakLines K D ca ad L r F9 B9 A) args s 0 0 A) (F0 m 34 ls []) := by
  obtain ⟨hx, hb, hr, hml, hown, hts, hlk, hK, hA, hL, hX⟩ := id X
  intro n
  induction n with
  | zero =>
    intros
    rename_i hf _ _ _
    cases hf
  | succ n ih =>
    intro l5 l4 l3 l0 l1 l2 F B H locs ls hf hZ hS hl
    replace hf : (if r32 l5 then (if 100 ≤ l5 then f_Layout_breakLines_135 K l3 l0 l1 l2 F B else if r32 l4 then if r32 l3 then (if l3 ≤ l4 then f_Layout_breakLines_135 K l3 l0 l1 l2 F B else if 0 ≤ l0 ∧ l0 < K.2 2 then if 0 ≤ (F 2 l0 0) ∧ (F 2 l0 0) < 101 then if 0 ≤ l4 ∧ l4 < 101 then zbind (f_Layout_widthOf K l0 l1 l4 ((zup4 B 2 l0 7 (F 2 l0 0) l4) 2 l0 11 l4) F (zup4 B 2 l0 7 (F 2 l0 0) l4)) (fun r16 F16 B16 => if 0 ≤ (F 2 l0 0) ∧ (F 2 l0 0) < 100 then if 0 ≤ ((zup4 B16 2 l0 8 (F 2 l0 0) r16) 2 l0 11 l4) ∧ ((zup4 B16 2 l0 8 (F 2 l0 0) r16) 2 l0 11 l4) < 101 then if 0 ≤ (F16 2 l0 0) ∧ (F16 2 l0 0) < 100 then f_Layout_breakLines_34 K n (l5 + 1) ((zup4 (zup4 B16 2 l0 8 (F 2 l0 0) r16) 2 l0 9 (F16 2 l0 0) (((zup4 B16 2 l0 8 (F 2 l0 0) r16) 2 l0 10 l4) - ((zup4 B16 2 l0 8 (F 2 l0 0) r16) 2 l0 10 ((zup4 B16 2 l0 8 (F 2 l0 0) r16) 2 l0 11 l4)))) 2 l0 11 l4) l3 l0 l1 l2 (zup3 F16 2 l0 0 ((F16 2 l0 0) + 1)) (zup4 (zup4 B16 2 l0 8 (F 2 l0 0) r16) 2 l0 9 (F16 2 l0 0) (((zup4 B16 2 l0 8 (F 2 l0 0) r16) 2 l0 10 l4) - ((zup4 B16 2 l0 8 (F 2 l0 0) r16) 2 l0 10 ((zup4 B16 2 l0 8 (F 2 l0 0) r16) 2 l0 11 l4)))) else none else none else none) else none else none else none) else none else none) else none) = some (r, F9, B9) := hf
    refine lv_iload hx hb d_4_2_34 (lv_at hl 0 rfl) ?_
    refine lv_bipush (v := iI 100) hx hb d_4_2_36 (by decide) ?_
    obtain ⟨g7, hf⟩ := gif hf
    refine zge (tgt := 135) hx hb g7 (by decide) d_4_2_38 (by decide) (fun h8 => ?_) (fun h8 => ?_)
    · replace hf := gpos hf h8
      exact b_Layout_breakLines_135 X hf hZ hS (lv_sub hl [2, 3, 4, 5] rfl)
    · replace hf := gneg hf h8
      refine lv_iload hx hb d_4_2_41 (lv_at hl 1 rfl) ?_
      refine lv_iload_n hx hb d_4_2_43 rfl (lv_at hl 2 rfl) ?_
      obtain ⟨g9, hf⟩ := gif hf
      obtain ⟨g10, hf⟩ := gif hf
      refine zge (tgt := 135) hx hb g9 g10 d_4_2_44 (by decide) (fun h11 => ?_) (fun h11 => ?_)
      · replace hf := gpos hf h11
        exact b_Layout_breakLines_135 X hf hZ hS (lv_sub hl [2, 3, 4, 5] rfl)
      · replace hf := gneg hf h11
        refine lv_aload_n hx hb d_4_2_47 rfl (lv_at hl 3 rfl) ?_
        obtain ⟨g12, hf⟩ := gif hf
        refine zget (ci := 2) (C := RX2) (T := TX2) (v := .ref (ad 2 l0 (7 + 1))) (k := 7) hx hb hts inW_2 hown hK hZ g12.1 g12.2 rfl (by decide) k_6_224 rfl d_4_2_48 ?_
        refine lv_aload_n hx hb d_4_2_51 rfl (lv_at hl 3 rfl) ?_
        refine zget (ci := 2) (C := RX2) (T := TX2) (v := .int (iI (F 2 l0 0))) (k := 0) hx hb hts inW_2 hown hK hZ g12.1 g12.2 rfl (by decide) k_6_215 rfl d_4_2_52 ?_
        refine lv_iload hx hb d_4_2_55 (lv_at hl 1 rfl) ?_
        obtain ⟨g13, hf⟩ := gif hf
        refine zast (ci := 2) (k := 7) hx hb hK rfl hZ hS g12.1 g12.2 rfl (Nat.le_of_ble_eq_true rfl) g13.1 g13.2 d_4_2_57 (fun H14 locs14 hZ14 hS14 => ?_)
        refine lv_aload_n hx hb d_4_2_58 rfl (lv_at hl 3 rfl) ?_
        refine zget (ci := 2) (C := RX2) (T := TX2) (v := .ref (ad 2 l0 (8 + 1))) (k := 8) hx hb hts inW_2 hown hK hZ14 g12.1 g12.2 rfl (by decide) k_6_225 rfl d_4_2_59 ?_
        refine lv_aload_n hx hb d_4_2_62 rfl (lv_at hl 3 rfl) ?_
        refine zget (ci := 2) (C := RX2) (T := TX2) (v := .int (iI (F 2 l0 0))) (k := 0) hx hb hts inW_2 hown hK hZ14 g12.1 g12.2 rfl (by decide) k_6_215 rfl d_4_2_63 ?_
        refine lv_aload_n hx hb d_4_2_66 rfl (lv_at hl 3 rfl) ?_
        refine lv_aload_n hx hb d_4_2_67 rfl (lv_at hl 4 rfl) ?_
        refine lv_iload hx hb d_4_2_68 (lv_at hl 1 rfl) ?_
        refine lv_aload_n hx hb d_4_2_70 rfl (lv_at hl 3 rfl) ?_
        refine zget (ci := 2) (C := RX2) (T := TX2) (v := .ref (ad 2 l0 (11 + 1))) (k := 11) hx hb hts inW_2 hown hK hZ14 g12.1 g12.2 rfl (by decide) k_6_228 rfl d_4_2_71 ?_
        refine lv_iload hx hb d_4_2_74 (lv_at hl 1 rfl) ?_
        obtain ⟨g15, hf⟩ := gif hf
        refine zald (ci := 2) (k := 11) hx hb hK rfl hZ14 g12.1 g12.2 rfl (Nat.le_of_ble_eq_true rfl) g15.1 g15.2 d_4_2_76 ?_
        obtain ⟨r16, F16, B16, hc16, hf⟩ := gbind hf
        refine va_calli (va_runV (As := [.ref (ad 6 l1 0), .int (iI l4), .int (iI ((zup4 B 2 l0 7 (F 2 l0 0) l4) 2 l0 11 l4))]) (rest := [.int (iI (F 2 l0 0)), .ref (ad 2 l0 (8 + 1))]) ⟨hx, hb, hml, hown, hts⟩ (c_Layout_widthOf (l := l) hc16) (cwV 3 hts (gdV k_7_59 k_7_61 ks_84 k_1_21 k_7_62) rfl rfl rfl (by decide +kernel) ⟨Nat.le_of_ble_eq_true rfl, Nat.le_of_ble_eq_true rfl⟩) (zPV X hZ14 hS14 (ci := 2) g12.1 g12.2 (r := (RX2, TX2, 13)) rfl [.ref (ad 6 l1 0), .int (iI l4), .int (iI ((zup4 B 2 l0 7 (F 2 l0 0) l4) 2 l0 11 l4))]) rfl rfl hl.1 rfl (lv_room (Nat.le_of_ble_eq_true rfl)) d_4_2_77 ⟨Nat.le_of_ble_eq_true rfl, Nat.le_of_ble_eq_true rfl⟩) hS14 (fun q _ h => zAin X hS14 q h) (zAin X hS14) (fun p16 u16 t16 H16 locs16 ht16 hv16 hw16 hB16 hz16 hk16 hS16 => ?_)
        have hZ16 := zBack X ht16 hB16
        subst hw16
        obtain ⟨g17, hf⟩ := gif hf
        refine zast (ci := 2) (k := 8) hx hb hK rfl hZ16 hS16 g12.1 g12.2 rfl (Nat.le_of_ble_eq_true rfl) g17.1 g17.2 d_4_2_80 (fun H18 locs18 hZ18 hS18 => ?_)
        refine lv_aload_n hx hb d_4_2_81 rfl (lv_at hl 3 rfl) ?_
        refine zget (ci := 2) (C := RX2) (T := TX2) (v := .ref (ad 2 l0 (9 + 1))) (k := 9) hx hb hts inW_2 hown hK hZ18 g12.1 g12.2 rfl (by decide) k_6_226 rfl d_4_2_82 ?_
        refine lv_aload_n hx hb d_4_2_85 rfl (lv_at hl 3 rfl) ?_
        refine zget (ci := 2) (C := RX2) (T := TX2) (v := .int (iI (F16 2 l0 0))) (k := 0) hx hb hts inW_2 hown hK hZ18 g12.1 g12.2 rfl (by decide) k_6_215 rfl d_4_2_86 ?_
        refine lv_aload_n hx hb d_4_2_89 rfl (lv_at hl 3 rfl) ?_
        refine zget (ci := 2) (C := RX2) (T := TX2) (v := .ref (ad 2 l0 (10 + 1))) (k := 10) hx hb hts inW_2 hown hK hZ18 g12.1 g12.2 rfl (by decide) k_6_227 rfl d_4_2_90 ?_
        refine lv_iload hx hb d_4_2_93 (lv_at hl 1 rfl) ?_
        refine zlald (ci := 2) (k := 10) hx hb hK rfl hZ18 g12.1 g12.2 rfl (Nat.le_of_ble_eq_true rfl) g15.1 g15.2 d_4_2_95 ?_
        refine lv_aload_n hx hb d_4_2_96 rfl (lv_at hl 3 rfl) ?_
        refine zget (ci := 2) (C := RX2) (T := TX2) (v := .ref (ad 2 l0 (10 + 1))) (k := 10) hx hb hts inW_2 hown hK hZ18 g12.1 g12.2 rfl (by decide) k_6_227 rfl d_4_2_97 ?_
        refine lv_aload_n hx hb d_4_2_100 rfl (lv_at hl 3 rfl) ?_
        refine zget (ci := 2) (C := RX2) (T := TX2) (v := .ref (ad 2 l0 (11 + 1))) (k := 11) hx hb hts inW_2 hown hK hZ18 g12.1 g12.2 rfl (by decide) k_6_228 rfl d_4_2_101 ?_
        refine lv_iload hx hb d_4_2_104 (lv_at hl 1 rfl) ?_
        refine zald (ci := 2) (k := 11) hx hb hK rfl hZ18 g12.1 g12.2 rfl (Nat.le_of_ble_eq_true rfl) g15.1 g15.2 d_4_2_106 ?_
        obtain ⟨g19, hf⟩ := gif hf
        refine zlald (ci := 2) (k := 10) hx hb hK rfl hZ18 g12.1 g12.2 rfl (Nat.le_of_ble_eq_true rfl) g19.1 g19.2 d_4_2_107 ?_
        refine zlsub hx hb d_4_2_108 ?_
        obtain ⟨g20, hf⟩ := gif hf
        refine zlast (ci := 2) (k := 9) hx hb hK rfl hZ18 hS18 g12.1 g12.2 rfl (Nat.le_of_ble_eq_true rfl) g20.1 g20.2 d_4_2_109 (fun H21 locs21 hZ21 hS21 => ?_)
        refine lv_aload_n hx hb d_4_2_110 rfl (lv_at hl 3 rfl) ?_
        refine zget (ci := 2) (C := RX2) (T := TX2) (v := .ref (ad 2 l0 (11 + 1))) (k := 11) hx hb hts inW_2 hown hK hZ21 g12.1 g12.2 rfl (by decide) k_6_228 rfl d_4_2_111 ?_
        refine lv_iload hx hb d_4_2_114 (lv_at hl 1 rfl) ?_
        refine zald (ci := 2) (k := 11) hx hb hK rfl hZ21 g12.1 g12.2 rfl (Nat.le_of_ble_eq_true rfl) g15.1 g15.2 d_4_2_116 ?_
        refine lv_istore (lv' := [(4, .int (iI ((zup4 (zup4 B16 2 l0 8 (F 2 l0 0) r16) 2 l0 9 (F16 2 l0 0) (((zup4 B16 2 l0 8 (F 2 l0 0) r16) 2 l0 10 l4) - ((zup4 B16 2 l0 8 (F 2 l0 0) r16) 2 l0 10 ((zup4 B16 2 l0 8 (F 2 l0 0) r16) 2 l0 11 l4)))) 2 l0 11 l4))), (5, .int (iI l5)), (3, .int (iI l3)), (0, .ref (ad 2 l0 0)), (1, .ref (ad 6 l1 0)), (2, .int (iI l2))]) hx hb d_4_2_117 hl (by decide) rfl (fun ls hl => ?_)
        refine lv_aload_n hx hb d_4_2_119 rfl (lv_at hl 3 rfl) ?_
        refine lv_dup hx hb d_4_2_120 rfl ?_
        refine zget (ci := 2) (C := RX2) (T := TX2) (v := .int (iI (F16 2 l0 0))) (k := 0) hx hb hts inW_2 hown hK hZ21 g12.1 g12.2 rfl (by decide) k_6_215 rfl d_4_2_121 ?_
        refine lv_iconst (v := iI 1) hx hb d_4_2_124 rfl ?_
        refine zadd hx hb d_4_2_125 ?_
        refine zput (ci := 2) (C := RX2) (T := TX2) (k := 0) (v := ((F16 2 l0 0) + 1)) (w := .int (iI ((F16 2 l0 0) + 1))) hx hb hts inW_2 tyX2 tyX2_ok nmX2 hown hK hZ21 hS21 g12.1 g12.2 rfl (by decide) k_6_215 rfl (fun G h => congrArg (fun q => Value.int (iI q)) h) rfl rfl (zno (by decide)) d_4_2_126 (fun H22 locs22 hZ22 hS22 => ?_)
        refine lv_iinc (v := iI (l5 + 1)) (lv' := [(5, .int (iI (l5 + 1))), (4, .int (iI ((zup4 (zup4 B16 2 l0 8 (F 2 l0 0) r16) 2 l0 9 (F16 2 l0 0) (((zup4 B16 2 l0 8 (F 2 l0 0) r16) 2 l0 10 l4) - ((zup4 B16 2 l0 8 (F 2 l0 0) r16) 2 l0 10 ((zup4 B16 2 l0 8 (F 2 l0 0) r16) 2 l0 11 l4)))) 2 l0 11 l4))), (3, .int (iI l3)), (0, .ref (ad 2 l0 0)), (1, .ref (ad 6 l1 0)), (2, .int (iI l2))]) hx hb d_4_2_129 hl (k := 1) rfl (iI_add _ 1) (by decide) rfl (fun ls hl => ?_)
        refine lv_goto (tgt := 34) hx hb d_4_2_132 (by decide) ?_
        exact ih hf hZ22 hS22 (lv_sub hl [0, 1, 2, 3, 4, 5] rfl)

noncomputable def f_Layout_breakLines (K : zK) (l0 : Int) (l1 : Int) (l2 : Int) (F : zF) (B : zB) : zO := if 0 ≤ l1 ∧ l1 < K.2 6 then if r32 (F 6 l1 7) then if 0 ≤ l0 ∧ l0 < K.2 2 then zbind (f_Layout_setColumns K l0 l1 (zmin (F 6 l1 7) 100) F B) (fun r4 F4 B4 => zbind (f_Layout_choose K l0 l1 (zmin (F 6 l1 7) 100) l2 F4 B4) (fun r5 F5 B5 => f_Layout_breakLines_34 K K.1 0 0 (zmin (F 6 l1 7) 100) l0 l1 l2 (zup3 F5 2 l0 0 0) B5)) else none else none else none
set_option maxHeartbeats 4000000 in
set_option maxRecDepth 100000 in
theorem c_Layout_breakLines {l : Launch} {D : va_G} {ca : Nat → ClassId} {ad : Nat → Int → Nat → Nat} {L : List Nat} {aS vS : Nat → Nat} {sz : Nat} {K : zK}  {l0 : Int} {l1 : Int} {l2 : Int} {F F9 : zF} {B B9 : zB} {r : Int} (hf : f_Layout_breakLines K l0 l1 l2 F B = some (r, F9, B9)) : Met l ({ cls := "StaveHouse$Layout", name := "breakLines", desc := "(LStaveHouse$Piece;I)I" } : Jvm.MethodName) (Cond.code ({ cls := "StaveHouse$Layout", name := "breakLines", desc := "(LStaveHouse$Piece;I)I" } : Jvm.MethodName) prog_4_method_2_code 6 (Option.some Jvm.ClassFile.FieldType.int) :: wAll) ({ frames := 4, cells := 0, slots := 0, locals := 101 } : Room) (va_Pc [.ref (ad 2 l0 0), .ref (ad 6 l1 0), .int (iI l2)] (zPre D ca ad lnC K.2 L aS vS F B sz)) (Q_Layout_breakLines K D ca ad L r F9 B9 (zA L sz)) 0 0 (zA L sz) := by
  refine zMet (Qc := Q_Layout_breakLines K D ca ad L r F9 B9) (lv := [(0, .ref (ad 2 l0 0)), (1, .ref (ad 6 l1 0)), (2, .int (iI l2))]) (by decide) (Nat.le_of_ble_eq_true rfl) rfl (fun A p e s m below meth c ls X hZ hS hl => ?_)
  obtain ⟨hx, hb, hr, hml, hown, hts, hlk, hK, hA, hL, hX⟩ := id X
  replace hf : (if 0 ≤ l1 ∧ l1 < K.2 6 then if r32 (F 6 l1 7) then if 0 ≤ l0 ∧ l0 < K.2 2 then zbind (f_Layout_setColumns K l0 l1 (zmin (F 6 l1 7) 100) F B) (fun r4 F4 B4 => zbind (f_Layout_choose K l0 l1 (zmin (F 6 l1 7) 100) l2 F4 B4) (fun r5 F5 B5 => f_Layout_breakLines_34 K K.1 0 0 (zmin (F 6 l1 7) 100) l0 l1 l2 (zup3 F5 2 l0 0 0) B5)) else none else none else none) = some (r, F9, B9) := hf
  refine lv_aload_n hx hb d_4_2_0 rfl (lv_at hl 1 rfl) ?_
  obtain ⟨g1, hf⟩ := gif hf
  refine zget (ci := 6) (C := RX6) (T := TX6) (v := .int (iI (F 6 l1 7))) (k := 7) hx hb hts inW_6 hown hK hZ g1.1 g1.2 rfl (by decide) k_2_221 rfl d_4_2_1 ?_
  refine lv_bipush (v := iI 100) hx hb d_4_2_4 (by decide) ?_
  obtain ⟨g2, hf⟩ := gif hf
  refine va_mmin hx hb (by rw [hml]; exact hl.1.symm) hown (hts _ k_7_21) (hts _ k_3_97) (hts _ k_1_3) (hts _ k_3_98) (Nat.le_of_ble_eq_true rfl) (Nat.le_of_ble_eq_true rfl) (Nat.le_of_ble_eq_true rfl) (Nat.le_of_ble_eq_true rfl) d_4_2_6 ?_
  rw [zmin_e g2 (by decide)]
  refine lv_istore_n (lv' := [(3, .int (iI (zmin (F 6 l1 7) 100))), (0, .ref (ad 2 l0 0)), (1, .ref (ad 6 l1 0)), (2, .int (iI l2))]) hx hb d_4_2_9 rfl hl (by decide) rfl (fun ls hl => ?_)
  refine lv_aload_n hx hb d_4_2_10 rfl (lv_at hl 1 rfl) ?_
  refine lv_aload_n hx hb d_4_2_11 rfl (lv_at hl 2 rfl) ?_
  refine lv_iload_n hx hb d_4_2_12 rfl (lv_at hl 0 rfl) ?_
  obtain ⟨g3, hf⟩ := gif hf
  obtain ⟨r4, F4, B4, hc4, hf⟩ := gbind hf
  refine va_callv (va_runV (As := [.ref (ad 6 l1 0), .int (iI (zmin (F 6 l1 7) 100))]) (rest := []) ⟨hx, hb, hml, hown, hts⟩ (c_Layout_setColumns (l := l) hc4) (cwV 2 hts (gdV k_7_22 k_7_24 ks_79 k_1_21 k_7_25) rfl rfl rfl (by decide +kernel) ⟨Nat.le_of_ble_eq_true rfl, Nat.le_of_ble_eq_true rfl⟩) (zPV X hZ hS (ci := 2) g3.1 g3.2 (r := (RX2, TX2, 13)) rfl [.ref (ad 6 l1 0), .int (iI (zmin (F 6 l1 7) 100))]) rfl rfl hl.1 rfl (lv_room (Nat.le_of_ble_eq_true rfl)) d_4_2_13 ⟨Nat.le_of_ble_eq_true rfl, Nat.le_of_ble_eq_true rfl⟩) hS (fun q _ h => zAin X hS q h) (zAin X hS) (fun u4 t4 H4 locs4 ht4 hv4 hw4 hB4 hz4 hk4 hS4 => ?_)
  have hZ4 := zBack X ht4 hB4
  refine lv_aload_n hx hb d_4_2_16 rfl (lv_at hl 1 rfl) ?_
  refine lv_aload_n hx hb d_4_2_17 rfl (lv_at hl 2 rfl) ?_
  refine lv_iload_n hx hb d_4_2_18 rfl (lv_at hl 0 rfl) ?_
  refine lv_iload_n hx hb d_4_2_19 rfl (lv_at hl 3 rfl) ?_
  obtain ⟨r5, F5, B5, hc5, hf⟩ := gbind hf
  refine va_callv (va_runV (As := [.ref (ad 6 l1 0), .int (iI (zmin (F 6 l1 7) 100)), .int (iI l2)]) (rest := []) ⟨hx, hb, hml, hown, hts⟩ (c_Layout_choose (l := l) hc5) (cwV 3 hts (gdV k_7_46 k_7_48 ks_83 k_1_21 k_7_49) rfl rfl rfl (by decide +kernel) ⟨Nat.le_of_ble_eq_true rfl, Nat.le_of_ble_eq_true rfl⟩) (zPV X hZ4 hS4 (ci := 2) g3.1 g3.2 (r := (RX2, TX2, 13)) rfl [.ref (ad 6 l1 0), .int (iI (zmin (F 6 l1 7) 100)), .int (iI l2)]) rfl rfl hl.1 rfl (lv_room (Nat.le_of_ble_eq_true rfl)) d_4_2_20 ⟨Nat.le_of_ble_eq_true rfl, Nat.le_of_ble_eq_true rfl⟩) hS4 (fun q _ h => zAin X hS4 q h) (zAin X hS4) (fun u5 t5 H5 locs5 ht5 hv5 hw5 hB5 hz5 hk5 hS5 => ?_)
  have hZ5 := zBack X ht5 hB5
  refine lv_aload_n hx hb d_4_2_23 rfl (lv_at hl 1 rfl) ?_
  refine lv_iconst (v := iI 0) hx hb d_4_2_24 rfl ?_
  refine zput (ci := 2) (C := RX2) (T := TX2) (k := 0) (v := 0) (w := .int (iI 0)) hx hb hts inW_2 tyX2 tyX2_ok nmX2 hown hK hZ5 hS5 g3.1 g3.2 rfl (by decide) k_6_215 rfl (fun G h => congrArg (fun q => Value.int (iI q)) h) rfl rfl (zno (by decide)) d_4_2_25 (fun H6 locs6 hZ6 hS6 => ?_)
  refine lv_iconst (v := iI 0) hx hb d_4_2_28 rfl ?_
  refine lv_istore (lv' := [(4, .int (iI 0)), (3, .int (iI (zmin (F 6 l1 7) 100))), (0, .ref (ad 2 l0 0)), (1, .ref (ad 6 l1 0)), (2, .int (iI l2))]) hx hb d_4_2_29 hl (by decide) rfl (fun ls hl => ?_)
  refine lv_iconst (v := iI 0) hx hb d_4_2_31 rfl ?_
  refine lv_istore (lv' := [(5, .int (iI 0)), (4, .int (iI 0)), (3, .int (iI (zmin (F 6 l1 7) 100))), (0, .ref (ad 2 l0 0)), (1, .ref (ad 6 l1 0)), (2, .int (iI l2))]) hx hb d_4_2_32 hl (by decide) rfl (fun ls hl => ?_)
  exact b_Layout_breakLines_34 X hf hZ6 hS6 (lv_sub hl [0, 1, 2, 3, 4, 5] rfl)

