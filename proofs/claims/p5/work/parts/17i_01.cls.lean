theorem d_1_13_7 : decode prog_1_method_13_code 7 = .ok (.astore 5, 2) := D_58 W_prog_1_method_13_code_0 7 rfl rfl
theorem d_1_13_9 : decode prog_1_method_13_code 9 = .ok (.aload 5, 2) := D_25 W_prog_1_method_13_code_0 9 rfl rfl
theorem d_1_13_11 : decode prog_1_method_13_code 11 = .ok (.ifnonnull 7, 3) := D_199 W_prog_1_method_13_code_0 11 rfl rfl rfl
theorem d_1_13_18 : decode prog_1_method_13_code 18 = .ok (.iload 4, 2) := D_21 W_prog_1_method_13_code_0 18 rfl rfl
theorem d_1_13_20 : decode prog_1_method_13_code 20 = .ok (.tableswitch 112 0 7 #[48, 57, 66, 75, 84, 91, 98, 105], 48) := by decide +kernel
theorem W_prog_1_method_13_code_64 : chW prog_1_method_13_code 64 [0, 0, 0, 105, 25, 5, 180, 0, 193, 184, 0, 198, 173, 25, 5, 180, 0, 193, 184, 0, 201, 173, 25, 5, 180, 0, 203, 184, 0, 198, 173, 25, 5, 180, 0, 203] := chW_of (by decide +kernel)
theorem d_1_13_68 : decode prog_1_method_13_code 68 = .ok (.aload 5, 2) := D_25 W_prog_1_method_13_code_64 4 rfl rfl
theorem d_1_13_70 : decode prog_1_method_13_code 70 = .ok (.getfield 193, 3) := D_180 W_prog_1_method_13_code_64 6 rfl rfl rfl
theorem d_1_13_73 : decode prog_1_method_13_code 73 = .ok (.invokestatic 198, 3) := D_184 W_prog_1_method_13_code_64 9 rfl rfl rfl
theorem d_9_5_30 : decode prog_9_method_5_code 30 = .ok (.istore 5, 2) := D_54 W_prog_9_method_5_code_0 30 rfl rfl
theorem W_prog_9_method_5_code_32 : chW prog_9_method_5_code 32 [42, 21, 4, 181, 0, 91, 3, 54, 6, 21, 6, 42, 180, 0, 22, 180, 0, 63, 162, 0, 28, 42, 180, 0, 91, 21, 5, 162, 0, 19, 42, 42, 180, 0, 91, 21] := chW_of (by decide +kernel)
theorem d_9_5_32 : decode prog_9_method_5_code 32 = .ok (.aload_n 0, 1) := D_42 W_prog_9_method_5_code_32 0 rfl rfl
theorem d_9_5_33 : decode prog_9_method_5_code 33 = .ok (.iload 4, 2) := D_21 W_prog_9_method_5_code_32 1 rfl rfl
theorem d_9_5_35 : decode prog_9_method_5_code 35 = .ok (.putfield 91, 3) := D_181 W_prog_9_method_5_code_32 3 rfl rfl rfl
theorem d_9_5_38 : decode prog_9_method_5_code 38 = .ok (.iconst 0, 1) := D_3 W_prog_9_method_5_code_32 6 rfl rfl
theorem d_9_5_39 : decode prog_9_method_5_code 39 = .ok (.istore 6, 2) := D_54 W_prog_9_method_5_code_32 7 rfl rfl
theorem d_9_5_41 : decode prog_9_method_5_code 41 = .ok (.iload 6, 2) := D_21 W_prog_9_method_5_code_32 9 rfl rfl
theorem d_9_5_43 : decode prog_9_method_5_code 43 = .ok (.aload_n 0, 1) := D_42 W_prog_9_method_5_code_32 11 rfl rfl
theorem d_9_5_44 : decode prog_9_method_5_code 44 = .ok (.getfield 22, 3) := D_180 W_prog_9_method_5_code_32 12 rfl rfl rfl
theorem d_9_5_47 : decode prog_9_method_5_code 47 = .ok (.getfield 63, 3) := D_180 W_prog_9_method_5_code_32 15 rfl rfl rfl
theorem d_9_5_50 : decode prog_9_method_5_code 50 = .ok (.if_icmp .ge 28, 3) := D_162 W_prog_9_method_5_code_32 18 rfl rfl rfl
theorem d_9_5_53 : decode prog_9_method_5_code 53 = .ok (.aload_n 0, 1) := D_42 W_prog_9_method_5_code_32 21 rfl rfl
theorem d_9_5_54 : decode prog_9_method_5_code 54 = .ok (.getfield 91, 3) := D_180 W_prog_9_method_5_code_32 22 rfl rfl rfl
theorem d_9_5_57 : decode prog_9_method_5_code 57 = .ok (.iload 5, 2) := D_21 W_prog_9_method_5_code_32 25 rfl rfl
theorem d_9_5_59 : decode prog_9_method_5_code 59 = .ok (.if_icmp .ge 19, 3) := D_162 W_prog_9_method_5_code_32 27 rfl rfl rfl
theorem d_9_5_62 : decode prog_9_method_5_code 62 = .ok (.aload_n 0, 1) := D_42 W_prog_9_method_5_code_32 30 rfl rfl
theorem d_9_5_63 : decode prog_9_method_5_code 63 = .ok (.aload_n 0, 1) := D_42 W_prog_9_method_5_code_32 31 rfl rfl
theorem W_prog_9_method_5_code_64 : chW prog_9_method_5_code 64 [180, 0, 91, 21, 5, 182, 0, 94, 132, 6, 1, 167, 255, 222, 31, 42, 180, 0, 98, 184, 0, 102, 64, 132, 3, 1, 42, 21, 4, 182, 0, 70, 54, 4, 167, 255] := chW_of (by decide +kernel)
theorem d_9_5_64 : decode prog_9_method_5_code 64 = .ok (.getfield 91, 3) := D_180 W_prog_9_method_5_code_64 0 rfl rfl rfl
theorem d_9_5_67 : decode prog_9_method_5_code 67 = .ok (.iload 5, 2) := D_21 W_prog_9_method_5_code_64 3 rfl rfl
theorem d_9_5_69 : decode prog_9_method_5_code 69 = .ok (.invokevirtual 94, 3) := D_182 W_prog_9_method_5_code_64 5 rfl rfl rfl
theorem W_prog_7_method_25_code_96 : chW prog_7_method_25_code 96 [136, 54, 10, 43, 180, 0, 52, 42, 180, 0, 23, 3, 50, 28, 46, 50, 180, 1, 10, 54, 11, 21, 8, 21, 6, 100, 21, 10, 104, 54, 12, 21, 8, 54, 13, 21] := chW_of (by decide +kernel)
theorem d_7_25_96 : decode prog_7_method_25_code 96 = .ok (.l2i, 1) := D_136 W_prog_7_method_25_code_96 0 rfl rfl
theorem d_7_25_97 : decode prog_7_method_25_code 97 = .ok (.istore 10, 2) := D_54 W_prog_7_method_25_code_96 1 rfl rfl
theorem d_7_25_99 : decode prog_7_method_25_code 99 = .ok (.aload_n 1, 1) := D_43 W_prog_7_method_25_code_96 3 rfl rfl
theorem d_7_25_100 : decode prog_7_method_25_code 100 = .ok (.getfield 52, 3) := D_180 W_prog_7_method_25_code_96 4 rfl rfl rfl
theorem d_7_25_103 : decode prog_7_method_25_code 103 = .ok (.aload_n 0, 1) := D_42 W_prog_7_method_25_code_96 7 rfl rfl
theorem d_7_25_104 : decode prog_7_method_25_code 104 = .ok (.getfield 23, 3) := D_180 W_prog_7_method_25_code_96 8 rfl rfl rfl
theorem d_7_25_107 : decode prog_7_method_25_code 107 = .ok (.iconst 0, 1) := D_3 W_prog_7_method_25_code_96 11 rfl rfl
theorem d_7_25_108 : decode prog_7_method_25_code 108 = .ok (.aaload, 1) := D_50 W_prog_7_method_25_code_96 12 rfl rfl
theorem d_7_25_109 : decode prog_7_method_25_code 109 = .ok (.iload_n 2, 1) := D_28 W_prog_7_method_25_code_96 13 rfl rfl
theorem d_7_25_110 : decode prog_7_method_25_code 110 = .ok (.iaload, 1) := D_46 W_prog_7_method_25_code_96 14 rfl rfl
theorem d_7_25_111 : decode prog_7_method_25_code 111 = .ok (.aaload, 1) := D_50 W_prog_7_method_25_code_96 15 rfl rfl
theorem d_7_25_112 : decode prog_7_method_25_code 112 = .ok (.getfield 266, 3) := D_180 W_prog_7_method_25_code_96 16 rfl rfl rfl
theorem d_7_25_115 : decode prog_7_method_25_code 115 = .ok (.istore 11, 2) := D_54 W_prog_7_method_25_code_96 19 rfl rfl
theorem d_7_25_117 : decode prog_7_method_25_code 117 = .ok (.iload 8, 2) := D_21 W_prog_7_method_25_code_96 21 rfl rfl
theorem d_7_25_119 : decode prog_7_method_25_code 119 = .ok (.iload 6, 2) := D_21 W_prog_7_method_25_code_96 23 rfl rfl
theorem d_7_25_121 : decode prog_7_method_25_code 121 = .ok (.isub, 1) := D_100 W_prog_7_method_25_code_96 25 rfl rfl
theorem d_7_25_122 : decode prog_7_method_25_code 122 = .ok (.iload 10, 2) := D_21 W_prog_7_method_25_code_96 26 rfl rfl
theorem d_7_25_124 : decode prog_7_method_25_code 124 = .ok (.imul, 1) := D_104 W_prog_7_method_25_code_96 28 rfl rfl
theorem d_7_25_125 : decode prog_7_method_25_code 125 = .ok (.istore 12, 2) := D_54 W_prog_7_method_25_code_96 29 rfl rfl
theorem d_7_25_127 : decode prog_7_method_25_code 127 = .ok (.iload 8, 2) := D_21 W_prog_7_method_25_code_96 31 rfl rfl
theorem W_prog_7_method_25_code_128 : chW prog_7_method_25_code 128 [8, 54, 13, 21, 13, 21, 9, 162, 0, 72, 21, 11, 21, 12, 16, 24, 124, 184, 1, 36, 54, 14, 42, 180, 0, 18, 21, 13, 42, 180, 0, 159, 100, 92, 46, 21] := chW_of (by decide +kernel)
theorem d_7_25_129 : decode prog_7_method_25_code 129 = .ok (.istore 13, 2) := D_54 W_prog_7_method_25_code_128 1 rfl rfl
theorem d_7_25_84 : decode prog_7_method_25_code 84 = .ok (.return_, 1) := D_177 W_prog_7_method_25_code_64 20 rfl rfl
theorem d_7_25_131 : decode prog_7_method_25_code 131 = .ok (.iload 13, 2) := D_21 W_prog_7_method_25_code_128 3 rfl rfl
theorem d_7_25_133 : decode prog_7_method_25_code 133 = .ok (.iload 9, 2) := D_21 W_prog_7_method_25_code_128 5 rfl rfl
theorem d_7_25_135 : decode prog_7_method_25_code 135 = .ok (.if_icmp .ge 72, 3) := D_162 W_prog_7_method_25_code_128 7 rfl rfl rfl
theorem W_prog_7_method_25_code_192 : chW prog_7_method_25_code 192 [96, 79, 21, 12, 21, 10, 96, 54, 12, 132, 13, 1, 167, 255, 183, 177] := chW_of (by decide +kernel)
theorem d_7_25_207 : decode prog_7_method_25_code 207 = .ok (.return_, 1) := D_177 W_prog_7_method_25_code_192 15 rfl rfl
theorem d_7_25_138 : decode prog_7_method_25_code 138 = .ok (.iload 11, 2) := D_21 W_prog_7_method_25_code_128 10 rfl rfl
theorem d_7_25_140 : decode prog_7_method_25_code 140 = .ok (.iload 12, 2) := D_21 W_prog_7_method_25_code_128 12 rfl rfl
theorem d_7_25_142 : decode prog_7_method_25_code 142 = .ok (.bipush 24, 2) := D_16 W_prog_7_method_25_code_128 14 rfl rfl rfl
theorem d_7_25_144 : decode prog_7_method_25_code 144 = .ok (.iushr, 1) := D_124 W_prog_7_method_25_code_128 16 rfl rfl
theorem d_7_25_145 : decode prog_7_method_25_code 145 = .ok (.invokestatic 292, 3) := D_184 W_prog_7_method_25_code_128 17 rfl rfl rfl
theorem d_7_25_148 : decode prog_7_method_25_code 148 = .ok (.istore 14, 2) := D_54 W_prog_7_method_25_code_128 20 rfl rfl
theorem d_7_25_150 : decode prog_7_method_25_code 150 = .ok (.aload_n 0, 1) := D_42 W_prog_7_method_25_code_128 22 rfl rfl
theorem d_7_25_151 : decode prog_7_method_25_code 151 = .ok (.getfield 18, 3) := D_180 W_prog_7_method_25_code_128 23 rfl rfl rfl
theorem d_7_25_154 : decode prog_7_method_25_code 154 = .ok (.iload 13, 2) := D_21 W_prog_7_method_25_code_128 26 rfl rfl
theorem d_7_25_156 : decode prog_7_method_25_code 156 = .ok (.aload_n 0, 1) := D_42 W_prog_7_method_25_code_128 28 rfl rfl
theorem d_7_25_157 : decode prog_7_method_25_code 157 = .ok (.getfield 159, 3) := D_180 W_prog_7_method_25_code_128 29 rfl rfl rfl
theorem W_prog_7_method_25_code_160 : chW prog_7_method_25_code 160 [100, 92, 46, 21, 14, 21, 13, 21, 6, 100, 21, 7, 21, 6, 100, 184, 1, 39, 104, 42, 180, 0, 23, 6, 50, 28, 46, 104, 17, 4, 0, 108, 96, 79, 21, 12] := chW_of (by decide +kernel)
theorem d_7_25_160 : decode prog_7_method_25_code 160 = .ok (.isub, 1) := D_100 W_prog_7_method_25_code_160 0 rfl rfl
theorem d_7_25_161 : decode prog_7_method_25_code 161 = .ok (.dup2, 1) := D_92 W_prog_7_method_25_code_160 1 rfl rfl
theorem d_7_25_162 : decode prog_7_method_25_code 162 = .ok (.iaload, 1) := D_46 W_prog_7_method_25_code_160 2 rfl rfl
theorem d_7_25_163 : decode prog_7_method_25_code 163 = .ok (.iload 14, 2) := D_21 W_prog_7_method_25_code_160 3 rfl rfl
theorem d_7_25_165 : decode prog_7_method_25_code 165 = .ok (.iload 13, 2) := D_21 W_prog_7_method_25_code_160 5 rfl rfl
theorem d_7_25_167 : decode prog_7_method_25_code 167 = .ok (.iload 6, 2) := D_21 W_prog_7_method_25_code_160 7 rfl rfl
theorem d_7_25_169 : decode prog_7_method_25_code 169 = .ok (.isub, 1) := D_100 W_prog_7_method_25_code_160 9 rfl rfl
theorem d_7_25_170 : decode prog_7_method_25_code 170 = .ok (.iload 7, 2) := D_21 W_prog_7_method_25_code_160 10 rfl rfl
theorem d_7_25_172 : decode prog_7_method_25_code 172 = .ok (.iload 6, 2) := D_21 W_prog_7_method_25_code_160 12 rfl rfl
theorem d_7_25_174 : decode prog_7_method_25_code 174 = .ok (.isub, 1) := D_100 W_prog_7_method_25_code_160 14 rfl rfl
theorem d_7_25_175 : decode prog_7_method_25_code 175 = .ok (.invokestatic 295, 3) := D_184 W_prog_7_method_25_code_160 15 rfl rfl rfl
theorem d_6_17_113 : decode prog_6_method_17_code 113 = .ok (.goto 4, 3) := D_167 W_prog_6_method_17_code_96 17 rfl rfl rfl
theorem d_6_17_117 : decode prog_6_method_17_code 117 = .ok (.iastore, 1) := D_79 W_prog_6_method_17_code_96 21 rfl rfl
theorem d_6_17_118 : decode prog_6_method_17_code 118 = .ok (.iinc 3 1, 3) := D_132 W_prog_6_method_17_code_96 22 rfl rfl rfl
theorem d_6_17_121 : decode prog_6_method_17_code 121 = .ok (.goto (-117), 3) := D_167 W_prog_6_method_17_code_96 25 rfl rfl rfl
theorem d_6_17_85 : decode prog_6_method_17_code 85 = .ok (.iconst 0, 1) := D_3 W_prog_6_method_17_code_64 21 rfl rfl
theorem d_3_8_22 : decode prog_3_method_8_code 22 = .ok (.aload_n 0, 1) := D_42 W_prog_3_method_8_code_0 22 rfl rfl
theorem d_3_8_23 : decode prog_3_method_8_code 23 = .ok (.iload_n 1, 1) := D_27 W_prog_3_method_8_code_0 23 rfl rfl
theorem d_3_8_24 : decode prog_3_method_8_code 24 = .ok (.invokevirtual 33, 3) := D_182 W_prog_3_method_8_code_0 24 rfl rfl rfl
theorem d_3_8_27 : decode prog_3_method_8_code 27 = .ok (.if_icmp .lt 5, 3) := D_161 W_prog_3_method_8_code_0 27 rfl rfl rfl
theorem d_3_8_30 : decode prog_3_method_8_code 30 = .ok (.iload_n 2, 1) := D_28 W_prog_3_method_8_code_0 30 rfl rfl
theorem d_3_8_31 : decode prog_3_method_8_code 31 = .ok (.istore_n 1, 1) := D_60 W_prog_3_method_8_code_0 31 rfl rfl
theorem d_3_8_32 : decode prog_3_method_8_code 32 = .ok (.iinc 2 1, 3) := D_132 W_prog_3_method_8_code_32 0 rfl rfl rfl
theorem d_3_8_35 : decode prog_3_method_8_code 35 = .ok (.goto (-31), 3) := D_167 W_prog_3_method_8_code_32 3 rfl rfl rfl
theorem d_11_7_37 : decode prog_11_method_7_code 37 = .ok (.ifCond .eq 13, 3) := D_153 W_prog_11_method_7_code_32 5 rfl rfl rfl
theorem d_11_7_40 : decode prog_11_method_7_code 40 = .ok (.aload_n 0, 1) := D_42 W_prog_11_method_7_code_32 8 rfl rfl
theorem d_11_7_41 : decode prog_11_method_7_code 41 = .ok (.iload_n 2, 1) := D_28 W_prog_11_method_7_code_32 9 rfl rfl
theorem d_11_7_42 : decode prog_11_method_7_code 42 = .ok (.iload_n 3, 1) := D_29 W_prog_11_method_7_code_32 10 rfl rfl
theorem d_11_7_43 : decode prog_11_method_7_code 43 = .ok (.iload 4, 2) := D_21 W_prog_11_method_7_code_32 11 rfl rfl
theorem d_11_7_45 : decode prog_11_method_7_code 45 = .ok (.iload 5, 2) := D_21 W_prog_11_method_7_code_32 13 rfl rfl
theorem d_11_7_47 : decode prog_11_method_7_code 47 = .ok (.invokevirtual 115, 3) := D_182 W_prog_11_method_7_code_32 15 rfl rfl rfl
theorem d_11_7_50 : decode prog_11_method_7_code 50 = .ok (.iinc 5 1, 3) := D_132 W_prog_11_method_7_code_32 18 rfl rfl rfl
theorem d_11_7_53 : decode prog_11_method_7_code 53 = .ok (.goto (-31), 3) := D_167 W_prog_11_method_7_code_32 21 rfl rfl rfl
theorem d_11_7_70 : decode prog_11_method_7_code 70 = .ok (.iload_n 3, 1) := D_29 W_prog_11_method_7_code_64 6 rfl rfl
theorem d_11_7_71 : decode prog_11_method_7_code 71 = .ok (.bipush 6, 2) := D_16 W_prog_11_method_7_code_64 7 rfl rfl rfl
theorem d_11_7_73 : decode prog_11_method_7_code 73 = .ok (.if_icmp .gt 43, 3) := D_163 W_prog_11_method_7_code_64 9 rfl rfl rfl
theorem W_prog_11_method_7_code_96 : chW prog_11_method_7_code 96 [28, 29, 21, 4, 2, 182, 0, 115, 132, 4, 1, 167, 255, 228, 132, 3, 1, 167, 255, 213, 177] := chW_of (by decide +kernel)
theorem d_11_7_116 : decode prog_11_method_7_code 116 = .ok (.return_, 1) := D_177 W_prog_11_method_7_code_96 20 rfl rfl
theorem d_11_7_76 : decode prog_11_method_7_code 76 = .ok (.iconst 0, 1) := D_3 W_prog_11_method_7_code_64 12 rfl rfl
theorem d_11_7_77 : decode prog_11_method_7_code 77 = .ok (.istore 4, 2) := D_54 W_prog_11_method_7_code_64 13 rfl rfl
theorem d_11_7_79 : decode prog_11_method_7_code 79 = .ok (.iload 4, 2) := D_21 W_prog_11_method_7_code_64 15 rfl rfl
theorem d_11_7_81 : decode prog_11_method_7_code 81 = .ok (.iload_n 1, 1) := D_27 W_prog_11_method_7_code_64 17 rfl rfl
theorem d_11_7_82 : decode prog_11_method_7_code 82 = .ok (.if_icmp .ge 28, 3) := D_162 W_prog_11_method_7_code_64 18 rfl rfl rfl
theorem d_11_7_110 : decode prog_11_method_7_code 110 = .ok (.iinc 3 1, 3) := D_132 W_prog_11_method_7_code_96 14 rfl rfl rfl
theorem d_11_7_113 : decode prog_11_method_7_code 113 = .ok (.goto (-43), 3) := D_167 W_prog_11_method_7_code_96 17 rfl rfl rfl
theorem d_11_7_85 : decode prog_11_method_7_code 85 = .ok (.aload_n 0, 1) := D_42 W_prog_11_method_7_code_64 21 rfl rfl
theorem d_11_7_86 : decode prog_11_method_7_code 86 = .ok (.iload_n 3, 1) := D_29 W_prog_11_method_7_code_64 22 rfl rfl
theorem d_11_7_87 : decode prog_11_method_7_code 87 = .ok (.iload 4, 2) := D_21 W_prog_11_method_7_code_64 23 rfl rfl
theorem d_11_7_89 : decode prog_11_method_7_code 89 = .ok (.invokevirtual 119, 3) := D_182 W_prog_11_method_7_code_64 25 rfl rfl rfl
theorem d_11_7_92 : decode prog_11_method_7_code 92 = .ok (.ifCond .eq 12, 3) := D_153 W_prog_11_method_7_code_64 28 rfl rfl rfl
theorem d_11_7_95 : decode prog_11_method_7_code 95 = .ok (.aload_n 0, 1) := D_42 W_prog_11_method_7_code_64 31 rfl rfl
theorem d_11_7_96 : decode prog_11_method_7_code 96 = .ok (.iload_n 2, 1) := D_28 W_prog_11_method_7_code_96 0 rfl rfl
theorem d_11_7_97 : decode prog_11_method_7_code 97 = .ok (.iload_n 3, 1) := D_29 W_prog_11_method_7_code_96 1 rfl rfl
theorem d_11_7_98 : decode prog_11_method_7_code 98 = .ok (.iload 4, 2) := D_21 W_prog_11_method_7_code_96 2 rfl rfl
theorem d_11_7_100 : decode prog_11_method_7_code 100 = .ok (.iconst (-1), 1) := D_2 W_prog_11_method_7_code_96 4 rfl rfl
theorem d_11_7_101 : decode prog_11_method_7_code 101 = .ok (.invokevirtual 115, 3) := D_182 W_prog_11_method_7_code_96 5 rfl rfl rfl
theorem d_11_7_104 : decode prog_11_method_7_code 104 = .ok (.iinc 4 1, 3) := D_132 W_prog_11_method_7_code_96 8 rfl rfl rfl
theorem d_11_7_107 : decode prog_11_method_7_code 107 = .ok (.goto (-28), 3) := D_167 W_prog_11_method_7_code_96 11 rfl rfl rfl
theorem d_7_3_29 : decode prog_7_method_3_code 29 = .ok (.ifCond .ne 16, 3) := D_154 W_prog_7_method_3_code_0 29 rfl rfl rfl
theorem W_prog_7_method_3_code_32 : chW prog_7_method_3_code 32 [42, 27, 3, 182, 0, 88, 154, 0, 7, 4, 167, 0, 4, 3, 172] := chW_of (by decide +kernel)
theorem d_7_3_32 : decode prog_7_method_3_code 32 = .ok (.aload_n 0, 1) := D_42 W_prog_7_method_3_code_32 0 rfl rfl
theorem d_7_3_33 : decode prog_7_method_3_code 33 = .ok (.iload_n 1, 1) := D_27 W_prog_7_method_3_code_32 1 rfl rfl
theorem d_7_3_34 : decode prog_7_method_3_code 34 = .ok (.iconst 0, 1) := D_3 W_prog_7_method_3_code_32 2 rfl rfl
theorem d_7_3_35 : decode prog_7_method_3_code 35 = .ok (.invokevirtual 88, 3) := D_182 W_prog_7_method_3_code_32 3 rfl rfl rfl
theorem d_7_3_38 : decode prog_7_method_3_code 38 = .ok (.ifCond .ne 7, 3) := D_154 W_prog_7_method_3_code_32 6 rfl rfl rfl
theorem d_7_3_41 : decode prog_7_method_3_code 41 = .ok (.iconst 1, 1) := D_4 W_prog_7_method_3_code_32 9 rfl rfl
theorem d_7_3_42 : decode prog_7_method_3_code 42 = .ok (.goto 4, 3) := D_167 W_prog_7_method_3_code_32 10 rfl rfl rfl
theorem d_7_3_46 : decode prog_7_method_3_code 46 = .ok (.ireturn, 1) := D_172 W_prog_7_method_3_code_32 14 rfl rfl
theorem d_7_3_45 : decode prog_7_method_3_code 45 = .ok (.iconst 0, 1) := D_3 W_prog_7_method_3_code_32 13 rfl rfl
theorem d_7_10_139 : decode prog_7_method_10_code 139 = .ok (.iload 9, 2) := D_21 W_prog_7_method_10_code_128 11 rfl rfl
theorem d_7_10_141 : decode prog_7_method_10_code 141 = .ok (.ifCond .ne 7, 3) := D_154 W_prog_7_method_10_code_128 13 rfl rfl rfl
theorem d_7_10_148 : decode prog_7_method_10_code 148 = .ok (.iconst 0, 1) := D_3 W_prog_7_method_10_code_128 20 rfl rfl
theorem d_7_10_144 : decode prog_7_method_10_code 144 = .ok (.iconst 1, 1) := D_4 W_prog_7_method_10_code_128 16 rfl rfl
theorem d_7_10_145 : decode prog_7_method_10_code 145 = .ok (.goto 4, 3) := D_167 W_prog_7_method_10_code_128 17 rfl rfl rfl
theorem d_7_10_149 : decode prog_7_method_10_code 149 = .ok (.istore 9, 2) := D_54 W_prog_7_method_10_code_128 21 rfl rfl
theorem d_7_10_151 : decode prog_7_method_10_code 151 = .ok (.iinc 10 12, 3) := D_132 W_prog_7_method_10_code_128 23 rfl rfl rfl
theorem d_7_10_154 : decode prog_7_method_10_code 154 = .ok (.goto (-61), 3) := D_167 W_prog_7_method_10_code_128 26 rfl rfl rfl
theorem d_7_10_157 : decode prog_7_method_10_code 157 = .ok (.return_, 1) := D_177 W_prog_7_method_10_code_128 29 rfl rfl
theorem d_1_13_76 : decode prog_1_method_13_code 76 = .ok (.lreturn, 1) := D_173 W_prog_1_method_13_code_64 12 rfl rfl
theorem d_1_13_77 : decode prog_1_method_13_code 77 = .ok (.aload 5, 2) := D_25 W_prog_1_method_13_code_64 13 rfl rfl
theorem d_1_13_79 : decode prog_1_method_13_code 79 = .ok (.getfield 193, 3) := D_180 W_prog_1_method_13_code_64 15 rfl rfl rfl
theorem d_1_13_82 : decode prog_1_method_13_code 82 = .ok (.invokestatic 201, 3) := D_184 W_prog_1_method_13_code_64 18 rfl rfl rfl
theorem d_1_13_85 : decode prog_1_method_13_code 85 = .ok (.lreturn, 1) := D_173 W_prog_1_method_13_code_64 21 rfl rfl
theorem d_1_13_86 : decode prog_1_method_13_code 86 = .ok (.aload 5, 2) := D_25 W_prog_1_method_13_code_64 22 rfl rfl
theorem d_1_13_88 : decode prog_1_method_13_code 88 = .ok (.getfield 203, 3) := D_180 W_prog_1_method_13_code_64 24 rfl rfl rfl
theorem d_1_13_91 : decode prog_1_method_13_code 91 = .ok (.invokestatic 198, 3) := D_184 W_prog_1_method_13_code_64 27 rfl rfl rfl
theorem d_1_13_94 : decode prog_1_method_13_code 94 = .ok (.lreturn, 1) := D_173 W_prog_1_method_13_code_64 30 rfl rfl
theorem d_1_13_95 : decode prog_1_method_13_code 95 = .ok (.aload 5, 2) := D_25 W_prog_1_method_13_code_64 31 rfl rfl
theorem W_prog_1_method_13_code_96 : chW prog_1_method_13_code 96 [5, 180, 0, 203, 184, 0, 201, 173, 25, 5, 180, 0, 206, 133, 173, 25, 5, 180, 0, 207, 133, 173, 25, 5, 180, 0, 210, 133, 173, 25, 5, 180, 0, 213, 133, 173] := chW_of (by decide +kernel)
theorem d_1_13_97 : decode prog_1_method_13_code 97 = .ok (.getfield 203, 3) := D_180 W_prog_1_method_13_code_96 1 rfl rfl rfl
theorem d_1_13_100 : decode prog_1_method_13_code 100 = .ok (.invokestatic 201, 3) := D_184 W_prog_1_method_13_code_96 4 rfl rfl rfl
theorem d_1_13_103 : decode prog_1_method_13_code 103 = .ok (.lreturn, 1) := D_173 W_prog_1_method_13_code_96 7 rfl rfl
theorem d_1_13_104 : decode prog_1_method_13_code 104 = .ok (.aload 5, 2) := D_25 W_prog_1_method_13_code_96 8 rfl rfl
theorem d_1_13_106 : decode prog_1_method_13_code 106 = .ok (.getfield 206, 3) := D_180 W_prog_1_method_13_code_96 10 rfl rfl rfl
theorem d_1_13_109 : decode prog_1_method_13_code 109 = .ok (.i2l, 1) := D_133 W_prog_1_method_13_code_96 13 rfl rfl
theorem d_1_13_110 : decode prog_1_method_13_code 110 = .ok (.lreturn, 1) := D_173 W_prog_1_method_13_code_96 14 rfl rfl
theorem d_1_13_111 : decode prog_1_method_13_code 111 = .ok (.aload 5, 2) := D_25 W_prog_1_method_13_code_96 15 rfl rfl
theorem d_1_13_113 : decode prog_1_method_13_code 113 = .ok (.getfield 207, 3) := D_180 W_prog_1_method_13_code_96 17 rfl rfl rfl
theorem d_1_13_116 : decode prog_1_method_13_code 116 = .ok (.i2l, 1) := D_133 W_prog_1_method_13_code_96 20 rfl rfl
theorem d_1_13_117 : decode prog_1_method_13_code 117 = .ok (.lreturn, 1) := D_173 W_prog_1_method_13_code_96 21 rfl rfl
theorem d_1_13_118 : decode prog_1_method_13_code 118 = .ok (.aload 5, 2) := D_25 W_prog_1_method_13_code_96 22 rfl rfl
theorem d_1_13_120 : decode prog_1_method_13_code 120 = .ok (.getfield 210, 3) := D_180 W_prog_1_method_13_code_96 24 rfl rfl rfl
theorem d_1_13_123 : decode prog_1_method_13_code 123 = .ok (.i2l, 1) := D_133 W_prog_1_method_13_code_96 27 rfl rfl
theorem d_1_13_124 : decode prog_1_method_13_code 124 = .ok (.lreturn, 1) := D_173 W_prog_1_method_13_code_96 28 rfl rfl
theorem d_1_13_125 : decode prog_1_method_13_code 125 = .ok (.aload 5, 2) := D_25 W_prog_1_method_13_code_96 29 rfl rfl
theorem d_1_13_127 : decode prog_1_method_13_code 127 = .ok (.getfield 213, 3) := D_180 W_prog_1_method_13_code_96 31 rfl rfl rfl
theorem W_prog_1_method_13_code_128 : chW prog_1_method_13_code 128 [0, 213, 133, 173, 20, 0, 191, 173] := chW_of (by decide +kernel)
theorem d_1_13_130 : decode prog_1_method_13_code 130 = .ok (.i2l, 1) := D_133 W_prog_1_method_13_code_128 2 rfl rfl
theorem d_1_13_131 : decode prog_1_method_13_code 131 = .ok (.lreturn, 1) := D_173 W_prog_1_method_13_code_128 3 rfl rfl
theorem d_1_13_132 : decode prog_1_method_13_code 132 = .ok (.ldc2_w 191, 3) := D_20 W_prog_1_method_13_code_128 4 rfl rfl rfl
theorem d_1_13_135 : decode prog_1_method_13_code 135 = .ok (.lreturn, 1) := D_173 W_prog_1_method_13_code_128 7 rfl rfl
theorem d_1_13_14 : decode prog_1_method_13_code 14 = .ok (.ldc2_w 191, 3) := D_20 W_prog_1_method_13_code_0 14 rfl rfl rfl
theorem d_1_13_17 : decode prog_1_method_13_code 17 = .ok (.lreturn, 1) := D_173 W_prog_1_method_13_code_0 17 rfl rfl
theorem d_4_4_6 : decode prog_4_method_4_code 6 = .ok (.lstore_n 3, 1) := D_66 W_prog_4_method_4_code_0 6 rfl rfl
theorem d_4_4_7 : decode prog_4_method_4_code 7 = .ok (.lload_n 3, 1) := D_33 W_prog_4_method_4_code_0 7 rfl rfl
theorem d_4_4_8 : decode prog_4_method_4_code 8 = .ok (.lconst 0, 1) := D_9 W_prog_4_method_4_code_0 8 rfl rfl
theorem d_4_4_9 : decode prog_4_method_4_code 9 = .ok (.lcmp, 1) := D_148 W_prog_4_method_4_code_0 9 rfl rfl
theorem d_4_4_10 : decode prog_4_method_4_code 10 = .ok (.ifCond .lt 13, 3) := D_155 W_prog_4_method_4_code_0 10 rfl rfl rfl
theorem d_4_4_13 : decode prog_4_method_4_code 13 = .ok (.aload_n 0, 1) := D_42 W_prog_4_method_4_code_0 13 rfl rfl
theorem d_4_4_14 : decode prog_4_method_4_code 14 = .ok (.getfield 76, 3) := D_180 W_prog_4_method_4_code_0 14 rfl rfl rfl
theorem d_4_4_17 : decode prog_4_method_4_code 17 = .ok (.sipush 3200, 3) := D_17 W_prog_4_method_4_code_0 17 rfl rfl rfl
theorem d_4_4_20 : decode prog_4_method_4_code 20 = .ok (.if_icmp .lt 5, 3) := D_161 W_prog_4_method_4_code_0 20 rfl rfl rfl
theorem d_4_4_25 : decode prog_4_method_4_code 25 = .ok (.iconst 0, 1) := D_3 W_prog_4_method_4_code_0 25 rfl rfl
theorem d_4_4_26 : decode prog_4_method_4_code 26 = .ok (.istore 5, 2) := D_54 W_prog_4_method_4_code_0 26 rfl rfl
theorem d_4_4_28 : decode prog_4_method_4_code 28 = .ok (.iconst 0, 1) := D_3 W_prog_4_method_4_code_0 28 rfl rfl
theorem d_4_4_29 : decode prog_4_method_4_code 29 = .ok (.istore 6, 2) := D_54 W_prog_4_method_4_code_0 29 rfl rfl
theorem d_4_4_31 : decode prog_4_method_4_code 31 = .ok (.iconst 0, 1) := D_3 W_prog_4_method_4_code_0 31 rfl rfl
theorem W_prog_4_method_4_code_32 : chW prog_4_method_4_code 32 [54, 7, 21, 7, 43, 180, 0, 95, 162, 0, 102, 43, 180, 0, 98, 21, 7, 50, 58, 8, 42, 180, 0, 43, 21, 7, 46, 54, 9, 25, 8, 21, 9, 28, 184, 0] := chW_of (by decide +kernel)
theorem d_4_4_32 : decode prog_4_method_4_code 32 = .ok (.istore 7, 2) := D_54 W_prog_4_method_4_code_32 0 rfl rfl
theorem d_4_4_23 : decode prog_4_method_4_code 23 = .ok (.iconst 0, 1) := D_3 W_prog_4_method_4_code_0 23 rfl rfl
theorem d_4_4_24 : decode prog_4_method_4_code 24 = .ok (.ireturn, 1) := D_172 W_prog_4_method_4_code_0 24 rfl rfl
theorem d_4_4_34 : decode prog_4_method_4_code 34 = .ok (.iload 7, 2) := D_21 W_prog_4_method_4_code_32 2 rfl rfl
theorem d_4_4_36 : decode prog_4_method_4_code 36 = .ok (.aload_n 1, 1) := D_43 W_prog_4_method_4_code_32 4 rfl rfl
theorem d_4_4_37 : decode prog_4_method_4_code 37 = .ok (.getfield 95, 3) := D_180 W_prog_4_method_4_code_32 5 rfl rfl rfl
theorem d_4_4_40 : decode prog_4_method_4_code 40 = .ok (.if_icmp .ge 102, 3) := D_162 W_prog_4_method_4_code_32 8 rfl rfl rfl
theorem W_prog_4_method_4_code_128 : chW prog_4_method_4_code 128 [43, 21, 7, 92, 46, 4, 96, 79, 132, 7, 1, 167, 255, 151, 42, 180, 0, 11, 42, 180, 0, 76, 33, 80, 42, 180, 0, 15, 42, 180, 0, 76, 16, 8, 21, 5] := chW_of (by decide +kernel)
theorem d_4_4_142 : decode prog_4_method_4_code 142 = .ok (.aload_n 0, 1) := D_42 W_prog_4_method_4_code_128 14 rfl rfl
theorem d_4_4_143 : decode prog_4_method_4_code 143 = .ok (.getfield 11, 3) := D_180 W_prog_4_method_4_code_128 15 rfl rfl rfl
theorem d_4_4_146 : decode prog_4_method_4_code 146 = .ok (.aload_n 0, 1) := D_42 W_prog_4_method_4_code_128 18 rfl rfl
theorem d_4_4_147 : decode prog_4_method_4_code 147 = .ok (.getfield 76, 3) := D_180 W_prog_4_method_4_code_128 19 rfl rfl rfl
theorem d_4_4_150 : decode prog_4_method_4_code 150 = .ok (.lload_n 3, 1) := D_33 W_prog_4_method_4_code_128 22 rfl rfl
theorem d_4_4_151 : decode prog_4_method_4_code 151 = .ok (.lastore, 1) := D_80 W_prog_4_method_4_code_128 23 rfl rfl
theorem d_4_4_152 : decode prog_4_method_4_code 152 = .ok (.aload_n 0, 1) := D_42 W_prog_4_method_4_code_128 24 rfl rfl
theorem d_4_4_153 : decode prog_4_method_4_code 153 = .ok (.getfield 15, 3) := D_180 W_prog_4_method_4_code_128 25 rfl rfl rfl
theorem d_4_4_156 : decode prog_4_method_4_code 156 = .ok (.aload_n 0, 1) := D_42 W_prog_4_method_4_code_128 28 rfl rfl
theorem d_4_4_157 : decode prog_4_method_4_code 157 = .ok (.getfield 76, 3) := D_180 W_prog_4_method_4_code_128 29 rfl rfl rfl
theorem W_prog_4_method_4_code_160 : chW prog_4_method_4_code 160 [16, 8, 21, 5, 96, 6, 21, 6, 104, 96, 79, 4, 172] := chW_of (by decide +kernel)
theorem d_4_4_160 : decode prog_4_method_4_code 160 = .ok (.bipush 8, 2) := D_16 W_prog_4_method_4_code_160 0 rfl rfl rfl
theorem d_4_4_162 : decode prog_4_method_4_code 162 = .ok (.iload 5, 2) := D_21 W_prog_4_method_4_code_160 2 rfl rfl
theorem d_4_4_164 : decode prog_4_method_4_code 164 = .ok (.iadd, 1) := D_96 W_prog_4_method_4_code_160 4 rfl rfl
theorem d_4_4_165 : decode prog_4_method_4_code 165 = .ok (.iconst 3, 1) := D_6 W_prog_4_method_4_code_160 5 rfl rfl
theorem d_4_4_166 : decode prog_4_method_4_code 166 = .ok (.iload 6, 2) := D_21 W_prog_4_method_4_code_160 6 rfl rfl
theorem d_4_4_168 : decode prog_4_method_4_code 168 = .ok (.imul, 1) := D_104 W_prog_4_method_4_code_160 8 rfl rfl
theorem d_4_4_169 : decode prog_4_method_4_code 169 = .ok (.iadd, 1) := D_96 W_prog_4_method_4_code_160 9 rfl rfl
theorem d_4_4_170 : decode prog_4_method_4_code 170 = .ok (.iastore, 1) := D_79 W_prog_4_method_4_code_160 10 rfl rfl
theorem d_4_4_171 : decode prog_4_method_4_code 171 = .ok (.iconst 1, 1) := D_4 W_prog_4_method_4_code_160 11 rfl rfl
theorem d_4_4_172 : decode prog_4_method_4_code 172 = .ok (.ireturn, 1) := D_172 W_prog_4_method_4_code_160 12 rfl rfl
theorem d_4_4_43 : decode prog_4_method_4_code 43 = .ok (.aload_n 1, 1) := D_43 W_prog_4_method_4_code_32 11 rfl rfl
theorem d_4_4_44 : decode prog_4_method_4_code 44 = .ok (.getfield 98, 3) := D_180 W_prog_4_method_4_code_32 12 rfl rfl rfl
theorem d_4_4_47 : decode prog_4_method_4_code 47 = .ok (.iload 7, 2) := D_21 W_prog_4_method_4_code_32 15 rfl rfl
theorem d_4_4_49 : decode prog_4_method_4_code 49 = .ok (.aaload, 1) := D_50 W_prog_4_method_4_code_32 17 rfl rfl
theorem d_4_4_50 : decode prog_4_method_4_code 50 = .ok (.astore 8, 2) := D_58 W_prog_4_method_4_code_32 18 rfl rfl
theorem d_4_4_52 : decode prog_4_method_4_code 52 = .ok (.aload_n 0, 1) := D_42 W_prog_4_method_4_code_32 20 rfl rfl
theorem d_4_4_53 : decode prog_4_method_4_code 53 = .ok (.getfield 43, 3) := D_180 W_prog_4_method_4_code_32 21 rfl rfl rfl
theorem d_4_4_56 : decode prog_4_method_4_code 56 = .ok (.iload 7, 2) := D_21 W_prog_4_method_4_code_32 24 rfl rfl
theorem d_4_4_58 : decode prog_4_method_4_code 58 = .ok (.iaload, 1) := D_46 W_prog_4_method_4_code_32 26 rfl rfl
theorem d_4_4_59 : decode prog_4_method_4_code 59 = .ok (.istore 9, 2) := D_54 W_prog_4_method_4_code_32 27 rfl rfl
theorem d_4_4_61 : decode prog_4_method_4_code 61 = .ok (.aload 8, 2) := D_25 W_prog_4_method_4_code_32 29 rfl rfl
theorem d_4_4_63 : decode prog_4_method_4_code 63 = .ok (.iload 9, 2) := D_21 W_prog_4_method_4_code_32 31 rfl rfl
theorem W_prog_4_method_4_code_64 : chW prog_4_method_4_code 64 [9, 28, 184, 0, 102, 153, 0, 67, 25, 8, 180, 0, 106, 21, 9, 47, 33, 148, 154, 0, 54, 25, 8, 180, 0, 111, 16, 7, 50, 21, 9, 46, 153, 0, 8, 16] := chW_of (by decide +kernel)
theorem d_4_4_65 : decode prog_4_method_4_code 65 = .ok (.iload_n 2, 1) := D_28 W_prog_4_method_4_code_64 1 rfl rfl
theorem d_4_4_66 : decode prog_4_method_4_code 66 = .ok (.invokestatic 102, 3) := D_184 W_prog_4_method_4_code_64 2 rfl rfl rfl
theorem d_4_4_69 : decode prog_4_method_4_code 69 = .ok (.ifCond .eq 67, 3) := D_153 W_prog_4_method_4_code_64 5 rfl rfl rfl
theorem d_4_4_72 : decode prog_4_method_4_code 72 = .ok (.aload 8, 2) := D_25 W_prog_4_method_4_code_64 8 rfl rfl
theorem d_4_4_74 : decode prog_4_method_4_code 74 = .ok (.getfield 106, 3) := D_180 W_prog_4_method_4_code_64 10 rfl rfl rfl
theorem d_4_4_77 : decode prog_4_method_4_code 77 = .ok (.iload 9, 2) := D_21 W_prog_4_method_4_code_64 13 rfl rfl
theorem d_4_4_79 : decode prog_4_method_4_code 79 = .ok (.laload, 1) := D_47 W_prog_4_method_4_code_64 15 rfl rfl
theorem d_4_4_80 : decode prog_4_method_4_code 80 = .ok (.lload_n 3, 1) := D_33 W_prog_4_method_4_code_64 16 rfl rfl
theorem d_4_4_81 : decode prog_4_method_4_code 81 = .ok (.lcmp, 1) := D_148 W_prog_4_method_4_code_64 17 rfl rfl
theorem d_4_4_82 : decode prog_4_method_4_code 82 = .ok (.ifCond .ne 54, 3) := D_154 W_prog_4_method_4_code_64 18 rfl rfl rfl
theorem d_4_4_85 : decode prog_4_method_4_code 85 = .ok (.aload 8, 2) := D_25 W_prog_4_method_4_code_64 21 rfl rfl
theorem d_4_4_87 : decode prog_4_method_4_code 87 = .ok (.getfield 111, 3) := D_180 W_prog_4_method_4_code_64 23 rfl rfl rfl
theorem d_4_4_90 : decode prog_4_method_4_code 90 = .ok (.bipush 7, 2) := D_16 W_prog_4_method_4_code_64 26 rfl rfl rfl
theorem d_4_4_92 : decode prog_4_method_4_code 92 = .ok (.aaload, 1) := D_50 W_prog_4_method_4_code_64 28 rfl rfl
theorem d_4_4_93 : decode prog_4_method_4_code 93 = .ok (.iload 9, 2) := D_21 W_prog_4_method_4_code_64 29 rfl rfl
theorem d_4_4_95 : decode prog_4_method_4_code 95 = .ok (.iaload, 1) := D_46 W_prog_4_method_4_code_64 31 rfl rfl
theorem W_prog_4_method_4_code_96 : chW prog_4_method_4_code 96 [153, 0, 8, 16, 6, 167, 0, 5, 21, 5, 54, 5, 21, 6, 25, 8, 180, 0, 111, 8, 50, 21, 9, 46, 184, 0, 115, 54, 6, 42, 180, 0, 43, 21, 7, 92] := chW_of (by decide +kernel)
theorem d_4_4_96 : decode prog_4_method_4_code 96 = .ok (.ifCond .eq 8, 3) := D_153 W_prog_4_method_4_code_96 0 rfl rfl rfl
theorem d_4_4_104 : decode prog_4_method_4_code 104 = .ok (.iload 5, 2) := D_21 W_prog_4_method_4_code_96 8 rfl rfl
theorem d_4_4_99 : decode prog_4_method_4_code 99 = .ok (.bipush 6, 2) := D_16 W_prog_4_method_4_code_96 3 rfl rfl rfl
theorem d_4_4_101 : decode prog_4_method_4_code 101 = .ok (.goto 5, 3) := D_167 W_prog_4_method_4_code_96 5 rfl rfl rfl
theorem d_4_4_106 : decode prog_4_method_4_code 106 = .ok (.istore 5, 2) := D_54 W_prog_4_method_4_code_96 10 rfl rfl
theorem d_4_4_108 : decode prog_4_method_4_code 108 = .ok (.iload 6, 2) := D_21 W_prog_4_method_4_code_96 12 rfl rfl
theorem d_4_4_110 : decode prog_4_method_4_code 110 = .ok (.aload 8, 2) := D_25 W_prog_4_method_4_code_96 14 rfl rfl
theorem d_4_4_112 : decode prog_4_method_4_code 112 = .ok (.getfield 111, 3) := D_180 W_prog_4_method_4_code_96 16 rfl rfl rfl
theorem d_4_4_115 : decode prog_4_method_4_code 115 = .ok (.iconst 5, 1) := D_8 W_prog_4_method_4_code_96 19 rfl rfl
theorem d_4_4_116 : decode prog_4_method_4_code 116 = .ok (.aaload, 1) := D_50 W_prog_4_method_4_code_96 20 rfl rfl
theorem d_4_4_117 : decode prog_4_method_4_code 117 = .ok (.iload 9, 2) := D_21 W_prog_4_method_4_code_96 21 rfl rfl
theorem d_4_4_119 : decode prog_4_method_4_code 119 = .ok (.iaload, 1) := D_46 W_prog_4_method_4_code_96 23 rfl rfl
theorem d_4_4_120 : decode prog_4_method_4_code 120 = .ok (.invokestatic 115, 3) := D_184 W_prog_4_method_4_code_96 24 rfl rfl rfl
theorem d_4_4_123 : decode prog_4_method_4_code 123 = .ok (.istore 6, 2) := D_54 W_prog_4_method_4_code_96 27 rfl rfl
theorem d_4_4_125 : decode prog_4_method_4_code 125 = .ok (.aload_n 0, 1) := D_42 W_prog_4_method_4_code_96 29 rfl rfl
theorem d_4_4_126 : decode prog_4_method_4_code 126 = .ok (.getfield 43, 3) := D_180 W_prog_4_method_4_code_96 30 rfl rfl rfl
theorem d_4_4_129 : decode prog_4_method_4_code 129 = .ok (.iload 7, 2) := D_21 W_prog_4_method_4_code_128 1 rfl rfl
theorem d_4_4_131 : decode prog_4_method_4_code 131 = .ok (.dup2, 1) := D_92 W_prog_4_method_4_code_128 3 rfl rfl
theorem d_4_4_132 : decode prog_4_method_4_code 132 = .ok (.iaload, 1) := D_46 W_prog_4_method_4_code_128 4 rfl rfl
theorem d_4_4_133 : decode prog_4_method_4_code 133 = .ok (.iconst 1, 1) := D_4 W_prog_4_method_4_code_128 5 rfl rfl
theorem d_4_4_134 : decode prog_4_method_4_code 134 = .ok (.iadd, 1) := D_96 W_prog_4_method_4_code_128 6 rfl rfl
theorem d_4_4_135 : decode prog_4_method_4_code 135 = .ok (.iastore, 1) := D_79 W_prog_4_method_4_code_128 7 rfl rfl
theorem d_4_4_136 : decode prog_4_method_4_code 136 = .ok (.iinc 7 1, 3) := D_132 W_prog_4_method_4_code_128 8 rfl rfl rfl
theorem d_4_4_139 : decode prog_4_method_4_code 139 = .ok (.goto (-105), 3) := D_167 W_prog_4_method_4_code_128 11 rfl rfl rfl
theorem d_7_11_88 : decode prog_7_method_11_code 88 = .ok (.return_, 1) := D_177 W_prog_7_method_11_code_64 24 rfl rfl
theorem d_7_11_30 : decode prog_7_method_11_code 30 = .ok (.aload_n 0, 1) := D_42 W_prog_7_method_11_code_0 30 rfl rfl
theorem d_7_11_31 : decode prog_7_method_11_code 31 = .ok (.getfield 26, 3) := D_180 W_prog_7_method_11_code_0 31 rfl rfl rfl
theorem W_prog_7_method_11_code_32 : chW prog_7_method_11_code 32 [0, 26, 5, 27, 104, 42, 27, 42, 180, 0, 23, 7, 50, 27, 46, 133, 4, 182, 0, 171, 80, 42, 180, 0, 26, 5, 27, 104, 4, 96, 42, 27, 42, 180, 0, 23] := chW_of (by decide +kernel)
theorem d_7_11_34 : decode prog_7_method_11_code 34 = .ok (.iconst 2, 1) := D_5 W_prog_7_method_11_code_32 2 rfl rfl
theorem d_7_11_35 : decode prog_7_method_11_code 35 = .ok (.iload_n 1, 1) := D_27 W_prog_7_method_11_code_32 3 rfl rfl
theorem d_7_11_36 : decode prog_7_method_11_code 36 = .ok (.imul, 1) := D_104 W_prog_7_method_11_code_32 4 rfl rfl
theorem d_7_11_37 : decode prog_7_method_11_code 37 = .ok (.aload_n 0, 1) := D_42 W_prog_7_method_11_code_32 5 rfl rfl
theorem d_7_11_38 : decode prog_7_method_11_code 38 = .ok (.iload_n 1, 1) := D_27 W_prog_7_method_11_code_32 6 rfl rfl
theorem d_7_11_39 : decode prog_7_method_11_code 39 = .ok (.aload_n 0, 1) := D_42 W_prog_7_method_11_code_32 7 rfl rfl
theorem d_7_11_40 : decode prog_7_method_11_code 40 = .ok (.getfield 23, 3) := D_180 W_prog_7_method_11_code_32 8 rfl rfl rfl
theorem d_7_11_43 : decode prog_7_method_11_code 43 = .ok (.iconst 4, 1) := D_7 W_prog_7_method_11_code_32 11 rfl rfl
theorem d_7_11_44 : decode prog_7_method_11_code 44 = .ok (.aaload, 1) := D_50 W_prog_7_method_11_code_32 12 rfl rfl
theorem d_7_11_45 : decode prog_7_method_11_code 45 = .ok (.iload_n 1, 1) := D_27 W_prog_7_method_11_code_32 13 rfl rfl
theorem d_7_11_46 : decode prog_7_method_11_code 46 = .ok (.iaload, 1) := D_46 W_prog_7_method_11_code_32 14 rfl rfl
theorem d_7_11_47 : decode prog_7_method_11_code 47 = .ok (.i2l, 1) := D_133 W_prog_7_method_11_code_32 15 rfl rfl
theorem d_7_11_48 : decode prog_7_method_11_code 48 = .ok (.iconst 1, 1) := D_4 W_prog_7_method_11_code_32 16 rfl rfl
theorem d_7_11_49 : decode prog_7_method_11_code 49 = .ok (.invokevirtual 171, 3) := D_182 W_prog_7_method_11_code_32 17 rfl rfl rfl
theorem d_7_11_52 : decode prog_7_method_11_code 52 = .ok (.lastore, 1) := D_80 W_prog_7_method_11_code_32 20 rfl rfl
theorem d_7_11_53 : decode prog_7_method_11_code 53 = .ok (.aload_n 0, 1) := D_42 W_prog_7_method_11_code_32 21 rfl rfl
theorem d_7_11_54 : decode prog_7_method_11_code 54 = .ok (.getfield 26, 3) := D_180 W_prog_7_method_11_code_32 22 rfl rfl rfl
theorem d_7_11_57 : decode prog_7_method_11_code 57 = .ok (.iconst 2, 1) := D_5 W_prog_7_method_11_code_32 25 rfl rfl
theorem d_7_11_58 : decode prog_7_method_11_code 58 = .ok (.iload_n 1, 1) := D_27 W_prog_7_method_11_code_32 26 rfl rfl
theorem d_7_11_59 : decode prog_7_method_11_code 59 = .ok (.imul, 1) := D_104 W_prog_7_method_11_code_32 27 rfl rfl
theorem d_7_11_60 : decode prog_7_method_11_code 60 = .ok (.iconst 1, 1) := D_4 W_prog_7_method_11_code_32 28 rfl rfl
theorem d_7_11_61 : decode prog_7_method_11_code 61 = .ok (.iadd, 1) := D_96 W_prog_7_method_11_code_32 29 rfl rfl
theorem d_7_11_62 : decode prog_7_method_11_code 62 = .ok (.aload_n 0, 1) := D_42 W_prog_7_method_11_code_32 30 rfl rfl
theorem d_7_11_63 : decode prog_7_method_11_code 63 = .ok (.iload_n 1, 1) := D_27 W_prog_7_method_11_code_32 31 rfl rfl
theorem d_7_11_64 : decode prog_7_method_11_code 64 = .ok (.aload_n 0, 1) := D_42 W_prog_7_method_11_code_64 0 rfl rfl
theorem d_7_11_65 : decode prog_7_method_11_code 65 = .ok (.getfield 23, 3) := D_180 W_prog_7_method_11_code_64 1 rfl rfl rfl
theorem d_7_11_68 : decode prog_7_method_11_code 68 = .ok (.iconst 5, 1) := D_8 W_prog_7_method_11_code_64 4 rfl rfl
theorem d_7_11_69 : decode prog_7_method_11_code 69 = .ok (.aaload, 1) := D_50 W_prog_7_method_11_code_64 5 rfl rfl
theorem d_7_11_70 : decode prog_7_method_11_code 70 = .ok (.iload_n 1, 1) := D_27 W_prog_7_method_11_code_64 6 rfl rfl
theorem d_7_11_71 : decode prog_7_method_11_code 71 = .ok (.iaload, 1) := D_46 W_prog_7_method_11_code_64 7 rfl rfl
theorem d_7_11_72 : decode prog_7_method_11_code 72 = .ok (.i2l, 1) := D_133 W_prog_7_method_11_code_64 8 rfl rfl
theorem d_7_11_73 : decode prog_7_method_11_code 73 = .ok (.iconst 0, 1) := D_3 W_prog_7_method_11_code_64 9 rfl rfl
theorem d_7_11_74 : decode prog_7_method_11_code 74 = .ok (.invokevirtual 171, 3) := D_182 W_prog_7_method_11_code_64 10 rfl rfl rfl
theorem d_7_11_77 : decode prog_7_method_11_code 77 = .ok (.lastore, 1) := D_80 W_prog_7_method_11_code_64 13 rfl rfl
theorem d_7_11_78 : decode prog_7_method_11_code 78 = .ok (.iinc 1 1, 3) := D_132 W_prog_7_method_11_code_64 14 rfl rfl rfl
theorem d_7_11_81 : decode prog_7_method_11_code 81 = .ok (.goto (-59), 3) := D_167 W_prog_7_method_11_code_64 17 rfl rfl rfl
theorem d_10_6_4 : decode prog_10_method_6_code 4 = .ok (.istore_n 3, 1) := D_62 W_prog_10_method_6_code_0 4 rfl rfl
theorem d_10_6_5 : decode prog_10_method_6_code 5 = .ok (.iload_n 3, 1) := D_29 W_prog_10_method_6_code_0 5 rfl rfl
theorem d_10_6_6 : decode prog_10_method_6_code 6 = .ok (.iload_n 1, 1) := D_27 W_prog_10_method_6_code_0 6 rfl rfl
theorem d_10_6_7 : decode prog_10_method_6_code 7 = .ok (.if_icmp .lt 8, 3) := D_161 W_prog_10_method_6_code_0 7 rfl rfl rfl
theorem d_10_6_10 : decode prog_10_method_6_code 10 = .ok (.iload_n 3, 1) := D_29 W_prog_10_method_6_code_0 10 rfl rfl
theorem d_10_6_11 : decode prog_10_method_6_code 11 = .ok (.iload_n 2, 1) := D_28 W_prog_10_method_6_code_0 11 rfl rfl
theorem d_10_6_12 : decode prog_10_method_6_code 12 = .ok (.if_icmp .le 14, 3) := D_164 W_prog_10_method_6_code_0 12 rfl rfl rfl
theorem d_10_6_15 : decode prog_10_method_6_code 15 = .ok (.aload_n 0, 1) := D_42 W_prog_10_method_6_code_0 15 rfl rfl
theorem d_10_6_16 : decode prog_10_method_6_code 16 = .ok (.iconst 1, 1) := D_4 W_prog_10_method_6_code_0 16 rfl rfl
theorem d_10_6_17 : decode prog_10_method_6_code 17 = .ok (.aload_n 0, 1) := D_42 W_prog_10_method_6_code_0 17 rfl rfl
theorem d_10_6_18 : decode prog_10_method_6_code 18 = .ok (.getfield 27, 3) := D_180 W_prog_10_method_6_code_0 18 rfl rfl rfl
theorem d_10_6_21 : decode prog_10_method_6_code 21 = .ok (.iconst 1, 1) := D_4 W_prog_10_method_6_code_0 21 rfl rfl
theorem d_10_6_22 : decode prog_10_method_6_code 22 = .ok (.isub, 1) := D_100 W_prog_10_method_6_code_0 22 rfl rfl
theorem d_10_6_23 : decode prog_10_method_6_code 23 = .ok (.invokevirtual 83, 3) := D_182 W_prog_10_method_6_code_0 23 rfl rfl rfl
theorem d_10_6_26 : decode prog_10_method_6_code 26 = .ok (.return_, 1) := D_177 W_prog_10_method_6_code_0 26 rfl rfl
theorem d_10_18_4 : decode prog_10_method_18_code 4 = .ok (.istore_n 1, 1) := D_60 W_prog_10_method_18_code_0 4 rfl rfl
theorem d_10_18_5 : decode prog_10_method_18_code 5 = .ok (.aload_n 0, 1) := D_42 W_prog_10_method_18_code_0 5 rfl rfl
theorem d_10_18_6 : decode prog_10_method_18_code 6 = .ok (.invokevirtual 136, 3) := D_182 W_prog_10_method_18_code_0 6 rfl rfl rfl
theorem d_10_18_9 : decode prog_10_method_18_code 9 = .ok (.istore_n 2, 1) := D_61 W_prog_10_method_18_code_0 9 rfl rfl
theorem d_10_18_10 : decode prog_10_method_18_code 10 = .ok (.aload_n 0, 1) := D_42 W_prog_10_method_18_code_0 10 rfl rfl
theorem d_10_18_11 : decode prog_10_method_18_code 11 = .ok (.getfield 27, 3) := D_180 W_prog_10_method_18_code_0 11 rfl rfl rfl
theorem d_10_18_14 : decode prog_10_method_18_code 14 = .ok (.istore_n 3, 1) := D_62 W_prog_10_method_18_code_0 14 rfl rfl
theorem d_10_18_15 : decode prog_10_method_18_code 15 = .ok (.aload_n 0, 1) := D_42 W_prog_10_method_18_code_0 15 rfl rfl
theorem d_10_18_16 : decode prog_10_method_18_code 16 = .ok (.iload_n 2, 1) := D_28 W_prog_10_method_18_code_0 16 rfl rfl
theorem d_10_18_17 : decode prog_10_method_18_code 17 = .ok (.i2l, 1) := D_133 W_prog_10_method_18_code_0 17 rfl rfl
theorem d_10_18_18 : decode prog_10_method_18_code 18 = .ok (.invokevirtual 70, 3) := D_182 W_prog_10_method_18_code_0 18 rfl rfl rfl
theorem d_10_18_21 : decode prog_10_method_18_code 21 = .ok (.aload_n 0, 1) := D_42 W_prog_10_method_18_code_0 21 rfl rfl
theorem d_10_18_22 : decode prog_10_method_18_code 22 = .ok (.getfield 39, 3) := D_180 W_prog_10_method_18_code_0 22 rfl rfl rfl
theorem d_10_18_25 : decode prog_10_method_18_code 25 = .ok (.ifCond .ne 10, 3) := D_154 W_prog_10_method_18_code_0 25 rfl rfl rfl
theorem d_10_18_28 : decode prog_10_method_18_code 28 = .ok (.aload_n 0, 1) := D_42 W_prog_10_method_18_code_0 28 rfl rfl
theorem d_10_18_29 : decode prog_10_method_18_code 29 = .ok (.getfield 23, 3) := D_180 W_prog_10_method_18_code_0 29 rfl rfl rfl
theorem W_prog_10_method_18_code_32 : chW prog_10_method_18_code 32 [199, 0, 4, 177, 42, 180, 0, 23, 29, 182, 0, 87, 54, 4, 42, 180, 0, 23, 29, 4, 96, 182, 0, 87, 54, 5, 27, 16, 88, 160, 0, 19, 28, 7, 161, 0] := chW_of (by decide +kernel)
theorem d_10_18_32 : decode prog_10_method_18_code 32 = .ok (.ifnonnull 4, 3) := D_199 W_prog_10_method_18_code_32 0 rfl rfl rfl
theorem d_10_18_36 : decode prog_10_method_18_code 36 = .ok (.aload_n 0, 1) := D_42 W_prog_10_method_18_code_32 4 rfl rfl
theorem d_10_18_37 : decode prog_10_method_18_code 37 = .ok (.getfield 23, 3) := D_180 W_prog_10_method_18_code_32 5 rfl rfl rfl
theorem d_10_18_40 : decode prog_10_method_18_code 40 = .ok (.iload_n 3, 1) := D_29 W_prog_10_method_18_code_32 8 rfl rfl
theorem d_10_18_41 : decode prog_10_method_18_code 41 = .ok (.invokevirtual 87, 3) := D_182 W_prog_10_method_18_code_32 9 rfl rfl rfl
theorem d_10_18_44 : decode prog_10_method_18_code 44 = .ok (.istore 4, 2) := D_54 W_prog_10_method_18_code_32 12 rfl rfl
theorem d_10_18_46 : decode prog_10_method_18_code 46 = .ok (.aload_n 0, 1) := D_42 W_prog_10_method_18_code_32 14 rfl rfl
theorem d_10_18_47 : decode prog_10_method_18_code 47 = .ok (.getfield 23, 3) := D_180 W_prog_10_method_18_code_32 15 rfl rfl rfl
theorem d_10_18_50 : decode prog_10_method_18_code 50 = .ok (.iload_n 3, 1) := D_29 W_prog_10_method_18_code_32 18 rfl rfl
theorem d_10_18_51 : decode prog_10_method_18_code 51 = .ok (.iconst 1, 1) := D_4 W_prog_10_method_18_code_32 19 rfl rfl
theorem d_10_18_52 : decode prog_10_method_18_code 52 = .ok (.iadd, 1) := D_96 W_prog_10_method_18_code_32 20 rfl rfl
theorem d_10_18_53 : decode prog_10_method_18_code 53 = .ok (.invokevirtual 87, 3) := D_182 W_prog_10_method_18_code_32 21 rfl rfl rfl
theorem d_10_18_56 : decode prog_10_method_18_code 56 = .ok (.istore 5, 2) := D_54 W_prog_10_method_18_code_32 24 rfl rfl
theorem d_10_18_58 : decode prog_10_method_18_code 58 = .ok (.iload_n 1, 1) := D_27 W_prog_10_method_18_code_32 26 rfl rfl
theorem d_10_18_59 : decode prog_10_method_18_code 59 = .ok (.bipush 88, 2) := D_16 W_prog_10_method_18_code_32 27 rfl rfl rfl
theorem d_10_18_61 : decode prog_10_method_18_code 61 = .ok (.if_icmp .ne 19, 3) := D_160 W_prog_10_method_18_code_32 29 rfl rfl rfl
theorem W_prog_10_method_18_code_64 : chW prog_10_method_18_code 64 [28, 7, 161, 0, 14, 42, 21, 4, 21, 5, 182, 0, 155, 167, 0, 64, 27, 16, 89, 160, 0, 20, 28, 5, 161, 0, 15, 42, 21, 4, 145, 21, 5, 182, 0, 158] := chW_of (by decide +kernel)
theorem d_10_18_64 : decode prog_10_method_18_code 64 = .ok (.iload_n 2, 1) := D_28 W_prog_10_method_18_code_64 0 rfl rfl
theorem d_10_18_65 : decode prog_10_method_18_code 65 = .ok (.iconst 4, 1) := D_7 W_prog_10_method_18_code_64 1 rfl rfl
theorem d_10_18_66 : decode prog_10_method_18_code 66 = .ok (.if_icmp .lt 14, 3) := D_161 W_prog_10_method_18_code_64 2 rfl rfl rfl
theorem d_10_18_69 : decode prog_10_method_18_code 69 = .ok (.aload_n 0, 1) := D_42 W_prog_10_method_18_code_64 5 rfl rfl
theorem d_10_18_70 : decode prog_10_method_18_code 70 = .ok (.iload 4, 2) := D_21 W_prog_10_method_18_code_64 6 rfl rfl
theorem d_10_18_72 : decode prog_10_method_18_code 72 = .ok (.iload 5, 2) := D_21 W_prog_10_method_18_code_64 8 rfl rfl
theorem d_10_18_74 : decode prog_10_method_18_code 74 = .ok (.invokevirtual 155, 3) := D_182 W_prog_10_method_18_code_64 10 rfl rfl rfl
theorem d_10_18_77 : decode prog_10_method_18_code 77 = .ok (.goto 64, 3) := D_167 W_prog_10_method_18_code_64 13 rfl rfl rfl
theorem d_10_18_35 : decode prog_10_method_18_code 35 = .ok (.return_, 1) := D_177 W_prog_10_method_18_code_32 3 rfl rfl
theorem W_prog_10_method_18_code_128 : chW prog_10_method_18_code 128 [180, 0, 23, 29, 5, 96, 182, 0, 87, 96, 182, 0, 162, 42, 27, 16, 47, 160, 0, 7, 4, 167, 0, 4, 3, 181, 0, 127, 177] := chW_of (by decide +kernel)
theorem d_10_18_141 : decode prog_10_method_18_code 141 = .ok (.aload_n 0, 1) := D_42 W_prog_10_method_18_code_128 13 rfl rfl
theorem d_10_18_142 : decode prog_10_method_18_code 142 = .ok (.iload_n 1, 1) := D_27 W_prog_10_method_18_code_128 14 rfl rfl
theorem d_10_18_143 : decode prog_10_method_18_code 143 = .ok (.bipush 47, 2) := D_16 W_prog_10_method_18_code_128 15 rfl rfl rfl
theorem d_10_18_145 : decode prog_10_method_18_code 145 = .ok (.if_icmp .ne 7, 3) := D_160 W_prog_10_method_18_code_128 17 rfl rfl rfl
theorem d_10_18_152 : decode prog_10_method_18_code 152 = .ok (.iconst 0, 1) := D_3 W_prog_10_method_18_code_128 24 rfl rfl
theorem d_10_18_148 : decode prog_10_method_18_code 148 = .ok (.iconst 1, 1) := D_4 W_prog_10_method_18_code_128 20 rfl rfl
theorem d_10_18_149 : decode prog_10_method_18_code 149 = .ok (.goto 4, 3) := D_167 W_prog_10_method_18_code_128 21 rfl rfl rfl
theorem d_10_18_153 : decode prog_10_method_18_code 153 = .ok (.putfield 127, 3) := D_181 W_prog_10_method_18_code_128 25 rfl rfl rfl
theorem d_10_18_156 : decode prog_10_method_18_code 156 = .ok (.return_, 1) := D_177 W_prog_10_method_18_code_128 28 rfl rfl
theorem d_10_18_80 : decode prog_10_method_18_code 80 = .ok (.iload_n 1, 1) := D_27 W_prog_10_method_18_code_64 16 rfl rfl
theorem d_10_18_81 : decode prog_10_method_18_code 81 = .ok (.bipush 89, 2) := D_16 W_prog_10_method_18_code_64 17 rfl rfl rfl
theorem d_10_18_83 : decode prog_10_method_18_code 83 = .ok (.if_icmp .ne 20, 3) := D_160 W_prog_10_method_18_code_64 19 rfl rfl rfl
theorem d_10_18_86 : decode prog_10_method_18_code 86 = .ok (.iload_n 2, 1) := D_28 W_prog_10_method_18_code_64 22 rfl rfl
theorem d_10_18_87 : decode prog_10_method_18_code 87 = .ok (.iconst 2, 1) := D_5 W_prog_10_method_18_code_64 23 rfl rfl
theorem d_10_18_88 : decode prog_10_method_18_code 88 = .ok (.if_icmp .lt 15, 3) := D_161 W_prog_10_method_18_code_64 24 rfl rfl rfl
theorem d_10_18_91 : decode prog_10_method_18_code 91 = .ok (.aload_n 0, 1) := D_42 W_prog_10_method_18_code_64 27 rfl rfl
theorem d_10_18_92 : decode prog_10_method_18_code 92 = .ok (.iload 4, 2) := D_21 W_prog_10_method_18_code_64 28 rfl rfl
theorem d_10_18_94 : decode prog_10_method_18_code 94 = .ok (.i2b, 1) := D_145 W_prog_10_method_18_code_64 30 rfl rfl
theorem d_10_18_95 : decode prog_10_method_18_code 95 = .ok (.iload 5, 2) := D_21 W_prog_10_method_18_code_64 31 rfl rfl
theorem W_prog_10_method_18_code_96 : chW prog_10_method_18_code 96 [5, 182, 0, 158, 167, 0, 41, 27, 16, 81, 160, 0, 35, 28, 6, 160, 0, 30, 42, 18, 161, 21, 4, 104, 17, 1, 0, 21, 5, 104, 96, 42, 180, 0, 23, 29] := chW_of (by decide +kernel)
theorem d_10_18_97 : decode prog_10_method_18_code 97 = .ok (.invokevirtual 158, 3) := D_182 W_prog_10_method_18_code_96 1 rfl rfl rfl
theorem d_10_18_100 : decode prog_10_method_18_code 100 = .ok (.goto 41, 3) := D_167 W_prog_10_method_18_code_96 4 rfl rfl rfl
theorem d_10_18_103 : decode prog_10_method_18_code 103 = .ok (.iload_n 1, 1) := D_27 W_prog_10_method_18_code_96 7 rfl rfl
theorem d_10_18_104 : decode prog_10_method_18_code 104 = .ok (.bipush 81, 2) := D_16 W_prog_10_method_18_code_96 8 rfl rfl rfl
theorem d_10_18_106 : decode prog_10_method_18_code 106 = .ok (.if_icmp .ne 35, 3) := D_160 W_prog_10_method_18_code_96 10 rfl rfl rfl
theorem d_10_18_109 : decode prog_10_method_18_code 109 = .ok (.iload_n 2, 1) := D_28 W_prog_10_method_18_code_96 13 rfl rfl
theorem d_10_18_110 : decode prog_10_method_18_code 110 = .ok (.iconst 3, 1) := D_6 W_prog_10_method_18_code_96 14 rfl rfl
theorem d_10_18_111 : decode prog_10_method_18_code 111 = .ok (.if_icmp .ne 30, 3) := D_160 W_prog_10_method_18_code_96 15 rfl rfl rfl
theorem d_10_18_114 : decode prog_10_method_18_code 114 = .ok (.aload_n 0, 1) := D_42 W_prog_10_method_18_code_96 18 rfl rfl
theorem d_10_18_115 : decode prog_10_method_18_code 115 = .ok (.ldc 161, 2) := D_18 W_prog_10_method_18_code_96 19 rfl rfl
theorem d_10_18_117 : decode prog_10_method_18_code 117 = .ok (.iload 4, 2) := D_21 W_prog_10_method_18_code_96 21 rfl rfl
theorem d_10_18_119 : decode prog_10_method_18_code 119 = .ok (.imul, 1) := D_104 W_prog_10_method_18_code_96 23 rfl rfl
theorem d_10_18_120 : decode prog_10_method_18_code 120 = .ok (.sipush 256, 3) := D_17 W_prog_10_method_18_code_96 24 rfl rfl rfl
theorem d_10_18_123 : decode prog_10_method_18_code 123 = .ok (.iload 5, 2) := D_21 W_prog_10_method_18_code_96 27 rfl rfl
theorem d_10_18_125 : decode prog_10_method_18_code 125 = .ok (.imul, 1) := D_104 W_prog_10_method_18_code_96 29 rfl rfl
theorem d_10_18_126 : decode prog_10_method_18_code 126 = .ok (.iadd, 1) := D_96 W_prog_10_method_18_code_96 30 rfl rfl
theorem d_10_18_127 : decode prog_10_method_18_code 127 = .ok (.aload_n 0, 1) := D_42 W_prog_10_method_18_code_96 31 rfl rfl
theorem d_10_18_128 : decode prog_10_method_18_code 128 = .ok (.getfield 23, 3) := D_180 W_prog_10_method_18_code_128 0 rfl rfl rfl
theorem d_10_18_131 : decode prog_10_method_18_code 131 = .ok (.iload_n 3, 1) := D_29 W_prog_10_method_18_code_128 3 rfl rfl
theorem d_10_18_132 : decode prog_10_method_18_code 132 = .ok (.iconst 2, 1) := D_5 W_prog_10_method_18_code_128 4 rfl rfl
theorem d_10_18_133 : decode prog_10_method_18_code 133 = .ok (.iadd, 1) := D_96 W_prog_10_method_18_code_128 5 rfl rfl
theorem d_10_18_134 : decode prog_10_method_18_code 134 = .ok (.invokevirtual 87, 3) := D_182 W_prog_10_method_18_code_128 6 rfl rfl rfl
theorem d_10_18_137 : decode prog_10_method_18_code 137 = .ok (.iadd, 1) := D_96 W_prog_10_method_18_code_128 9 rfl rfl
theorem d_10_18_138 : decode prog_10_method_18_code 138 = .ok (.invokevirtual 162, 3) := D_182 W_prog_10_method_18_code_128 10 rfl rfl rfl
theorem d_9_5_72 : decode prog_9_method_5_code 72 = .ok (.iinc 6 1, 3) := D_132 W_prog_9_method_5_code_64 8 rfl rfl rfl
theorem d_9_5_75 : decode prog_9_method_5_code 75 = .ok (.goto (-34), 3) := D_167 W_prog_9_method_5_code_64 11 rfl rfl rfl
theorem d_9_5_78 : decode prog_9_method_5_code 78 = .ok (.lload_n 1, 1) := D_31 W_prog_9_method_5_code_64 14 rfl rfl
theorem d_9_5_79 : decode prog_9_method_5_code 79 = .ok (.aload_n 0, 1) := D_42 W_prog_9_method_5_code_64 15 rfl rfl
theorem d_9_5_80 : decode prog_9_method_5_code 80 = .ok (.getfield 98, 3) := D_180 W_prog_9_method_5_code_64 16 rfl rfl rfl
theorem d_9_5_83 : decode prog_9_method_5_code 83 = .ok (.invokestatic 102, 3) := D_184 W_prog_9_method_5_code_64 19 rfl rfl rfl
theorem d_9_5_86 : decode prog_9_method_5_code 86 = .ok (.lstore_n 1, 1) := D_64 W_prog_9_method_5_code_64 22 rfl rfl
theorem d_9_5_87 : decode prog_9_method_5_code 87 = .ok (.iinc 3 1, 3) := D_132 W_prog_9_method_5_code_64 23 rfl rfl rfl
theorem d_9_5_90 : decode prog_9_method_5_code 90 = .ok (.aload_n 0, 1) := D_42 W_prog_9_method_5_code_64 26 rfl rfl
theorem d_9_5_91 : decode prog_9_method_5_code 91 = .ok (.iload 4, 2) := D_21 W_prog_9_method_5_code_64 27 rfl rfl
theorem d_9_5_93 : decode prog_9_method_5_code 93 = .ok (.invokevirtual 70, 3) := D_182 W_prog_9_method_5_code_64 29 rfl rfl rfl
theorem W_prog_9_method_5_code_96 : chW prog_9_method_5_code 96 [54, 4, 167, 255, 165, 31, 173] := chW_of (by decide +kernel)
theorem d_9_5_96 : decode prog_9_method_5_code 96 = .ok (.istore 4, 2) := D_54 W_prog_9_method_5_code_96 0 rfl rfl
theorem d_9_5_98 : decode prog_9_method_5_code 98 = .ok (.goto (-91), 3) := D_167 W_prog_9_method_5_code_96 2 rfl rfl rfl
theorem d_9_5_101 : decode prog_9_method_5_code 101 = .ok (.lload_n 1, 1) := D_31 W_prog_9_method_5_code_96 5 rfl rfl
theorem d_9_5_102 : decode prog_9_method_5_code 102 = .ok (.lreturn, 1) := D_173 W_prog_9_method_5_code_96 6 rfl rfl
theorem d_9_14_15 : decode prog_9_method_14_code 15 = .ok (.invokevirtual 151, 3) := D_182 W_prog_9_method_14_code_0 15 rfl rfl rfl
theorem d_9_14_18 : decode prog_9_method_14_code 18 = .ok (.iconst 0, 1) := D_3 W_prog_9_method_14_code_0 18 rfl rfl
theorem d_9_14_19 : decode prog_9_method_14_code 19 = .ok (.istore_n 3, 1) := D_62 W_prog_9_method_14_code_0 19 rfl rfl
theorem d_9_14_20 : decode prog_9_method_14_code 20 = .ok (.iload_n 3, 1) := D_29 W_prog_9_method_14_code_0 20 rfl rfl
theorem d_9_14_21 : decode prog_9_method_14_code 21 = .ok (.iload_n 2, 1) := D_28 W_prog_9_method_14_code_0 21 rfl rfl
theorem d_9_14_22 : decode prog_9_method_14_code 22 = .ok (.invokestatic 141, 3) := D_184 W_prog_9_method_14_code_0 22 rfl rfl rfl
theorem d_9_14_25 : decode prog_9_method_14_code 25 = .ok (.if_icmp .ge 27, 3) := D_162 W_prog_9_method_14_code_0 25 rfl rfl rfl
theorem W_prog_9_method_14_code_32 : chW prog_9_method_14_code 32 [28, 158, 0, 8, 16, 35, 167, 0, 5, 16, 98, 182, 0, 151, 132, 3, 1, 167, 255, 227, 42, 180, 0, 26, 16, 48, 27, 16, 7, 108, 96, 182, 0, 151, 177] := chW_of (by decide +kernel)
theorem d_9_14_52 : decode prog_9_method_14_code 52 = .ok (.aload_n 0, 1) := D_42 W_prog_9_method_14_code_32 20 rfl rfl
theorem d_9_14_53 : decode prog_9_method_14_code 53 = .ok (.getfield 26, 3) := D_180 W_prog_9_method_14_code_32 21 rfl rfl rfl
theorem d_9_14_56 : decode prog_9_method_14_code 56 = .ok (.bipush 48, 2) := D_16 W_prog_9_method_14_code_32 24 rfl rfl rfl
theorem d_9_14_58 : decode prog_9_method_14_code 58 = .ok (.iload_n 1, 1) := D_27 W_prog_9_method_14_code_32 26 rfl rfl
theorem d_9_14_59 : decode prog_9_method_14_code 59 = .ok (.bipush 7, 2) := D_16 W_prog_9_method_14_code_32 27 rfl rfl rfl
theorem d_9_14_61 : decode prog_9_method_14_code 61 = .ok (.idiv, 1) := D_108 W_prog_9_method_14_code_32 29 rfl rfl
theorem d_9_14_62 : decode prog_9_method_14_code 62 = .ok (.iadd, 1) := D_96 W_prog_9_method_14_code_32 30 rfl rfl
theorem d_9_14_63 : decode prog_9_method_14_code 63 = .ok (.invokevirtual 151, 3) := D_182 W_prog_9_method_14_code_32 31 rfl rfl rfl
theorem W_prog_9_method_14_code_64 : chW prog_9_method_14_code 64 [0, 151, 177] := chW_of (by decide +kernel)
theorem d_9_14_66 : decode prog_9_method_14_code 66 = .ok (.return_, 1) := D_177 W_prog_9_method_14_code_64 2 rfl rfl
theorem d_9_14_28 : decode prog_9_method_14_code 28 = .ok (.aload_n 0, 1) := D_42 W_prog_9_method_14_code_0 28 rfl rfl
theorem d_9_14_29 : decode prog_9_method_14_code 29 = .ok (.getfield 26, 3) := D_180 W_prog_9_method_14_code_0 29 rfl rfl rfl
theorem d_9_14_32 : decode prog_9_method_14_code 32 = .ok (.iload_n 2, 1) := D_28 W_prog_9_method_14_code_32 0 rfl rfl
theorem d_9_14_33 : decode prog_9_method_14_code 33 = .ok (.ifCond .le 8, 3) := D_158 W_prog_9_method_14_code_32 1 rfl rfl rfl
theorem d_9_14_41 : decode prog_9_method_14_code 41 = .ok (.bipush 98, 2) := D_16 W_prog_9_method_14_code_32 9 rfl rfl rfl
theorem d_9_14_36 : decode prog_9_method_14_code 36 = .ok (.bipush 35, 2) := D_16 W_prog_9_method_14_code_32 4 rfl rfl rfl
theorem d_9_14_38 : decode prog_9_method_14_code 38 = .ok (.goto 5, 3) := D_167 W_prog_9_method_14_code_32 6 rfl rfl rfl
theorem d_9_14_43 : decode prog_9_method_14_code 43 = .ok (.invokevirtual 151, 3) := D_182 W_prog_9_method_14_code_32 11 rfl rfl rfl
theorem d_9_14_46 : decode prog_9_method_14_code 46 = .ok (.iinc 3 1, 3) := D_132 W_prog_9_method_14_code_32 14 rfl rfl rfl
theorem d_9_14_49 : decode prog_9_method_14_code 49 = .ok (.goto (-29), 3) := D_167 W_prog_9_method_14_code_32 17 rfl rfl rfl
theorem d_7_25_178 : decode prog_7_method_25_code 178 = .ok (.imul, 1) := D_104 W_prog_7_method_25_code_160 18 rfl rfl
theorem d_7_25_179 : decode prog_7_method_25_code 179 = .ok (.aload_n 0, 1) := D_42 W_prog_7_method_25_code_160 19 rfl rfl
theorem d_7_25_180 : decode prog_7_method_25_code 180 = .ok (.getfield 23, 3) := D_180 W_prog_7_method_25_code_160 20 rfl rfl rfl
theorem d_7_25_183 : decode prog_7_method_25_code 183 = .ok (.iconst 3, 1) := D_6 W_prog_7_method_25_code_160 23 rfl rfl
theorem d_7_25_184 : decode prog_7_method_25_code 184 = .ok (.aaload, 1) := D_50 W_prog_7_method_25_code_160 24 rfl rfl
