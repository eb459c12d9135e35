theorem d_4_12_12 : decode prog_4_method_12_code 12 = .ok (.aload_n 0, 1) := D_42 W_prog_4_method_12_code_0 12 rfl rfl
theorem d_4_12_13 : decode prog_4_method_12_code 13 = .ok (.getfield 22, 3) := D_180 W_prog_4_method_12_code_0 13 rfl rfl rfl
theorem d_4_12_16 : decode prog_4_method_12_code 16 = .ok (.aload_n 0, 1) := D_42 W_prog_4_method_12_code_0 16 rfl rfl
theorem d_4_12_17 : decode prog_4_method_12_code 17 = .ok (.getfield 28, 3) := D_180 W_prog_4_method_12_code_0 17 rfl rfl rfl
theorem d_4_12_20 : decode prog_4_method_12_code 20 = .ok (.iload_n 2, 1) := D_28 W_prog_4_method_12_code_0 20 rfl rfl
theorem d_4_12_21 : decode prog_4_method_12_code 21 = .ok (.iaload, 1) := D_46 W_prog_4_method_12_code_0 21 rfl rfl
theorem d_4_12_22 : decode prog_4_method_12_code 22 = .ok (.iaload, 1) := D_46 W_prog_4_method_12_code_0 22 rfl rfl
theorem d_4_12_23 : decode prog_4_method_12_code 23 = .ok (.istore 5, 2) := D_54 W_prog_4_method_12_code_0 23 rfl rfl
theorem d_4_12_25 : decode prog_4_method_12_code 25 = .ok (.aload_n 0, 1) := D_42 W_prog_4_method_12_code_0 25 rfl rfl
theorem d_4_12_26 : decode prog_4_method_12_code 26 = .ok (.getfield 22, 3) := D_180 W_prog_4_method_12_code_0 26 rfl rfl rfl
theorem d_4_12_29 : decode prog_4_method_12_code 29 = .ok (.aload_n 0, 1) := D_42 W_prog_4_method_12_code_0 29 rfl rfl
theorem d_4_12_30 : decode prog_4_method_12_code 30 = .ok (.getfield 28, 3) := D_180 W_prog_4_method_12_code_0 30 rfl rfl rfl
theorem W_prog_4_method_12_code_32 : chW prog_4_method_12_code 32 [28, 28, 4, 96, 46, 46, 21, 5, 100, 4, 184, 0, 115, 54, 6, 28, 4, 96, 42, 180, 0, 66, 162, 0, 18, 29, 42, 180, 0, 31, 28, 46, 100, 3, 184, 0] := chW_of (by decide +kernel)
theorem d_4_12_33 : decode prog_4_method_12_code 33 = .ok (.iload_n 2, 1) := D_28 W_prog_4_method_12_code_32 1 rfl rfl
theorem d_4_12_34 : decode prog_4_method_12_code 34 = .ok (.iconst 1, 1) := D_4 W_prog_4_method_12_code_32 2 rfl rfl
theorem d_4_12_35 : decode prog_4_method_12_code 35 = .ok (.iadd, 1) := D_96 W_prog_4_method_12_code_32 3 rfl rfl
theorem d_4_12_36 : decode prog_4_method_12_code 36 = .ok (.iaload, 1) := D_46 W_prog_4_method_12_code_32 4 rfl rfl
theorem d_4_12_37 : decode prog_4_method_12_code 37 = .ok (.iaload, 1) := D_46 W_prog_4_method_12_code_32 5 rfl rfl
theorem d_4_12_38 : decode prog_4_method_12_code 38 = .ok (.iload 5, 2) := D_21 W_prog_4_method_12_code_32 6 rfl rfl
theorem d_4_12_40 : decode prog_4_method_12_code 40 = .ok (.isub, 1) := D_100 W_prog_4_method_12_code_32 8 rfl rfl
theorem d_4_12_41 : decode prog_4_method_12_code 41 = .ok (.iconst 1, 1) := D_4 W_prog_4_method_12_code_32 9 rfl rfl
theorem d_4_12_42 : decode prog_4_method_12_code 42 = .ok (.invokestatic 115, 3) := D_184 W_prog_4_method_12_code_32 10 rfl rfl rfl
theorem d_4_12_45 : decode prog_4_method_12_code 45 = .ok (.istore 6, 2) := D_54 W_prog_4_method_12_code_32 13 rfl rfl
theorem d_4_12_47 : decode prog_4_method_12_code 47 = .ok (.iload_n 2, 1) := D_28 W_prog_4_method_12_code_32 15 rfl rfl
theorem d_4_12_48 : decode prog_4_method_12_code 48 = .ok (.iconst 1, 1) := D_4 W_prog_4_method_12_code_32 16 rfl rfl
theorem d_4_12_49 : decode prog_4_method_12_code 49 = .ok (.iadd, 1) := D_96 W_prog_4_method_12_code_32 17 rfl rfl
theorem d_4_12_50 : decode prog_4_method_12_code 50 = .ok (.aload_n 0, 1) := D_42 W_prog_4_method_12_code_32 18 rfl rfl
theorem d_4_12_51 : decode prog_4_method_12_code 51 = .ok (.getfield 66, 3) := D_180 W_prog_4_method_12_code_32 19 rfl rfl rfl
theorem d_4_12_54 : decode prog_4_method_12_code 54 = .ok (.if_icmp .ge 18, 3) := D_162 W_prog_4_method_12_code_32 22 rfl rfl rfl
theorem W_prog_4_method_12_code_64 : chW prog_4_method_12_code 64 [100, 3, 184, 0, 115, 167, 0, 4, 3, 54, 7, 42, 180, 0, 28, 28, 46, 54, 8, 21, 8, 42, 180, 0, 28, 28, 4, 96, 46, 162, 0, 74, 132, 4, 6, 42] := chW_of (by decide +kernel)
theorem d_4_12_72 : decode prog_4_method_12_code 72 = .ok (.iconst 0, 1) := D_3 W_prog_4_method_12_code_64 8 rfl rfl
theorem d_4_12_57 : decode prog_4_method_12_code 57 = .ok (.iload_n 3, 1) := D_29 W_prog_4_method_12_code_32 25 rfl rfl
theorem d_4_12_58 : decode prog_4_method_12_code 58 = .ok (.aload_n 0, 1) := D_42 W_prog_4_method_12_code_32 26 rfl rfl
theorem d_4_12_59 : decode prog_4_method_12_code 59 = .ok (.getfield 31, 3) := D_180 W_prog_4_method_12_code_32 27 rfl rfl rfl
theorem d_4_12_62 : decode prog_4_method_12_code 62 = .ok (.iload_n 2, 1) := D_28 W_prog_4_method_12_code_32 30 rfl rfl
theorem d_4_12_63 : decode prog_4_method_12_code 63 = .ok (.iaload, 1) := D_46 W_prog_4_method_12_code_32 31 rfl rfl
theorem d_4_12_64 : decode prog_4_method_12_code 64 = .ok (.isub, 1) := D_100 W_prog_4_method_12_code_64 0 rfl rfl
theorem d_4_12_65 : decode prog_4_method_12_code 65 = .ok (.iconst 0, 1) := D_3 W_prog_4_method_12_code_64 1 rfl rfl
theorem d_4_12_66 : decode prog_4_method_12_code 66 = .ok (.invokestatic 115, 3) := D_184 W_prog_4_method_12_code_64 2 rfl rfl rfl
theorem d_4_12_69 : decode prog_4_method_12_code 69 = .ok (.goto 4, 3) := D_167 W_prog_4_method_12_code_64 5 rfl rfl rfl
theorem d_4_12_73 : decode prog_4_method_12_code 73 = .ok (.istore 7, 2) := D_54 W_prog_4_method_12_code_64 9 rfl rfl
theorem d_4_12_75 : decode prog_4_method_12_code 75 = .ok (.aload_n 0, 1) := D_42 W_prog_4_method_12_code_64 11 rfl rfl
theorem d_4_12_76 : decode prog_4_method_12_code 76 = .ok (.getfield 28, 3) := D_180 W_prog_4_method_12_code_64 12 rfl rfl rfl
theorem d_4_12_79 : decode prog_4_method_12_code 79 = .ok (.iload_n 2, 1) := D_28 W_prog_4_method_12_code_64 15 rfl rfl
theorem d_4_12_80 : decode prog_4_method_12_code 80 = .ok (.iaload, 1) := D_46 W_prog_4_method_12_code_64 16 rfl rfl
theorem d_4_12_81 : decode prog_4_method_12_code 81 = .ok (.istore 8, 2) := D_54 W_prog_4_method_12_code_64 17 rfl rfl
theorem d_4_12_83 : decode prog_4_method_12_code 83 = .ok (.iload 8, 2) := D_21 W_prog_4_method_12_code_64 19 rfl rfl
theorem d_4_12_85 : decode prog_4_method_12_code 85 = .ok (.aload_n 0, 1) := D_42 W_prog_4_method_12_code_64 21 rfl rfl
theorem d_4_12_86 : decode prog_4_method_12_code 86 = .ok (.getfield 28, 3) := D_180 W_prog_4_method_12_code_64 22 rfl rfl rfl
theorem d_4_12_89 : decode prog_4_method_12_code 89 = .ok (.iload_n 2, 1) := D_28 W_prog_4_method_12_code_64 25 rfl rfl
theorem d_4_12_90 : decode prog_4_method_12_code 90 = .ok (.iconst 1, 1) := D_4 W_prog_4_method_12_code_64 26 rfl rfl
theorem d_4_12_91 : decode prog_4_method_12_code 91 = .ok (.iadd, 1) := D_96 W_prog_4_method_12_code_64 27 rfl rfl
theorem d_4_12_92 : decode prog_4_method_12_code 92 = .ok (.iaload, 1) := D_46 W_prog_4_method_12_code_64 28 rfl rfl
theorem d_4_12_93 : decode prog_4_method_12_code 93 = .ok (.if_icmp .ge 74, 3) := D_162 W_prog_4_method_12_code_64 29 rfl rfl rfl
theorem W_prog_4_method_12_code_160 : chW prog_4_method_12_code 160 [206, 132, 8, 1, 167, 255, 175, 177] := chW_of (by decide +kernel)
theorem d_4_12_167 : decode prog_4_method_12_code 167 = .ok (.return_, 1) := D_177 W_prog_4_method_12_code_160 7 rfl rfl
theorem W_prog_4_method_12_code_96 : chW prog_4_method_12_code 96 [132, 4, 6, 42, 180, 0, 22, 21, 8, 46, 54, 9, 21, 9, 42, 180, 0, 22, 21, 8, 4, 96, 46, 162, 0, 42, 42, 180, 0, 19, 21, 9, 21, 4, 21, 7] := chW_of (by decide +kernel)
theorem d_4_12_96 : decode prog_4_method_12_code 96 = .ok (.iinc 4 6, 3) := D_132 W_prog_4_method_12_code_96 0 rfl rfl rfl
theorem d_4_12_99 : decode prog_4_method_12_code 99 = .ok (.aload_n 0, 1) := D_42 W_prog_4_method_12_code_96 3 rfl rfl
theorem d_4_12_100 : decode prog_4_method_12_code 100 = .ok (.getfield 22, 3) := D_180 W_prog_4_method_12_code_96 4 rfl rfl rfl
theorem d_4_12_103 : decode prog_4_method_12_code 103 = .ok (.iload 8, 2) := D_21 W_prog_4_method_12_code_96 7 rfl rfl
theorem d_4_12_105 : decode prog_4_method_12_code 105 = .ok (.iaload, 1) := D_46 W_prog_4_method_12_code_96 9 rfl rfl
theorem d_4_12_106 : decode prog_4_method_12_code 106 = .ok (.istore 9, 2) := D_54 W_prog_4_method_12_code_96 10 rfl rfl
theorem d_4_12_108 : decode prog_4_method_12_code 108 = .ok (.iload 9, 2) := D_21 W_prog_4_method_12_code_96 12 rfl rfl
theorem d_4_12_110 : decode prog_4_method_12_code 110 = .ok (.aload_n 0, 1) := D_42 W_prog_4_method_12_code_96 14 rfl rfl
theorem d_4_12_111 : decode prog_4_method_12_code 111 = .ok (.getfield 22, 3) := D_180 W_prog_4_method_12_code_96 15 rfl rfl rfl
theorem d_4_12_114 : decode prog_4_method_12_code 114 = .ok (.iload 8, 2) := D_21 W_prog_4_method_12_code_96 18 rfl rfl
theorem d_4_12_116 : decode prog_4_method_12_code 116 = .ok (.iconst 1, 1) := D_4 W_prog_4_method_12_code_96 20 rfl rfl
theorem d_4_12_117 : decode prog_4_method_12_code 117 = .ok (.iadd, 1) := D_96 W_prog_4_method_12_code_96 21 rfl rfl
theorem d_4_12_118 : decode prog_4_method_12_code 118 = .ok (.iaload, 1) := D_46 W_prog_4_method_12_code_96 22 rfl rfl
theorem d_4_12_119 : decode prog_4_method_12_code 119 = .ok (.if_icmp .ge 42, 3) := D_162 W_prog_4_method_12_code_96 23 rfl rfl rfl
theorem d_4_12_161 : decode prog_4_method_12_code 161 = .ok (.iinc 8 1, 3) := D_132 W_prog_4_method_12_code_160 1 rfl rfl rfl
theorem d_4_12_164 : decode prog_4_method_12_code 164 = .ok (.goto (-81), 3) := D_167 W_prog_4_method_12_code_160 4 rfl rfl rfl
theorem d_4_12_122 : decode prog_4_method_12_code 122 = .ok (.aload_n 0, 1) := D_42 W_prog_4_method_12_code_96 26 rfl rfl
theorem d_4_12_123 : decode prog_4_method_12_code 123 = .ok (.getfield 19, 3) := D_180 W_prog_4_method_12_code_96 27 rfl rfl rfl
theorem d_4_12_126 : decode prog_4_method_12_code 126 = .ok (.iload 9, 2) := D_21 W_prog_4_method_12_code_96 30 rfl rfl
theorem W_prog_4_method_12_code_128 : chW prog_4_method_12_code 128 [21, 4, 21, 7, 21, 9, 21, 5, 100, 104, 21, 6, 108, 96, 79, 21, 4, 42, 180, 0, 15, 21, 9, 46, 96, 54, 4, 132, 9, 1, 167, 255, 206, 132, 8, 1] := chW_of (by decide +kernel)
theorem d_4_12_128 : decode prog_4_method_12_code 128 = .ok (.iload 4, 2) := D_21 W_prog_4_method_12_code_128 0 rfl rfl
theorem d_4_12_130 : decode prog_4_method_12_code 130 = .ok (.iload 7, 2) := D_21 W_prog_4_method_12_code_128 2 rfl rfl
theorem d_4_12_132 : decode prog_4_method_12_code 132 = .ok (.iload 9, 2) := D_21 W_prog_4_method_12_code_128 4 rfl rfl
theorem d_4_12_134 : decode prog_4_method_12_code 134 = .ok (.iload 5, 2) := D_21 W_prog_4_method_12_code_128 6 rfl rfl
theorem d_4_12_136 : decode prog_4_method_12_code 136 = .ok (.isub, 1) := D_100 W_prog_4_method_12_code_128 8 rfl rfl
theorem d_4_12_137 : decode prog_4_method_12_code 137 = .ok (.imul, 1) := D_104 W_prog_4_method_12_code_128 9 rfl rfl
theorem d_4_12_138 : decode prog_4_method_12_code 138 = .ok (.iload 6, 2) := D_21 W_prog_4_method_12_code_128 10 rfl rfl
theorem d_4_12_140 : decode prog_4_method_12_code 140 = .ok (.idiv, 1) := D_108 W_prog_4_method_12_code_128 12 rfl rfl
theorem d_4_12_141 : decode prog_4_method_12_code 141 = .ok (.iadd, 1) := D_96 W_prog_4_method_12_code_128 13 rfl rfl
theorem d_4_12_142 : decode prog_4_method_12_code 142 = .ok (.iastore, 1) := D_79 W_prog_4_method_12_code_128 14 rfl rfl
theorem d_4_12_143 : decode prog_4_method_12_code 143 = .ok (.iload 4, 2) := D_21 W_prog_4_method_12_code_128 15 rfl rfl
theorem d_4_12_145 : decode prog_4_method_12_code 145 = .ok (.aload_n 0, 1) := D_42 W_prog_4_method_12_code_128 17 rfl rfl
theorem d_4_12_146 : decode prog_4_method_12_code 146 = .ok (.getfield 15, 3) := D_180 W_prog_4_method_12_code_128 18 rfl rfl rfl
theorem d_4_12_149 : decode prog_4_method_12_code 149 = .ok (.iload 9, 2) := D_21 W_prog_4_method_12_code_128 21 rfl rfl
theorem d_4_12_151 : decode prog_4_method_12_code 151 = .ok (.iaload, 1) := D_46 W_prog_4_method_12_code_128 23 rfl rfl
theorem d_4_12_152 : decode prog_4_method_12_code 152 = .ok (.iadd, 1) := D_96 W_prog_4_method_12_code_128 24 rfl rfl
theorem d_4_12_153 : decode prog_4_method_12_code 153 = .ok (.istore 4, 2) := D_54 W_prog_4_method_12_code_128 25 rfl rfl
theorem d_4_12_155 : decode prog_4_method_12_code 155 = .ok (.iinc 9 1, 3) := D_132 W_prog_4_method_12_code_128 27 rfl rfl rfl
theorem d_4_12_158 : decode prog_4_method_12_code 158 = .ok (.goto (-50), 3) := D_167 W_prog_4_method_12_code_128 30 rfl rfl rfl
theorem W_prog_4_method_13_code_0 : chW prog_4_method_13_code 0 [27, 155, 0, 11, 27, 42, 180, 0, 66, 161, 0, 7, 20, 0, 118, 173, 28, 170, 0, 0, 0, 0, 0, 102, 0, 0, 0, 0, 0, 0, 0, 4, 0, 0, 0, 35] := chW_of (by decide +kernel)
theorem d_4_13_0 : decode prog_4_method_13_code 0 = .ok (.iload_n 1, 1) := D_27 W_prog_4_method_13_code_0 0 rfl rfl
theorem d_4_13_1 : decode prog_4_method_13_code 1 = .ok (.ifCond .lt 11, 3) := D_155 W_prog_4_method_13_code_0 1 rfl rfl rfl
theorem d_4_13_4 : decode prog_4_method_13_code 4 = .ok (.iload_n 1, 1) := D_27 W_prog_4_method_13_code_0 4 rfl rfl
theorem d_4_13_5 : decode prog_4_method_13_code 5 = .ok (.aload_n 0, 1) := D_42 W_prog_4_method_13_code_0 5 rfl rfl
theorem d_4_13_6 : decode prog_4_method_13_code 6 = .ok (.getfield 66, 3) := D_180 W_prog_4_method_13_code_0 6 rfl rfl rfl
theorem d_4_13_9 : decode prog_4_method_13_code 9 = .ok (.if_icmp .lt 7, 3) := D_161 W_prog_4_method_13_code_0 9 rfl rfl rfl
theorem d_4_13_16 : decode prog_4_method_13_code 16 = .ok (.iload_n 2, 1) := D_28 W_prog_4_method_13_code_0 16 rfl rfl
theorem d_4_13_17 : decode prog_4_method_13_code 17 = .ok (.tableswitch 102 0 4 #[35, 43, 60, 68, 95], 35) := by decide +kernel
theorem W_prog_4_method_13_code_32 : chW prog_4_method_13_code 32 [0, 0, 0, 35, 0, 0, 0, 43, 0, 0, 0, 60, 0, 0, 0, 68, 0, 0, 0, 95, 42, 180, 0, 28, 27, 46, 133, 173, 42, 180, 0, 28, 27, 4, 96, 46] := chW_of (by decide +kernel)
theorem d_4_13_52 : decode prog_4_method_13_code 52 = .ok (.aload_n 0, 1) := D_42 W_prog_4_method_13_code_32 20 rfl rfl
theorem d_4_13_53 : decode prog_4_method_13_code 53 = .ok (.getfield 28, 3) := D_180 W_prog_4_method_13_code_32 21 rfl rfl rfl
theorem d_4_13_56 : decode prog_4_method_13_code 56 = .ok (.iload_n 1, 1) := D_27 W_prog_4_method_13_code_32 24 rfl rfl
theorem d_4_13_57 : decode prog_4_method_13_code 57 = .ok (.iaload, 1) := D_46 W_prog_4_method_13_code_32 25 rfl rfl
theorem d_4_13_58 : decode prog_4_method_13_code 58 = .ok (.i2l, 1) := D_133 W_prog_4_method_13_code_32 26 rfl rfl
theorem d_4_13_59 : decode prog_4_method_13_code 59 = .ok (.lreturn, 1) := D_173 W_prog_4_method_13_code_32 27 rfl rfl
theorem d_4_13_60 : decode prog_4_method_13_code 60 = .ok (.aload_n 0, 1) := D_42 W_prog_4_method_13_code_32 28 rfl rfl
theorem d_4_13_61 : decode prog_4_method_13_code 61 = .ok (.getfield 28, 3) := D_180 W_prog_4_method_13_code_32 29 rfl rfl rfl
theorem W_prog_4_method_13_code_64 : chW prog_4_method_13_code 64 [27, 4, 96, 46, 42, 180, 0, 28, 27, 46, 100, 133, 173, 42, 180, 0, 31, 27, 46, 133, 173, 42, 180, 0, 22, 42, 180, 0, 28, 27, 4, 96, 46, 46, 42, 180] := chW_of (by decide +kernel)
theorem d_4_13_64 : decode prog_4_method_13_code 64 = .ok (.iload_n 1, 1) := D_27 W_prog_4_method_13_code_64 0 rfl rfl
theorem d_4_13_65 : decode prog_4_method_13_code 65 = .ok (.iconst 1, 1) := D_4 W_prog_4_method_13_code_64 1 rfl rfl
theorem d_4_13_66 : decode prog_4_method_13_code 66 = .ok (.iadd, 1) := D_96 W_prog_4_method_13_code_64 2 rfl rfl
theorem d_4_13_67 : decode prog_4_method_13_code 67 = .ok (.iaload, 1) := D_46 W_prog_4_method_13_code_64 3 rfl rfl
theorem d_4_13_68 : decode prog_4_method_13_code 68 = .ok (.aload_n 0, 1) := D_42 W_prog_4_method_13_code_64 4 rfl rfl
theorem d_4_13_69 : decode prog_4_method_13_code 69 = .ok (.getfield 28, 3) := D_180 W_prog_4_method_13_code_64 5 rfl rfl rfl
theorem d_4_13_72 : decode prog_4_method_13_code 72 = .ok (.iload_n 1, 1) := D_27 W_prog_4_method_13_code_64 8 rfl rfl
theorem d_4_13_73 : decode prog_4_method_13_code 73 = .ok (.iaload, 1) := D_46 W_prog_4_method_13_code_64 9 rfl rfl
theorem d_4_13_74 : decode prog_4_method_13_code 74 = .ok (.isub, 1) := D_100 W_prog_4_method_13_code_64 10 rfl rfl
theorem d_4_13_75 : decode prog_4_method_13_code 75 = .ok (.i2l, 1) := D_133 W_prog_4_method_13_code_64 11 rfl rfl
theorem d_4_13_76 : decode prog_4_method_13_code 76 = .ok (.lreturn, 1) := D_173 W_prog_4_method_13_code_64 12 rfl rfl
theorem d_4_13_77 : decode prog_4_method_13_code 77 = .ok (.aload_n 0, 1) := D_42 W_prog_4_method_13_code_64 13 rfl rfl
theorem d_4_13_78 : decode prog_4_method_13_code 78 = .ok (.getfield 31, 3) := D_180 W_prog_4_method_13_code_64 14 rfl rfl rfl
theorem d_4_13_81 : decode prog_4_method_13_code 81 = .ok (.iload_n 1, 1) := D_27 W_prog_4_method_13_code_64 17 rfl rfl
theorem d_4_13_82 : decode prog_4_method_13_code 82 = .ok (.iaload, 1) := D_46 W_prog_4_method_13_code_64 18 rfl rfl
theorem d_4_13_83 : decode prog_4_method_13_code 83 = .ok (.i2l, 1) := D_133 W_prog_4_method_13_code_64 19 rfl rfl
theorem d_4_13_84 : decode prog_4_method_13_code 84 = .ok (.lreturn, 1) := D_173 W_prog_4_method_13_code_64 20 rfl rfl
theorem d_4_13_85 : decode prog_4_method_13_code 85 = .ok (.aload_n 0, 1) := D_42 W_prog_4_method_13_code_64 21 rfl rfl
theorem d_4_13_86 : decode prog_4_method_13_code 86 = .ok (.getfield 22, 3) := D_180 W_prog_4_method_13_code_64 22 rfl rfl rfl
theorem d_4_13_89 : decode prog_4_method_13_code 89 = .ok (.aload_n 0, 1) := D_42 W_prog_4_method_13_code_64 25 rfl rfl
theorem d_4_13_90 : decode prog_4_method_13_code 90 = .ok (.getfield 28, 3) := D_180 W_prog_4_method_13_code_64 26 rfl rfl rfl
theorem d_4_13_93 : decode prog_4_method_13_code 93 = .ok (.iload_n 1, 1) := D_27 W_prog_4_method_13_code_64 29 rfl rfl
theorem d_4_13_94 : decode prog_4_method_13_code 94 = .ok (.iconst 1, 1) := D_4 W_prog_4_method_13_code_64 30 rfl rfl
theorem d_4_13_95 : decode prog_4_method_13_code 95 = .ok (.iadd, 1) := D_96 W_prog_4_method_13_code_64 31 rfl rfl
theorem W_prog_4_method_13_code_96 : chW prog_4_method_13_code 96 [46, 46, 42, 180, 0, 22, 42, 180, 0, 28, 27, 46, 46, 100, 133, 173, 42, 180, 0, 34, 27, 47, 173, 20, 0, 118, 173] := chW_of (by decide +kernel)
theorem d_4_13_96 : decode prog_4_method_13_code 96 = .ok (.iaload, 1) := D_46 W_prog_4_method_13_code_96 0 rfl rfl
theorem d_4_13_97 : decode prog_4_method_13_code 97 = .ok (.iaload, 1) := D_46 W_prog_4_method_13_code_96 1 rfl rfl
theorem d_4_13_98 : decode prog_4_method_13_code 98 = .ok (.aload_n 0, 1) := D_42 W_prog_4_method_13_code_96 2 rfl rfl
theorem d_4_13_99 : decode prog_4_method_13_code 99 = .ok (.getfield 22, 3) := D_180 W_prog_4_method_13_code_96 3 rfl rfl rfl
theorem d_4_13_102 : decode prog_4_method_13_code 102 = .ok (.aload_n 0, 1) := D_42 W_prog_4_method_13_code_96 6 rfl rfl
theorem d_4_13_103 : decode prog_4_method_13_code 103 = .ok (.getfield 28, 3) := D_180 W_prog_4_method_13_code_96 7 rfl rfl rfl
theorem d_4_13_106 : decode prog_4_method_13_code 106 = .ok (.iload_n 1, 1) := D_27 W_prog_4_method_13_code_96 10 rfl rfl
theorem d_4_13_107 : decode prog_4_method_13_code 107 = .ok (.iaload, 1) := D_46 W_prog_4_method_13_code_96 11 rfl rfl
theorem d_4_13_108 : decode prog_4_method_13_code 108 = .ok (.iaload, 1) := D_46 W_prog_4_method_13_code_96 12 rfl rfl
theorem d_4_13_109 : decode prog_4_method_13_code 109 = .ok (.isub, 1) := D_100 W_prog_4_method_13_code_96 13 rfl rfl
theorem d_4_13_110 : decode prog_4_method_13_code 110 = .ok (.i2l, 1) := D_133 W_prog_4_method_13_code_96 14 rfl rfl
theorem d_4_13_111 : decode prog_4_method_13_code 111 = .ok (.lreturn, 1) := D_173 W_prog_4_method_13_code_96 15 rfl rfl
theorem d_4_13_112 : decode prog_4_method_13_code 112 = .ok (.aload_n 0, 1) := D_42 W_prog_4_method_13_code_96 16 rfl rfl
theorem d_4_13_113 : decode prog_4_method_13_code 113 = .ok (.getfield 34, 3) := D_180 W_prog_4_method_13_code_96 17 rfl rfl rfl
theorem d_4_13_116 : decode prog_4_method_13_code 116 = .ok (.iload_n 1, 1) := D_27 W_prog_4_method_13_code_96 20 rfl rfl
theorem d_4_13_117 : decode prog_4_method_13_code 117 = .ok (.laload, 1) := D_47 W_prog_4_method_13_code_96 21 rfl rfl
theorem d_4_13_118 : decode prog_4_method_13_code 118 = .ok (.lreturn, 1) := D_173 W_prog_4_method_13_code_96 22 rfl rfl
theorem d_4_13_119 : decode prog_4_method_13_code 119 = .ok (.ldc2_w 118, 3) := D_20 W_prog_4_method_13_code_96 23 rfl rfl rfl
theorem d_4_13_122 : decode prog_4_method_13_code 122 = .ok (.lreturn, 1) := D_173 W_prog_4_method_13_code_96 26 rfl rfl
theorem d_4_13_12 : decode prog_4_method_13_code 12 = .ok (.ldc2_w 118, 3) := D_20 W_prog_4_method_13_code_0 12 rfl rfl rfl
theorem d_4_13_15 : decode prog_4_method_13_code 15 = .ok (.lreturn, 1) := D_173 W_prog_4_method_13_code_0 15 rfl rfl
set_option maxRecDepth 20000 in
theorem inW_5 : ∀ w ∈ u_ws RX5 TX5 14, w ∈ wAll := by
  show ∀ w ∈ [(Jvm.Cond.lays "StaveHouse$Performance" "StaveHouse$Performance" "count" "I"), (Jvm.Cond.lays "StaveHouse$Performance" "StaveHouse$Performance" "tooMany" "Z"), (Jvm.Cond.lays "StaveHouse$Performance" "StaveHouse$Performance" "made" "I"), (Jvm.Cond.lays "StaveHouse$Performance" "StaveHouse$Performance" "latest" "I"), (Jvm.Cond.laysFinal "StaveHouse$Performance" "StaveHouse$Performance" "heardRow" "[I"), (Jvm.Cond.laysFinal "StaveHouse$Performance" "StaveHouse$Performance" "codeRow" "[I"), (Jvm.Cond.laysFinal "StaveHouse$Performance" "StaveHouse$Performance" "mix" "[I"), (Jvm.Cond.laysFinal "StaveHouse$Performance" "StaveHouse$Performance" "sounds" "[[I"), (Jvm.Cond.lays "StaveHouse$Performance" "StaveHouse$Performance" "strokes" "[J"), (Jvm.Cond.lays "StaveHouse$Performance" "StaveHouse$Performance" "otherStrokes" "[J"), (Jvm.Cond.laysFinal "StaveHouse$Performance" "StaveHouse$Performance" "keyTicks" "[J"), (Jvm.Cond.lays "StaveHouse$Performance" "StaveHouse$Performance" "heard" "I"), (Jvm.Cond.lays "StaveHouse$Performance" "StaveHouse$Performance" "predicted" "I"), (Jvm.Cond.lays "StaveHouse$Performance" "StaveHouse$Performance" "index" "I")], w ∈ wAll
  exact List.forall_mem_cons.mpr ⟨k_6_83, List.forall_mem_cons.mpr ⟨k_6_85, List.forall_mem_cons.mpr ⟨k_6_87, List.forall_mem_cons.mpr ⟨k_6_89, List.forall_mem_cons.mpr ⟨k_6_91, List.forall_mem_cons.mpr ⟨k_6_93, List.forall_mem_cons.mpr ⟨k_6_95, List.forall_mem_cons.mpr ⟨k_6_97, List.forall_mem_cons.mpr ⟨k_6_99, List.forall_mem_cons.mpr ⟨k_6_101, List.forall_mem_cons.mpr ⟨k_6_103, List.forall_mem_cons.mpr ⟨k_6_105, List.forall_mem_cons.mpr ⟨k_6_107, List.forall_mem_cons.mpr ⟨k_6_109, fun _ h => absurd h List.not_mem_nil⟩⟩⟩⟩⟩⟩⟩⟩⟩⟩⟩⟩⟩⟩
set_option maxRecDepth 20000 in
theorem inW_9 : ∀ w ∈ u_ws RX9 TX9 11, w ∈ wAll := by
  show ∀ w ∈ [(Jvm.Cond.lays "StaveHouse$Study" "StaveHouse$Study" "moments" "I"), (Jvm.Cond.laysFinal "StaveHouse$Study" "StaveHouse$Study" "places" "[J"), (Jvm.Cond.lays "StaveHouse$Study" "StaveHouse$Study" "faults" "I"), (Jvm.Cond.laysFinal "StaveHouse$Study" "StaveHouse$Study" "faultRows" "[[I"), (Jvm.Cond.laysFinal "StaveHouse$Study" "StaveHouse$Study" "eventsAt" "[[I"), (Jvm.Cond.laysFinal "StaveHouse$Study" "StaveHouse$Study" "steps" "[I"), (Jvm.Cond.laysFinal "StaveHouse$Study" "StaveHouse$Study" "tones" "[I"), (Jvm.Cond.laysFinal "StaveHouse$Study" "StaveHouse$Study" "oldSteps" "[I"), (Jvm.Cond.laysFinal "StaveHouse$Study" "StaveHouse$Study" "oldTones" "[I"), (Jvm.Cond.laysFinal "StaveHouse$Study" "StaveHouse$Study" "begins" "[Z"), (Jvm.Cond.laysFinal "StaveHouse$Study" "StaveHouse$Study" "letters" "[I")], w ∈ wAll
  exact List.forall_mem_cons.mpr ⟨k_5_212, List.forall_mem_cons.mpr ⟨k_5_214, List.forall_mem_cons.mpr ⟨k_5_216, List.forall_mem_cons.mpr ⟨k_5_218, List.forall_mem_cons.mpr ⟨k_5_220, List.forall_mem_cons.mpr ⟨k_5_222, List.forall_mem_cons.mpr ⟨k_5_224, List.forall_mem_cons.mpr ⟨k_5_226, List.forall_mem_cons.mpr ⟨k_5_228, List.forall_mem_cons.mpr ⟨k_5_230, List.forall_mem_cons.mpr ⟨k_5_232, fun _ h => absurd h List.not_mem_nil⟩⟩⟩⟩⟩⟩⟩⟩⟩⟩⟩
noncomputable abbrev Q_ByteRow_clear (K : zK) (D : va_G) (ca : Nat → ClassId) (ad : Nat → Int → Nat → Nat) (L : List Nat) (r : Int) (F : zF) (B : zB) (A : Nat → Prop) : Array Value → State → Outcome → State → Prop := va_Qv (S := Unit) (fun _ => True) (fun _ => zPo D ca ad lnC K.2 L F B A) A
noncomputable def f_ByteRow_clear (K : zK) (l0 : Int) (F : zF) (B : zB) : zO := if 0 ≤ l0 ∧ l0 < K.2 0 then some (0, (zup3 (zup3 F 0 l0 1 0) 0 l0 2 0), B) else none
set_option maxHeartbeats 4000000 in
set_option maxRecDepth 100000 in
theorem c_ByteRow_clear {l : Launch} {D : va_G} {ca : Nat → ClassId} {ad : Nat → Int → Nat → Nat} {L : List Nat} {aS vS : Nat → Nat} {sz : Nat} {K : zK}  {l0 : Int} {F F9 : zF} {B B9 : zB} {r : Int} (hf : f_ByteRow_clear K l0 F B = some (r, F9, B9)) : Met l ({ cls := "StaveHouse$ByteRow", name := "clear", desc := "()V" } : Jvm.MethodName) (Cond.code ({ cls := "StaveHouse$ByteRow", name := "clear", desc := "()V" } : Jvm.MethodName) prog_2_method_2_code 1 (Option.none : Option Jvm.ClassFile.FieldType) :: wAll) ({ frames := 0, cells := 0, slots := 0, locals := 0 } : Room) (va_Pc [.ref (ad 0 l0 0)] (zPre D ca ad lnC K.2 L aS vS F B sz)) (Q_ByteRow_clear K D ca ad L r F9 B9 (zA L sz)) 0 0 (zA L sz) := by
  refine zMet (Qc := Q_ByteRow_clear K D ca ad L r F9 B9) (lv := [(0, .ref (ad 0 l0 0))]) (by decide) (Nat.le_of_ble_eq_true rfl) rfl (fun A p e s m below meth c ls X hZ hS hl => ?_)
  obtain ⟨hx, hb, hr, hml, hown, hts, hlk, hK, hA, hL, hX⟩ := id X
  replace hf : (if 0 ≤ l0 ∧ l0 < K.2 0 then some (0, (zup3 (zup3 F 0 l0 1 0) 0 l0 2 0), B) else none) = some (r, F9, B9) := hf
  refine lv_aload_n hx hb d_2_2_0 rfl (lv_at hl 0 rfl) ?_
  refine lv_iconst (v := iI 0) hx hb d_2_2_1 rfl ?_
  obtain ⟨g1, hf⟩ := gif hf
  refine zput (ci := 0) (C := RX0) (T := TX0) (k := 1) (v := 0) (w := .int (iI 0)) hx hb hts inW_0 tyX0 tyX0_ok nmX0 hown hK hZ hS g1.1 g1.2 rfl (by decide) k_1_42 rfl (fun G h => congrArg (fun q => Value.int (iI q)) h) rfl rfl (zno (by decide)) d_2_2_2 (fun H2 locs2 hZ2 hS2 => ?_)
  refine lv_aload_n hx hb d_2_2_5 rfl (lv_at hl 0 rfl) ?_
  refine lv_iconst (v := iI 0) hx hb d_2_2_6 rfl ?_
  refine zput (ci := 0) (C := RX0) (T := TX0) (k := 2) (v := 0) (w := .int (iI 0)) hx hb hts inW_0 tyX0 tyX0_ok nmX0 hown hK hZ2 hS2 g1.1 g1.2 rfl (by decide) k_1_48 rfl (fun G h => congrArg (fun q => Value.int (iI q)) h) rfl rfl (zno (by decide)) d_2_2_7 (fun H3 locs3 hZ3 hS3 => ?_)
  cases hf
  exact W.vret hx hb hr (fun t ht hW => ⟨⟨(), rfl, trivial, by rw [ht]; exact hZ3, va_K.moved hW.alike hK⟩, hS3.F ht⟩) hS3.2.2 d_2_2_10 hlk

noncomputable abbrev Q_Piece_judgeEnds (K : zK) (D : va_G) (ca : Nat → ClassId) (ad : Nat → Int → Nat → Nat) (L : List Nat) (r : Int) (F : zF) (B : zB) (A : Nat → Prop) : Array Value → State → Outcome → State → Prop := va_Qi (S := Unit) (fun p _ => p = iI r) (fun _ => zPo D ca ad lnC K.2 L F B A) A
noncomputable def f_Piece_judgeEnds_2 (K : zK) : Nat → Int → Int → zF → zB → zO
  | 0, _, _, _, _ => none
  | n + 1, l1, l0, F, B => if 0 ≤ l0 ∧ l0 < K.2 6 then if r32 l1 then if r32 (F 6 l0 1) then (if (F 6 l0 1) ≤ l1 then zbind (f_Piece_barLength K l0 F B) (fun r5 F5 B5 => if r64 r5 then if 0 ≤ (B5 6 l0 0 0) ∧ (B5 6 l0 0 0) < K.2 4 then if ¬ lI (zmax r5 1) = 0 then some (0, (zup3 F5 6 l0 7 (zldv (((F5 4 (B5 6 l0 0 0) 7) + (zmax r5 1)) - 1) (zmax r5 1))), B5) else none else none else none) else if 0 ≤ l1 ∧ l1 < 4 then if 0 ≤ (B 6 l0 0 l1) ∧ (B 6 l0 0 l1) < K.2 4 then if 0 ≤ (B 6 l0 0 0) ∧ (B 6 l0 0 0) < K.2 4 then if r64 (F 4 (B 6 l0 0 l1) 7) then if r64 (F 4 (B 6 l0 0 0) 7) then (if (zcmp (F 4 (B 6 l0 0 l1) 7) (F 4 (B 6 l0 0 0) 7)) = 0 then f_Piece_judgeEnds_2 K n (l1 + 1) l0 F B else some (6 + (16 * (F 4 (B 6 l0 0 l1) 3)), F, B)) else none else none else none else none else none) else none else none else none
set_option maxHeartbeats 4000000 in
set_option maxRecDepth 100000 in
theorem b_Piece_judgeEnds_2 {D : va_G} {ca : Nat → ClassId} {ad : Nat → Int → Nat → Nat} {L : List Nat} {aS vS : Nat → Nat} {A : Nat → Prop} {p : Program} {l : Launch} {e : Env} {s : State} {m : MethodId} {args : Array Value} {below : List Frame} {meth : Method} {c : Code} {K : zK} {r : Int} {F9 : zF} {B9 : zB} (X : zX D ca L aS vS A p s m args meth c prog_8_method_7_code 3 (Option.some Jvm.ClassFile.FieldType.int) "StaveHouse$Piece") : ∀ {n : Nat} {l1 : Int} {l0 : Int} {F : zF} {B : zB} {H : Heap} {locs : List Loc} {ls : Array Slot}, f_Piece_judgeEnds_2 K n l1 l0 F B = some (r, F9, B9) → zH D ca ad lnC K.2 L F B A H → va_S A s.heap H locs → lv_has ls 3 [(1, .int (iI l1)), (0, .ref (ad 6 l0 0))] → W p l e ({ frames := 2, cells := 0, slots := 0, locals := 35 } : Room) s m args below meth c H locs 0 0 (MQ below (Q_Piece_judgeEnds K D ca ad L r F9 B9 A) args s 0 0 A) (F0 m 2 ls []) := by
  obtain ⟨hx, hb, hr, hml, hown, hts, hlk, hK, hA, hL, hX⟩ := id X
  intro n
  induction n with
  | zero =>
    intros
    rename_i hf _ _ _
    cases hf
  | succ n ih =>
    intro l1 l0 F B H locs ls hf hZ hS hl
    replace hf : (if 0 ≤ l0 ∧ l0 < K.2 6 then if r32 l1 then if r32 (F 6 l0 1) then (if (F 6 l0 1) ≤ l1 then zbind (f_Piece_barLength K l0 F B) (fun r5 F5 B5 => if r64 r5 then if 0 ≤ (B5 6 l0 0 0) ∧ (B5 6 l0 0 0) < K.2 4 then if ¬ lI (zmax r5 1) = 0 then some (0, (zup3 F5 6 l0 7 (zldv (((F5 4 (B5 6 l0 0 0) 7) + (zmax r5 1)) - 1) (zmax r5 1))), B5) else none else none else none) else if 0 ≤ l1 ∧ l1 < 4 then if 0 ≤ (B 6 l0 0 l1) ∧ (B 6 l0 0 l1) < K.2 4 then if 0 ≤ (B 6 l0 0 0) ∧ (B 6 l0 0 0) < K.2 4 then if r64 (F 4 (B 6 l0 0 l1) 7) then if r64 (F 4 (B 6 l0 0 0) 7) then (if (zcmp (F 4 (B 6 l0 0 l1) 7) (F 4 (B 6 l0 0 0) 7)) = 0 then f_Piece_judgeEnds_2 K n (l1 + 1) l0 F B else some (6 + (16 * (F 4 (B 6 l0 0 l1) 3)), F, B)) else none else none else none else none else none) else none else none else none) = some (r, F9, B9) := hf
    refine lv_iload_n hx hb d_8_7_2 rfl (lv_at hl 0 rfl) ?_
    refine lv_aload_n hx hb d_8_7_3 rfl (lv_at hl 1 rfl) ?_
    obtain ⟨g1, hf⟩ := gif hf
    refine zget (ci := 6) (C := RX6) (T := TX6) (v := .int (iI (F 6 l0 1))) (k := 1) hx hb hts inW_6 hown hK hZ g1.1 g1.2 rfl (by decide) k_2_190 rfl d_8_7_4 ?_
    obtain ⟨g2, hf⟩ := gif hf
    obtain ⟨g3, hf⟩ := gif hf
    refine zge (tgt := 54) hx hb g2 g3 d_8_7_7 (by decide) (fun h4 => ?_) (fun h4 => ?_)
    · replace hf := gpos hf h4
      refine lv_aload_n hx hb d_8_7_54 rfl (lv_at hl 1 rfl) ?_
      obtain ⟨r5, F5, B5, hc5, hf⟩ := gbind hf
      refine va_calll (va_runV (As := []) (rest := []) ⟨hx, hb, hml, hown, hts⟩ (c_Piece_barLength (l := l) hc5) (cwV 0 hts (gdV k_5_174 k_4_190 k_4_191 k_1_15 k_4_192) rfl rfl rfl (by decide +kernel) ⟨Nat.le_of_ble_eq_true rfl, Nat.le_of_ble_eq_true rfl⟩) (zPV X hZ hS (ci := 6) g1.1 g1.2 (r := (RX6, TX6, 14)) rfl []) rfl rfl hl.1 rfl (lv_room (Nat.le_of_ble_eq_true rfl)) d_8_7_55 ⟨Nat.le_of_ble_eq_true rfl, Nat.le_of_ble_eq_true rfl⟩) hS (fun q _ h => zAin X hS q h) (zAin X hS) (fun p5 u5 t5 H5 locs5 ht5 hv5 hw5 hB5 hz5 hk5 hS5 => ?_)
      have hZ5 := zBack X ht5 hB5
      subst hw5
      refine lv_lconst (v := lI 1) hx hb d_8_7_58 (by decide) ?_
      obtain ⟨g6, hf⟩ := gif hf
      refine va_mmax_long hx hb (by rw [hml]; exact hl.1.symm) hown (hts _ k_5_175) (hts _ k_5_176) (hts _ k_1_3) (hts _ k_5_177) (Nat.le_of_ble_eq_true rfl) (Nat.le_of_ble_eq_true rfl) (Nat.le_of_ble_eq_true rfl) (Nat.le_of_ble_eq_true rfl) d_8_7_59 ?_
      rw [zlmax_e g6 (by decide)]
      refine lv_lstore_n (lv' := [(1, .long (lI (zmax r5 1))), (0, .ref (ad 6 l0 0))]) hx hb d_8_7_62 rfl hl (by decide) rfl (fun ls hl => ?_)
      refine lv_aload_n hx hb d_8_7_63 rfl (lv_at hl 1 rfl) ?_
      refine lv_aload_n hx hb d_8_7_64 rfl (lv_at hl 1 rfl) ?_
      refine zget (ci := 6) (C := RX6) (T := TX6) (v := .ref (ad 6 l0 (0 + 1))) (k := 0) hx hb hts inW_6 hown hK hZ5 g1.1 g1.2 rfl (by decide) k_2_185 rfl d_8_7_65 ?_
      refine lv_iconst (v := iI 0) hx hb d_8_7_68 rfl ?_
      refine zaldR (t := 4) (x := 6) (ci := 6) (k := 0) hx hb hK rfl rfl hZ5 g1.1 g1.2 rfl (Nat.le_of_ble_eq_true rfl) (by decide) (show (0 : Int) < 4 by decide) d_8_7_69 ?_
      obtain ⟨g7, hf⟩ := gif hf
      refine zunrf g7.1 ?_
      refine zget (ci := 4) (C := RX4) (T := TX4) (v := .long (lI (F5 4 (B5 6 l0 0 0) 7))) (k := 7) hx hb hts inW_4 hown hK hZ5 g7.1 g7.2 rfl (by decide) k_4_141 rfl d_8_7_70 ?_
      refine lv_lload_n hx hb d_8_7_73 rfl (lv_at hl 0 rfl) ?_
      refine zladd hx hb d_8_7_74 ?_
      refine lv_lconst (v := lI 1) hx hb d_8_7_75 (by decide) ?_
      refine zlsub hx hb d_8_7_76 ?_
      refine lv_lload_n hx hb d_8_7_77 rfl (lv_at hl 0 rfl) ?_
      obtain ⟨g8, hf⟩ := gif hf
      refine zldv_r hx hb g8 d_8_7_78 ?_
      refine zl2iw hx hb d_8_7_79 ?_
      refine zput (ci := 6) (C := RX6) (T := TX6) (k := 7) (v := (zldv (((F5 4 (B5 6 l0 0 0) 7) + (zmax r5 1)) - 1) (zmax r5 1))) (w := .int (iI (zldv (((F5 4 (B5 6 l0 0 0) 7) + (zmax r5 1)) - 1) (zmax r5 1)))) hx hb hts inW_6 tyX6 tyX6_ok nmX6 hown hK hZ5 hS5 g1.1 g1.2 rfl (by decide) k_2_222 rfl (fun G h => congrArg (fun q => Value.int (iI q)) h) rfl rfl (zno (by decide)) d_8_7_80 (fun H9 locs9 hZ9 hS9 => ?_)
      refine lv_iconst (v := iI 0) hx hb d_8_7_83 rfl ?_
      cases hf
      exact W.iret hx hb hr (fun t ht hW => ⟨⟨_, (), rfl, rfl, by rw [ht]; exact hZ9, va_K.moved hW.alike hK⟩, hS9.F ht⟩) hS9.2.2 d_8_7_84 hlk
    · replace hf := gneg hf h4
      refine lv_aload_n hx hb d_8_7_10 rfl (lv_at hl 1 rfl) ?_
      refine zget (ci := 6) (C := RX6) (T := TX6) (v := .ref (ad 6 l0 (0 + 1))) (k := 0) hx hb hts inW_6 hown hK hZ g1.1 g1.2 rfl (by decide) k_2_185 rfl d_8_7_11 ?_
      refine lv_iload_n hx hb d_8_7_14 rfl (lv_at hl 0 rfl) ?_
      obtain ⟨g10, hf⟩ := gif hf
      refine zaldR (t := 4) (x := 6) (ci := 6) (k := 0) hx hb hK rfl rfl hZ g1.1 g1.2 rfl (Nat.le_of_ble_eq_true rfl) g10.1 g10.2 d_8_7_15 ?_
      obtain ⟨g11, hf⟩ := gif hf
      refine zunrf g11.1 ?_
      refine zget (ci := 4) (C := RX4) (T := TX4) (v := .long (lI (F 4 (B 6 l0 0 l1) 7))) (k := 7) hx hb hts inW_4 hown hK hZ g11.1 g11.2 rfl (by decide) k_4_141 rfl d_8_7_16 ?_
      refine lv_aload_n hx hb d_8_7_19 rfl (lv_at hl 1 rfl) ?_
      refine zget (ci := 6) (C := RX6) (T := TX6) (v := .ref (ad 6 l0 (0 + 1))) (k := 0) hx hb hts inW_6 hown hK hZ g1.1 g1.2 rfl (by decide) k_2_185 rfl d_8_7_20 ?_
      refine lv_iconst (v := iI 0) hx hb d_8_7_23 rfl ?_
      refine zaldR (t := 4) (x := 6) (ci := 6) (k := 0) hx hb hK rfl rfl hZ g1.1 g1.2 rfl (Nat.le_of_ble_eq_true rfl) (by decide) (show (0 : Int) < 4 by decide) d_8_7_24 ?_
      obtain ⟨g12, hf⟩ := gif hf
      refine zunrf g12.1 ?_
      refine zget (ci := 4) (C := RX4) (T := TX4) (v := .long (lI (F 4 (B 6 l0 0 0) 7))) (k := 7) hx hb hts inW_4 hown hK hZ g12.1 g12.2 rfl (by decide) k_4_141 rfl d_8_7_25 ?_
      obtain ⟨g13, hf⟩ := gif hf
      obtain ⟨g14, hf⟩ := gif hf
      refine zcmp_r hx hb g13 g14 d_8_7_28 ?_
      refine z0eq (tgt := 48) hx hb zcmp_32 d_8_7_29 (by decide) (fun h15 => ?_) (fun h15 => ?_)
      · replace hf := gpos hf h15
        refine lv_iinc (v := iI (l1 + 1)) (lv' := [(1, .int (iI (l1 + 1))), (0, .ref (ad 6 l0 0))]) hx hb d_8_7_48 hl (k := 0) rfl (iI_add _ 1) (by decide) rfl (fun ls hl => ?_)
        refine lv_goto (tgt := 2) hx hb d_8_7_51 (by decide) ?_
        exact ih hf hZ hS (lv_sub hl [0, 1] rfl)
      · replace hf := gneg hf h15
        refine lv_bipush (v := iI 6) hx hb d_8_7_32 (by decide) ?_
        refine lv_bipush (v := iI 16) hx hb d_8_7_34 (by decide) ?_
        refine lv_aload_n hx hb d_8_7_36 rfl (lv_at hl 1 rfl) ?_
        refine zget (ci := 6) (C := RX6) (T := TX6) (v := .ref (ad 6 l0 (0 + 1))) (k := 0) hx hb hts inW_6 hown hK hZ g1.1 g1.2 rfl (by decide) k_2_185 rfl d_8_7_37 ?_
        refine lv_iload_n hx hb d_8_7_40 rfl (lv_at hl 0 rfl) ?_
        refine zaldR (t := 4) (x := 6) (ci := 6) (k := 0) hx hb hK rfl rfl hZ g1.1 g1.2 rfl (Nat.le_of_ble_eq_true rfl) g10.1 g10.2 d_8_7_41 ?_
        refine zunrf g11.1 ?_
        refine zget (ci := 4) (C := RX4) (T := TX4) (v := .int (iI (F 4 (B 6 l0 0 l1) 3))) (k := 3) hx hb hts inW_4 hown hK hZ g11.1 g11.2 rfl (by decide) k_4_126 rfl d_8_7_42 ?_
        refine zmul hx hb d_8_7_45 ?_
        refine zadd hx hb d_8_7_46 ?_
        cases hf
        exact W.iret hx hb hr (fun t ht hW => ⟨⟨_, (), rfl, rfl, by rw [ht]; exact hZ, va_K.moved hW.alike hK⟩, hS.F ht⟩) hS.2.2 d_8_7_47 hlk

noncomputable def f_Piece_judgeEnds (K : zK) (l0 : Int) (F : zF) (B : zB) : zO := f_Piece_judgeEnds_2 K K.1 1 l0 F B
set_option maxHeartbeats 4000000 in
set_option maxRecDepth 100000 in
theorem c_Piece_judgeEnds {l : Launch} {D : va_G} {ca : Nat → ClassId} {ad : Nat → Int → Nat → Nat} {L : List Nat} {aS vS : Nat → Nat} {sz : Nat} {K : zK}  {l0 : Int} {F F9 : zF} {B B9 : zB} {r : Int} (hf : f_Piece_judgeEnds K l0 F B = some (r, F9, B9)) : Met l ({ cls := "StaveHouse$Piece", name := "judgeEnds", desc := "()I" } : Jvm.MethodName) (Cond.code ({ cls := "StaveHouse$Piece", name := "judgeEnds", desc := "()I" } : Jvm.MethodName) prog_8_method_7_code 3 (Option.some Jvm.ClassFile.FieldType.int) :: wAll) ({ frames := 2, cells := 0, slots := 0, locals := 35 } : Room) (va_Pc [.ref (ad 6 l0 0)] (zPre D ca ad lnC K.2 L aS vS F B sz)) (Q_Piece_judgeEnds K D ca ad L r F9 B9 (zA L sz)) 0 0 (zA L sz) := by
  refine zMet (Qc := Q_Piece_judgeEnds K D ca ad L r F9 B9) (lv := [(0, .ref (ad 6 l0 0))]) (by decide) (Nat.le_of_ble_eq_true rfl) rfl (fun A p e s m below meth c ls X hZ hS hl => ?_)
  obtain ⟨hx, hb, hr, hml, hown, hts, hlk, hK, hA, hL, hX⟩ := id X
  replace hf : (f_Piece_judgeEnds_2 K K.1 1 l0 F B) = some (r, F9, B9) := hf
  refine lv_iconst (v := iI 1) hx hb d_8_7_0 rfl ?_
  refine lv_istore_n (lv' := [(1, .int (iI 1)), (0, .ref (ad 6 l0 0))]) hx hb d_8_7_1 rfl hl (by decide) rfl (fun ls hl => ?_)
  exact b_Piece_judgeEnds_2 X hf hZ hS (lv_sub hl [0, 1] rfl)

noncomputable abbrev Q_S_pieceAt (K : zK) (D : va_G) (ca : Nat → ClassId) (ad : Nat → Int → Nat → Nat) (L : List Nat) (r : Int) (F : zF) (B : zB) (A : Nat → Prop) : Array Value → State → Outcome → State → Prop := va_Qq (S := Unit) (fun p _ => p = zrf ad 6 r) (fun _ => zPo D ca ad lnC K.2 L F B A) A
noncomputable def f_S_pieceAt_19 (K : zK) (s0 : Int) (F : zF) (B : zB) : zO := some (s0, F, B)
set_option maxHeartbeats 4000000 in
set_option maxRecDepth 100000 in
theorem b_S_pieceAt_19 {D : va_G} {ca : Nat → ClassId} {ad : Nat → Int → Nat → Nat} {L : List Nat} {aS vS : Nat → Nat} {A : Nat → Prop} {p : Program} {l : Launch} {e : Env} {s : State} {m : MethodId} {args : Array Value} {below : List Frame} {meth : Method} {c : Code} {K : zK} {r : Int} {F9 : zF} {B9 : zB} (X : zX D ca L aS vS A p s m args meth c prog_1_method_6_code 2 (Option.some (Jvm.ClassFile.FieldType.object "StaveHouse$Piece")) "StaveHouse") {s0 : Int} {F : zF} {B : zB} {H : Heap} {locs : List Loc} {ls : Array Slot} (hf : f_S_pieceAt_19 K s0 F B = some (r, F9, B9)) (hZ : zH D ca ad lnC K.2 L F B A H) (hS : va_S A s.heap H locs) (hl : lv_has ls 2 []) : W p l e ({ frames := 0, cells := 0, slots := 0, locals := 0 } : Room) s m args below meth c H locs 0 0 (MQ below (Q_S_pieceAt K D ca ad L r F9 B9 A) args s 0 0 A) (F0 m 19 ls [va_rf (zrf ad 6 s0)]) := by
  obtain ⟨hx, hb, hr, hml, hown, hts, hlk, hK, hA, hL, hX⟩ := id X
  replace hf : (some (s0, F, B)) = some (r, F9, B9) := hf
  cases hf
  exact W.aret hx hb hr (Or.inl ⟨_, rfl⟩) (va_rf_or _) (fun t ht hW => ⟨⟨_, (), rfl, rfl, by rw [ht]; exact hZ, va_K.moved hW.alike hK⟩, hS.F ht⟩) hS.2.2 d_1_6_19 hlk

noncomputable def f_S_pieceAt_9 (K : zK)  (F : zF) (B : zB) : zO := f_S_pieceAt_19 K (-1) F B
set_option maxHeartbeats 4000000 in
set_option maxRecDepth 100000 in
theorem b_S_pieceAt_9 {D : va_G} {ca : Nat → ClassId} {ad : Nat → Int → Nat → Nat} {L : List Nat} {aS vS : Nat → Nat} {A : Nat → Prop} {p : Program} {l : Launch} {e : Env} {s : State} {m : MethodId} {args : Array Value} {below : List Frame} {meth : Method} {c : Code} {K : zK} {r : Int} {F9 : zF} {B9 : zB} (X : zX D ca L aS vS A p s m args meth c prog_1_method_6_code 2 (Option.some (Jvm.ClassFile.FieldType.object "StaveHouse$Piece")) "StaveHouse")  {F : zF} {B : zB} {H : Heap} {locs : List Loc} {ls : Array Slot} (hf : f_S_pieceAt_9 K  F B = some (r, F9, B9)) (hZ : zH D ca ad lnC K.2 L F B A H) (hS : va_S A s.heap H locs) (hl : lv_has ls 2 []) : W p l e ({ frames := 0, cells := 0, slots := 0, locals := 0 } : Room) s m args below meth c H locs 0 0 (MQ below (Q_S_pieceAt K D ca ad L r F9 B9 A) args s 0 0 A) (F0 m 9 ls []) := by
  obtain ⟨hx, hb, hr, hml, hown, hts, hlk, hK, hA, hL, hX⟩ := id X
  replace hf : (f_S_pieceAt_19 K (-1) F B) = some (r, F9, B9) := hf
  refine lv_null hx hb d_1_6_9 ?_
  refine W.eq (g2 := F0 m 10 ls [va_rf (zrf ad 6 (-1))]) rfl ?_
  refine lv_goto (tgt := 19) hx hb d_1_6_10 (by decide) ?_
  exact b_S_pieceAt_19 X hf hZ hS (lv_sub hl [] rfl)

noncomputable def f_S_pieceAt (K : zK) (l0 : Int) (l1 : Int) (F : zF) (B : zB) : zO := if r32 l1 then (if l1 < 0 then f_S_pieceAt_9 K F B else (if l1 < 2 then if 0 ≤ l0 ∧ l0 < K.2 12 then if 0 ≤ l1 ∧ l1 < 2 then f_S_pieceAt_19 K (B 12 l0 3 l1) F B else none else none else f_S_pieceAt_9 K F B)) else none
set_option maxHeartbeats 4000000 in
set_option maxRecDepth 100000 in
theorem c_S_pieceAt {l : Launch} {D : va_G} {ca : Nat → ClassId} {ad : Nat → Int → Nat → Nat} {L : List Nat} {aS vS : Nat → Nat} {sz : Nat} {K : zK}  {l0 : Int} {l1 : Int} {F F9 : zF} {B B9 : zB} {r : Int} (hf : f_S_pieceAt K l0 l1 F B = some (r, F9, B9)) : Met l ({ cls := "StaveHouse", name := "pieceAt", desc := "(I)LStaveHouse$Piece;" } : Jvm.MethodName) (Cond.code ({ cls := "StaveHouse", name := "pieceAt", desc := "(I)LStaveHouse$Piece;" } : Jvm.MethodName) prog_1_method_6_code 2 (Option.some (Jvm.ClassFile.FieldType.object "StaveHouse$Piece")) :: wAll) ({ frames := 0, cells := 0, slots := 0, locals := 0 } : Room) (va_Pc [.ref (ad 12 l0 0), .int (iI l1)] (zPre D ca ad lnC K.2 L aS vS F B sz)) (Q_S_pieceAt K D ca ad L r F9 B9 (zA L sz)) 0 0 (zA L sz) := by
  refine zMet (Qc := Q_S_pieceAt K D ca ad L r F9 B9) (lv := [(0, .ref (ad 12 l0 0)), (1, .int (iI l1))]) (by decide) (Nat.le_of_ble_eq_true rfl) rfl (fun A p e s m below meth c ls X hZ hS hl => ?_)
  obtain ⟨hx, hb, hr, hml, hown, hts, hlk, hK, hA, hL, hX⟩ := id X
  replace hf : (if r32 l1 then (if l1 < 0 then f_S_pieceAt_9 K F B else (if l1 < 2 then if 0 ≤ l0 ∧ l0 < K.2 12 then if 0 ≤ l1 ∧ l1 < 2 then f_S_pieceAt_19 K (B 12 l0 3 l1) F B else none else none else f_S_pieceAt_9 K F B)) else none) = some (r, F9, B9) := hf
  refine lv_iload_n hx hb d_1_6_0 rfl (lv_at hl 1 rfl) ?_
  obtain ⟨g1, hf⟩ := gif hf
  refine z0lt (tgt := 9) hx hb g1 d_1_6_1 (by decide) (fun h2 => ?_) (fun h2 => ?_)
  · replace hf := gpos hf h2
    exact b_S_pieceAt_9 X hf hZ hS (lv_sub hl [] rfl)
  · replace hf := gneg hf h2
    refine lv_iload_n hx hb d_1_6_4 rfl (lv_at hl 1 rfl) ?_
    refine lv_iconst (v := iI 2) hx hb d_1_6_5 rfl ?_
    refine zlt (tgt := 13) hx hb g1 (by decide) d_1_6_6 (by decide) (fun h3 => ?_) (fun h3 => ?_)
    · replace hf := gpos hf h3
      refine lv_aload_n hx hb d_1_6_13 rfl (lv_at hl 0 rfl) ?_
      obtain ⟨g4, hf⟩ := gif hf
      refine zget (ci := 12) (C := RX12) (T := TX12) (v := .ref (ad 12 l0 (3 + 1))) (k := 3) hx hb hts inW_12 hown hK hZ g4.1 g4.2 rfl (by decide) k_2_130 rfl d_1_6_14 ?_
      refine lv_iload_n hx hb d_1_6_17 rfl (lv_at hl 1 rfl) ?_
      obtain ⟨g5, hf⟩ := gif hf
      refine zaldR (t := 6) (x := 4) (ci := 12) (k := 3) hx hb hK rfl rfl hZ g4.1 g4.2 rfl (Nat.le_of_ble_eq_true rfl) g5.1 g5.2 d_1_6_18 ?_
      exact b_S_pieceAt_19 X hf hZ hS (lv_sub hl [] rfl)
    · replace hf := gneg hf h3
      exact b_S_pieceAt_9 X hf hZ hS (lv_sub hl [] rfl)

noncomputable abbrev Q_Study_nextPlace (K : zK) (D : va_G) (ca : Nat → ClassId) (ad : Nat → Int → Nat → Nat) (L : List Nat) (r : Int) (F : zF) (B : zB) (A : Nat → Prop) : Array Value → State → Outcome → State → Prop := va_Ql (S := Unit) (fun p _ => p = lI r) (fun _ => zPo D ca ad lnC K.2 L F B A) A
noncomputable def f_Study_nextPlace_82 (rec7 : Int → Int → Int → Int → Int → zF → zB → zO) (K : zK) (l5 : Int) (l3 : Int) (l0 : Int) (l1 : Int) (l2 : Int) (F : zF) (B : zB) : zO := rec7 (l5 + 1) l3 l0 l1 l2 F B
set_option maxHeartbeats 4000000 in
set_option maxRecDepth 100000 in
theorem b_Study_nextPlace_82 {D : va_G} {ca : Nat → ClassId} {ad : Nat → Int → Nat → Nat} {L : List Nat} {aS vS : Nat → Nat} {A : Nat → Prop} {p : Program} {l : Launch} {e : Env} {s : State} {m : MethodId} {args : Array Value} {below : List Frame} {meth : Method} {c : Code} {K : zK} {r : Int} {F9 : zF} {B9 : zB} (X : zX D ca L aS vS A p s m args meth c prog_11_method_4_code 8 (Option.some Jvm.ClassFile.FieldType.long) "StaveHouse$Study") {rec7 : Int → Int → Int → Int → Int → zF → zB → zO} (hrec7 : ∀ {l5 : Int} {l3 : Int} {l0 : Int} {l1 : Int} {l2 : Int} {F : zF} {B : zB} {H : Heap} {locs : List Loc} {ls : Array Slot}, rec7 l5 l3 l0 l1 l2 F B = some (r, F9, B9) → zH D ca ad lnC K.2 L F B A H → va_S A s.heap H locs → lv_has ls 8 [(5, .int (iI l5)), (3, .long (lI l3)), (0, .ref (ad 9 l0 0)), (1, .ref (ad 6 l1 0)), (2, .int (iI l2))] → W p l e ({ frames := 0, cells := 0, slots := 0, locals := 0 } : Room) s m args below meth c H locs 0 0 (MQ below (Q_Study_nextPlace K D ca ad L r F9 B9 A) args s 0 0 A) (F0 m 7 ls [])) {l5 : Int} {l3 : Int} {l0 : Int} {l1 : Int} {l2 : Int} {F : zF} {B : zB} {H : Heap} {locs : List Loc} {ls : Array Slot} (hf : f_Study_nextPlace_82 rec7 K l5 l3 l0 l1 l2 F B = some (r, F9, B9)) (hZ : zH D ca ad lnC K.2 L F B A H) (hS : va_S A s.heap H locs) (hl : lv_has ls 8 [(5, .int (iI l5)), (3, .long (lI l3)), (0, .ref (ad 9 l0 0)), (1, .ref (ad 6 l1 0)), (2, .int (iI l2))]) : W p l e ({ frames := 0, cells := 0, slots := 0, locals := 0 } : Room) s m args below meth c H locs 0 0 (MQ below (Q_Study_nextPlace K D ca ad L r F9 B9 A) args s 0 0 A) (F0 m 82 ls []) := by
  obtain ⟨hx, hb, hr, hml, hown, hts, hlk, hK, hA, hL, hX⟩ := id X
  replace hf : (rec7 (l5 + 1) l3 l0 l1 l2 F B) = some (r, F9, B9) := hf
  refine lv_iinc (v := iI (l5 + 1)) (lv' := [(5, .int (iI (l5 + 1))), (3, .long (lI l3)), (0, .ref (ad 9 l0 0)), (1, .ref (ad 6 l1 0)), (2, .int (iI l2))]) hx hb d_11_4_82 hl (k := 0) rfl (iI_add _ 1) (by decide) rfl (fun ls hl => ?_)
  refine lv_goto (tgt := 7) hx hb d_11_4_85 (by decide) ?_
  exact hrec7 hf hZ hS (lv_sub hl [0, 1, 2, 3, 4] rfl)

noncomputable def f_Study_nextPlace_70 (rec7 : Int → Int → Int → Int → Int → zF → zB → zO) (K : zK) (l7 : Int) (l6 : Int) (l5 : Int) (l0 : Int) (l1 : Int) (l2 : Int) (F : zF) (B : zB) : zO := if 0 ≤ l6 ∧ l6 < K.2 4 then if 0 ≤ l7 ∧ l7 < 200 then if 0 ≤ (B 4 l6 5 l7) ∧ (B 4 l6 5 l7) < K.2 1 then f_Study_nextPlace_82 rec7 K l5 (F 1 (B 4 l6 5 l7) 0) l0 l1 l2 F B else none else none else none
set_option maxHeartbeats 4000000 in
set_option maxRecDepth 100000 in
theorem b_Study_nextPlace_70 {D : va_G} {ca : Nat → ClassId} {ad : Nat → Int → Nat → Nat} {L : List Nat} {aS vS : Nat → Nat} {A : Nat → Prop} {p : Program} {l : Launch} {e : Env} {s : State} {m : MethodId} {args : Array Value} {below : List Frame} {meth : Method} {c : Code} {K : zK} {r : Int} {F9 : zF} {B9 : zB} (X : zX D ca L aS vS A p s m args meth c prog_11_method_4_code 8 (Option.some Jvm.ClassFile.FieldType.long) "StaveHouse$Study") {rec7 : Int → Int → Int → Int → Int → zF → zB → zO} (hrec7 : ∀ {l5 : Int} {l3 : Int} {l0 : Int} {l1 : Int} {l2 : Int} {F : zF} {B : zB} {H : Heap} {locs : List Loc} {ls : Array Slot}, rec7 l5 l3 l0 l1 l2 F B = some (r, F9, B9) → zH D ca ad lnC K.2 L F B A H → va_S A s.heap H locs → lv_has ls 8 [(5, .int (iI l5)), (3, .long (lI l3)), (0, .ref (ad 9 l0 0)), (1, .ref (ad 6 l1 0)), (2, .int (iI l2))] → W p l e ({ frames := 0, cells := 0, slots := 0, locals := 0 } : Room) s m args below meth c H locs 0 0 (MQ below (Q_Study_nextPlace K D ca ad L r F9 B9 A) args s 0 0 A) (F0 m 7 ls [])) {l7 : Int} {l6 : Int} {l5 : Int} {l0 : Int} {l1 : Int} {l2 : Int} {F : zF} {B : zB} {H : Heap} {locs : List Loc} {ls : Array Slot} (hf : f_Study_nextPlace_70 rec7 K l7 l6 l5 l0 l1 l2 F B = some (r, F9, B9)) (hZ : zH D ca ad lnC K.2 L F B A H) (hS : va_S A s.heap H locs) (hl : lv_has ls 8 [(7, .int (iI l7)), (6, va_rf (zrf ad 4 l6)), (5, .int (iI l5)), (0, .ref (ad 9 l0 0)), (1, .ref (ad 6 l1 0)), (2, .int (iI l2))]) : W p l e ({ frames := 0, cells := 0, slots := 0, locals := 0 } : Room) s m args below meth c H locs 0 0 (MQ below (Q_Study_nextPlace K D ca ad L r F9 B9 A) args s 0 0 A) (F0 m 70 ls []) := by
  obtain ⟨hx, hb, hr, hml, hown, hts, hlk, hK, hA, hL, hX⟩ := id X
  replace hf : (if 0 ≤ l6 ∧ l6 < K.2 4 then if 0 ≤ l7 ∧ l7 < 200 then if 0 ≤ (B 4 l6 5 l7) ∧ (B 4 l6 5 l7) < K.2 1 then f_Study_nextPlace_82 rec7 K l5 (F 1 (B 4 l6 5 l7) 0) l0 l1 l2 F B else none else none else none) = some (r, F9, B9) := hf
  refine zaload hx hb d_11_4_70 (lv_at hl 1 rfl) ?_
  obtain ⟨g18, hf⟩ := gif hf
  refine zunrf g18.1 ?_
  refine zget (ci := 4) (C := RX4) (T := TX4) (v := .ref (ad 4 l6 (5 + 1))) (k := 5) hx hb hts inW_4 hown hK hZ g18.1 g18.2 rfl (by decide) k_4_132 rfl d_11_4_72 ?_
  refine lv_iload hx hb d_11_4_75 (lv_at hl 0 rfl) ?_
  obtain ⟨g19, hf⟩ := gif hf
  refine zaldR (t := 1) (x := 7) (ci := 4) (k := 5) hx hb hK rfl rfl hZ g18.1 g18.2 rfl (Nat.le_of_ble_eq_true rfl) g19.1 g19.2 d_11_4_77 ?_
  obtain ⟨g20, hf⟩ := gif hf
  refine zunrf g20.1 ?_
  refine zget (ci := 1) (C := RX1) (T := TX1) (v := .long (lI (F 1 (B 4 l6 5 l7) 0))) (k := 0) hx hb hts inW_1 hown hK hZ g20.1 g20.2 rfl (by decide) k_2_20 rfl d_11_4_78 ?_
  refine lv_lstore_n (lv' := [(3, .long (lI (F 1 (B 4 l6 5 l7) 0))), (7, .int (iI l7)), (6, va_rf (zrf ad 4 l6)), (5, .int (iI l5)), (0, .ref (ad 9 l0 0)), (1, .ref (ad 6 l1 0)), (2, .int (iI l2))]) hx hb d_11_4_81 rfl hl (by decide) rfl (fun ls hl => ?_)
  exact b_Study_nextPlace_82 X hrec7 hf hZ hS (lv_sub hl [3, 0, 4, 5, 6] rfl)

noncomputable def f_Study_nextPlace_7 (K : zK) : Nat → Int → Int → Int → Int → Int → zF → zB → zO
  | 0, _, _, _, _, _, _, _ => none
  | n + 1, l5, l3, l0, l1, l2, F, B => if 0 ≤ l1 ∧ l1 < K.2 6 then if r32 l5 then if r32 (F 6 l1 1) then (if (F 6 l1 1) ≤ l5 then some (l3, F, B) else if 0 ≤ l5 ∧ l5 < 4 then if 0 ≤ l0 ∧ l0 < K.2 9 then if 0 ≤ l2 ∧ l2 < 800 then if 0 ≤ (B 6 l1 0 l5) ∧ (B 6 l1 0 l5) < K.2 4 then if r32 ((B 9 l0 (280 + l5.toNat) l2) + 1) then if r32 (F 4 (B 6 l1 0 l5) 6) then (if (F 4 (B 6 l1 0 l5) 6) ≤ ((B 9 l0 (280 + l5.toNat) l2) + 1) then f_Study_nextPlace_82 (f_Study_nextPlace_7 K n) K l5 l3 l0 l1 l2 F B else if r64 l3 then (if (zcmp l3 0) < 0 then f_Study_nextPlace_70 (f_Study_nextPlace_7 K n) K ((B 9 l0 (280 + l5.toNat) l2) + 1) (B 6 l1 0 l5) l5 l0 l1 l2 F B else if 0 ≤ ((B 9 l0 (280 + l5.toNat) l2) + 1) ∧ ((B 9 l0 (280 + l5.toNat) l2) + 1) < 200 then if 0 ≤ (B 4 (B 6 l1 0 l5) 5 ((B 9 l0 (280 + l5.toNat) l2) + 1)) ∧ (B 4 (B 6 l1 0 l5) 5 ((B 9 l0 (280 + l5.toNat) l2) + 1)) < K.2 1 then if r64 (F 1 (B 4 (B 6 l1 0 l5) 5 ((B 9 l0 (280 + l5.toNat) l2) + 1)) 0) then (if 0 ≤ (zcmp (F 1 (B 4 (B 6 l1 0 l5) 5 ((B 9 l0 (280 + l5.toNat) l2) + 1)) 0) l3) then f_Study_nextPlace_82 (f_Study_nextPlace_7 K n) K l5 l3 l0 l1 l2 F B else f_Study_nextPlace_70 (f_Study_nextPlace_7 K n) K ((B 9 l0 (280 + l5.toNat) l2) + 1) (B 6 l1 0 l5) l5 l0 l1 l2 F B) else none else none else none) else none) else none else none else none else none else none else none) else none else none else none
set_option maxHeartbeats 4000000 in
set_option maxRecDepth 100000 in
theorem b_Study_nextPlace_7 {D : va_G} {ca : Nat → ClassId} {ad : Nat → Int → Nat → Nat} {L : List Nat} {aS vS : Nat → Nat} {A : Nat → Prop} {p : Program} {l : Launch} {e : Env} {s : State} {m : MethodId} {args : Array Value} {below : List Frame} {meth : Method} {c : Code} {K : zK} {r : Int} {F9 : zF} {B9 : zB} (X : zX D ca L aS vS A p s m args meth c prog_11_method_4_code 8 (Option.some Jvm.ClassFile.FieldType.long) "StaveHouse$Study") : ∀ {n : Nat} {l5 : Int} {l3 : Int} {l0 : Int} {l1 : Int} {l2 : Int} {F : zF} {B : zB} {H : Heap} {locs : List Loc} {ls : Array Slot}, f_Study_nextPlace_7 K n l5 l3 l0 l1 l2 F B = some (r, F9, B9) → zH D ca ad lnC K.2 L F B A H → va_S A s.heap H locs → lv_has ls 8 [(5, .int (iI l5)), (3, .long (lI l3)), (0, .ref (ad 9 l0 0)), (1, .ref (ad 6 l1 0)), (2, .int (iI l2))] → W p l e ({ frames := 0, cells := 0, slots := 0, locals := 0 } : Room) s m args below meth c H locs 0 0 (MQ below (Q_Study_nextPlace K D ca ad L r F9 B9 A) args s 0 0 A) (F0 m 7 ls []) := by
  obtain ⟨hx, hb, hr, hml, hown, hts, hlk, hK, hA, hL, hX⟩ := id X
  intro n
  induction n with
  | zero =>
    intros
    rename_i hf _ _ _
    cases hf
  | succ n ih =>
    intro l5 l3 l0 l1 l2 F B H locs ls hf hZ hS hl
    replace hf : (if 0 ≤ l1 ∧ l1 < K.2 6 then if r32 l5 then if r32 (F 6 l1 1) then (if (F 6 l1 1) ≤ l5 then some (l3, F, B) else if 0 ≤ l5 ∧ l5 < 4 then if 0 ≤ l0 ∧ l0 < K.2 9 then if 0 ≤ l2 ∧ l2 < 800 then if 0 ≤ (B 6 l1 0 l5) ∧ (B 6 l1 0 l5) < K.2 4 then if r32 ((B 9 l0 (280 + l5.toNat) l2) + 1) then if r32 (F 4 (B 6 l1 0 l5) 6) then (if (F 4 (B 6 l1 0 l5) 6) ≤ ((B 9 l0 (280 + l5.toNat) l2) + 1) then f_Study_nextPlace_82 (f_Study_nextPlace_7 K n) K l5 l3 l0 l1 l2 F B else if r64 l3 then (if (zcmp l3 0) < 0 then f_Study_nextPlace_70 (f_Study_nextPlace_7 K n) K ((B 9 l0 (280 + l5.toNat) l2) + 1) (B 6 l1 0 l5) l5 l0 l1 l2 F B else if 0 ≤ ((B 9 l0 (280 + l5.toNat) l2) + 1) ∧ ((B 9 l0 (280 + l5.toNat) l2) + 1) < 200 then if 0 ≤ (B 4 (B 6 l1 0 l5) 5 ((B 9 l0 (280 + l5.toNat) l2) + 1)) ∧ (B 4 (B 6 l1 0 l5) 5 ((B 9 l0 (280 + l5.toNat) l2) + 1)) < K.2 1 then if r64 (F 1 (B 4 (B 6 l1 0 l5) 5 ((B 9 l0 (280 + l5.toNat) l2) + 1)) 0) then (if 0 ≤ (zcmp (F 1 (B 4 (B 6 l1 0 l5) 5 ((B 9 l0 (280 + l5.toNat) l2) + 1)) 0) l3) then f_Study_nextPlace_82 (f_Study_nextPlace_7 K n) K l5 l3 l0 l1 l2 F B else f_Study_nextPlace_70 (f_Study_nextPlace_7 K n) K ((B 9 l0 (280 + l5.toNat) l2) + 1) (B 6 l1 0 l5) l5 l0 l1 l2 F B) else none else none else none) else none) else none else none else none else none else none else none) else none else none else none) = some (r, F9, B9) := hf
    refine lv_iload hx hb d_11_4_7 (lv_at hl 0 rfl) ?_
    refine lv_aload_n hx hb d_11_4_9 rfl (lv_at hl 3 rfl) ?_
    obtain ⟨g1, hf⟩ := gif hf
    refine zget (ci := 6) (C := RX6) (T := TX6) (v := .int (iI (F 6 l1 1))) (k := 1) hx hb hts inW_6 hown hK hZ g1.1 g1.2 rfl (by decide) k_2_192 rfl d_11_4_10 ?_
    obtain ⟨g2, hf⟩ := gif hf
    obtain ⟨g3, hf⟩ := gif hf
    refine zge (tgt := 88) hx hb g2 g3 d_11_4_13 (by decide) (fun h4 => ?_) (fun h4 => ?_)
    · replace hf := gpos hf h4
      refine lv_lload_n hx hb d_11_4_88 rfl (lv_at hl 1 rfl) ?_
      cases hf
      exact W.lret hx hb hr (fun t ht hW => ⟨⟨_, (), rfl, rfl, by rw [ht]; exact hZ, va_K.moved hW.alike hK⟩, hS.F ht⟩) hS.2.2 d_11_4_89 hlk
    · replace hf := gneg hf h4
      refine lv_aload_n hx hb d_11_4_16 rfl (lv_at hl 3 rfl) ?_
      refine zget (ci := 6) (C := RX6) (T := TX6) (v := .ref (ad 6 l1 (0 + 1))) (k := 0) hx hb hts inW_6 hown hK hZ g1.1 g1.2 rfl (by decide) k_2_187 rfl d_11_4_17 ?_
      refine lv_iload hx hb d_11_4_20 (lv_at hl 0 rfl) ?_
      obtain ⟨g5, hf⟩ := gif hf
      refine zaldR (t := 4) (x := 6) (ci := 6) (k := 0) hx hb hK rfl rfl hZ g1.1 g1.2 rfl (Nat.le_of_ble_eq_true rfl) g5.1 g5.2 d_11_4_22 ?_
      refine zastore (lv' := [(5, .int (iI l5)), (3, .long (lI l3)), (0, .ref (ad 9 l0 0)), (1, .ref (ad 6 l1 0)), (2, .int (iI l2))]) hx hb d_11_4_23 hl (by decide) (fun _ _ => rfl) (fun ls hl => ?_)
      refine lv_aload_n hx hb d_11_4_25 rfl (lv_at hl 3 rfl) ?_
      obtain ⟨g6, hf⟩ := gif hf
      refine zget (ci := 9) (C := RX9) (T := TX9) (v := .ref (ad 9 l0 (4 + 1))) (k := 4) hx hb hts inW_9 hown hK hZ g6.1 g6.2 rfl (by decide) k_5_205 rfl d_11_4_26 ?_
      refine lv_iload hx hb d_11_4_29 (lv_at hl 1 rfl) ?_
      refine zaldQ (t := 0) (ci := 9) (k := 4) hx hb hK rfl hZ g6.1 g6.2 rfl (Nat.le_of_ble_eq_true rfl) g5.1 g5.2 d_11_4_31 ?_
      refine W.eq (g2 := F0 m 32 ls [.ref (ad 9 l0 (280 + l5.toNat + 1))]) rfl ?_
      refine lv_iload_n hx hb d_11_4_32 rfl (lv_at hl 5 rfl) ?_
      obtain ⟨g7, hf⟩ := gif hf
      refine zald (ci := 9) (k := (280 + l5.toNat)) hx hb hK rfl hZ g6.1 g6.2 (zkq (c := 9) (b := 280) (n := 4) (t := 0) (by decide) g5.1 g5.2) (lnq_le (c := 9) (b := 280) (n := 4) (m := 800) (by decide) (by decide) (by decide) g5.1 g5.2) g7.1 (lnq_lt (c := 9) (b := 280) (n := 4) (m := 800) (by decide) (by decide) g5.1 g5.2 g7.2) d_11_4_33 ?_
      refine lv_iconst (v := iI 1) hx hb d_11_4_34 rfl ?_
      refine zadd hx hb d_11_4_35 ?_
      refine lv_istore (lv' := [(7, .int (iI ((B 9 l0 (280 + l5.toNat) l2) + 1))), (6, va_rf (zrf ad 4 (B 6 l1 0 l5))), (5, .int (iI l5)), (3, .long (lI l3)), (0, .ref (ad 9 l0 0)), (1, .ref (ad 6 l1 0)), (2, .int (iI l2))]) hx hb d_11_4_36 hl (by decide) (by cases zrf ad 4 (B 6 l1 0 l5) <;> rfl) (fun ls hl => ?_)
      refine lv_iload hx hb d_11_4_38 (lv_at hl 0 rfl) ?_
      refine zaload hx hb d_11_4_40 (lv_at hl 1 rfl) ?_
      obtain ⟨g8, hf⟩ := gif hf
      refine zunrf g8.1 ?_
      refine zget (ci := 4) (C := RX4) (T := TX4) (v := .int (iI (F 4 (B 6 l1 0 l5) 6))) (k := 6) hx hb hts inW_4 hown hK hZ g8.1 g8.2 rfl (by decide) k_4_137 rfl d_11_4_42 ?_
      obtain ⟨g9, hf⟩ := gif hf
      obtain ⟨g10, hf⟩ := gif hf
      refine zge (tgt := 82) hx hb g9 g10 d_11_4_45 (by decide) (fun h11 => ?_) (fun h11 => ?_)
      · replace hf := gpos hf h11
        exact b_Study_nextPlace_82 X ih hf hZ hS (lv_sub hl [2, 3, 4, 5, 6] rfl)
      · replace hf := gneg hf h11
        refine lv_lload_n hx hb d_11_4_48 rfl (lv_at hl 3 rfl) ?_
        refine lv_lconst (v := lI 0) hx hb d_11_4_49 (by decide) ?_
        obtain ⟨g12, hf⟩ := gif hf
        refine zcmp_r hx hb g12 (by decide) d_11_4_50 ?_
        refine z0lt (tgt := 70) hx hb zcmp_32 d_11_4_51 (by decide) (fun h13 => ?_) (fun h13 => ?_)
        · replace hf := gpos hf h13
          exact b_Study_nextPlace_70 X ih hf hZ hS (lv_sub hl [0, 1, 2, 4, 5, 6] rfl)
        · replace hf := gneg hf h13
          refine zaload hx hb d_11_4_54 (lv_at hl 1 rfl) ?_
          refine zunrf g8.1 ?_
          refine zget (ci := 4) (C := RX4) (T := TX4) (v := .ref (ad 4 (B 6 l1 0 l5) (5 + 1))) (k := 5) hx hb hts inW_4 hown hK hZ g8.1 g8.2 rfl (by decide) k_4_132 rfl d_11_4_56 ?_
          refine lv_iload hx hb d_11_4_59 (lv_at hl 0 rfl) ?_
          obtain ⟨g14, hf⟩ := gif hf
          refine zaldR (t := 1) (x := 7) (ci := 4) (k := 5) hx hb hK rfl rfl hZ g8.1 g8.2 rfl (Nat.le_of_ble_eq_true rfl) g14.1 g14.2 d_11_4_61 ?_
          obtain ⟨g15, hf⟩ := gif hf
          refine zunrf g15.1 ?_
          refine zget (ci := 1) (C := RX1) (T := TX1) (v := .long (lI (F 1 (B 4 (B 6 l1 0 l5) 5 ((B 9 l0 (280 + l5.toNat) l2) + 1)) 0))) (k := 0) hx hb hts inW_1 hown hK hZ g15.1 g15.2 rfl (by decide) k_2_20 rfl d_11_4_62 ?_
          refine lv_lload_n hx hb d_11_4_65 rfl (lv_at hl 3 rfl) ?_
          obtain ⟨g16, hf⟩ := gif hf
          refine zcmp_r hx hb g16 g12 d_11_4_66 ?_
          refine z0ge (tgt := 82) hx hb zcmp_32 d_11_4_67 (by decide) (fun h17 => ?_) (fun h17 => ?_)
          · replace hf := gpos hf h17
            exact b_Study_nextPlace_82 X ih hf hZ hS (lv_sub hl [2, 3, 4, 5, 6] rfl)
          · replace hf := gneg hf h17
            exact b_Study_nextPlace_70 X ih hf hZ hS (lv_sub hl [0, 1, 2, 4, 5, 6] rfl)

noncomputable def f_Study_nextPlace (K : zK) (l0 : Int) (l1 : Int) (l2 : Int) (F : zF) (B : zB) : zO := f_Study_nextPlace_7 K K.1 0 (-1) l0 l1 l2 F B
