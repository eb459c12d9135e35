theorem d_5_7_45 : decode prog_5_method_7_code 45 = .ok (.getfield 135, 3) := D_180 W_prog_5_method_7_code_32 13 rfl rfl rfl
theorem d_5_7_48 : decode prog_5_method_7_code 48 = .ok (.putfield 150, 3) := D_181 W_prog_5_method_7_code_32 16 rfl rfl rfl
theorem d_5_7_51 : decode prog_5_method_7_code 51 = .ok (.iconst 1, 1) := D_4 W_prog_5_method_7_code_32 19 rfl rfl
theorem d_5_7_52 : decode prog_5_method_7_code 52 = .ok (.ireturn, 1) := D_172 W_prog_5_method_7_code_32 20 rfl rfl
theorem d_5_7_11 : decode prog_5_method_7_code 11 = .ok (.iconst 0, 1) := D_3 W_prog_5_method_7_code_0 11 rfl rfl
theorem d_5_7_12 : decode prog_5_method_7_code 12 = .ok (.ireturn, 1) := D_172 W_prog_5_method_7_code_0 12 rfl rfl
theorem d_5_7_41 : decode prog_5_method_7_code 41 = .ok (.iconst 0, 1) := D_3 W_prog_5_method_7_code_32 9 rfl rfl
theorem d_5_7_42 : decode prog_5_method_7_code 42 = .ok (.ireturn, 1) := D_172 W_prog_5_method_7_code_32 10 rfl rfl
theorem d_13_5_27 : decode prog_13_method_5_code 27 = .ok (.return_, 1) := D_177 W_prog_13_method_5_code_0 27 rfl rfl
theorem d_13_14_14 : decode prog_13_method_14_code 14 = .ok (.aload_n 0, 1) := D_42 W_prog_13_method_14_code_0 14 rfl rfl
theorem d_13_14_15 : decode prog_13_method_14_code 15 = .ok (.getfield 24, 3) := D_180 W_prog_13_method_14_code_0 15 rfl rfl rfl
theorem d_13_14_18 : decode prog_13_method_14_code 18 = .ok (.getfield 194, 3) := D_180 W_prog_13_method_14_code_0 18 rfl rfl rfl
theorem d_13_14_21 : decode prog_13_method_14_code 21 = .ok (.iload_n 2, 1) := D_28 W_prog_13_method_14_code_0 21 rfl rfl
theorem d_13_14_22 : decode prog_13_method_14_code 22 = .ok (.iaload, 1) := D_46 W_prog_13_method_14_code_0 22 rfl rfl
theorem d_13_14_23 : decode prog_13_method_14_code 23 = .ok (.iadd, 1) := D_96 W_prog_13_method_14_code_0 23 rfl rfl
theorem d_13_14_24 : decode prog_13_method_14_code 24 = .ok (.istore 4, 2) := D_54 W_prog_13_method_14_code_0 24 rfl rfl
theorem d_13_14_26 : decode prog_13_method_14_code 26 = .ok (.iconst 1, 1) := D_4 W_prog_13_method_14_code_0 26 rfl rfl
theorem d_13_14_27 : decode prog_13_method_14_code 27 = .ok (.istore 5, 2) := D_54 W_prog_13_method_14_code_0 27 rfl rfl
theorem d_13_14_29 : decode prog_13_method_14_code 29 = .ok (.aload_n 0, 1) := D_42 W_prog_13_method_14_code_0 29 rfl rfl
theorem d_13_14_30 : decode prog_13_method_14_code 30 = .ok (.getfield 78, 3) := D_180 W_prog_13_method_14_code_0 30 rfl rfl rfl
theorem W_prog_13_method_14_code_32 : chW prog_13_method_14_code 32 [78, 4, 100, 54, 6, 21, 6, 155, 0, 83, 21, 5, 153, 0, 78, 42, 180, 0, 18, 21, 6, 46, 42, 180, 0, 15, 21, 6, 46, 29, 104, 96, 62, 42, 180, 0] := chW_of (by decide +kernel)
theorem d_13_14_33 : decode prog_13_method_14_code 33 = .ok (.iconst 1, 1) := D_4 W_prog_13_method_14_code_32 1 rfl rfl
theorem d_13_14_34 : decode prog_13_method_14_code 34 = .ok (.isub, 1) := D_100 W_prog_13_method_14_code_32 2 rfl rfl
theorem d_13_14_35 : decode prog_13_method_14_code 35 = .ok (.istore 6, 2) := D_54 W_prog_13_method_14_code_32 3 rfl rfl
theorem d_13_14_37 : decode prog_13_method_14_code 37 = .ok (.iload 6, 2) := D_21 W_prog_13_method_14_code_32 5 rfl rfl
theorem d_13_14_39 : decode prog_13_method_14_code 39 = .ok (.ifCond .lt 83, 3) := D_155 W_prog_13_method_14_code_32 7 rfl rfl rfl
theorem d_13_14_42 : decode prog_13_method_14_code 42 = .ok (.iload 5, 2) := D_21 W_prog_13_method_14_code_32 10 rfl rfl
theorem d_13_14_44 : decode prog_13_method_14_code 44 = .ok (.ifCond .eq 78, 3) := D_153 W_prog_13_method_14_code_32 12 rfl rfl rfl
theorem d_13_14_47 : decode prog_13_method_14_code 47 = .ok (.aload_n 0, 1) := D_42 W_prog_13_method_14_code_32 15 rfl rfl
theorem d_13_14_48 : decode prog_13_method_14_code 48 = .ok (.getfield 18, 3) := D_180 W_prog_13_method_14_code_32 16 rfl rfl rfl
theorem d_13_14_51 : decode prog_13_method_14_code 51 = .ok (.iload 6, 2) := D_21 W_prog_13_method_14_code_32 19 rfl rfl
theorem d_13_14_53 : decode prog_13_method_14_code 53 = .ok (.iaload, 1) := D_46 W_prog_13_method_14_code_32 21 rfl rfl
theorem d_13_14_54 : decode prog_13_method_14_code 54 = .ok (.aload_n 0, 1) := D_42 W_prog_13_method_14_code_32 22 rfl rfl
theorem d_13_14_55 : decode prog_13_method_14_code 55 = .ok (.getfield 15, 3) := D_180 W_prog_13_method_14_code_32 23 rfl rfl rfl
theorem d_13_14_58 : decode prog_13_method_14_code 58 = .ok (.iload 6, 2) := D_21 W_prog_13_method_14_code_32 26 rfl rfl
theorem d_13_14_60 : decode prog_13_method_14_code 60 = .ok (.iaload, 1) := D_46 W_prog_13_method_14_code_32 28 rfl rfl
theorem d_13_14_61 : decode prog_13_method_14_code 61 = .ok (.iload_n 3, 1) := D_29 W_prog_13_method_14_code_32 29 rfl rfl
theorem d_13_14_62 : decode prog_13_method_14_code 62 = .ok (.imul, 1) := D_104 W_prog_13_method_14_code_32 30 rfl rfl
theorem d_13_14_63 : decode prog_13_method_14_code 63 = .ok (.iadd, 1) := D_96 W_prog_13_method_14_code_32 31 rfl rfl
theorem W_prog_13_method_14_code_64 : chW prog_13_method_14_code 64 [62, 42, 180, 0, 21, 21, 6, 46, 42, 180, 0, 15, 21, 6, 46, 21, 4, 104, 96, 54, 4, 29, 155, 0, 27, 29, 16, 63, 162, 0, 21, 21, 4, 29, 184, 0] := chW_of (by decide +kernel)
theorem d_13_14_64 : decode prog_13_method_14_code 64 = .ok (.istore_n 3, 1) := D_62 W_prog_13_method_14_code_64 0 rfl rfl
theorem d_13_14_65 : decode prog_13_method_14_code 65 = .ok (.aload_n 0, 1) := D_42 W_prog_13_method_14_code_64 1 rfl rfl
theorem d_13_14_66 : decode prog_13_method_14_code 66 = .ok (.getfield 21, 3) := D_180 W_prog_13_method_14_code_64 2 rfl rfl rfl
theorem d_13_14_69 : decode prog_13_method_14_code 69 = .ok (.iload 6, 2) := D_21 W_prog_13_method_14_code_64 5 rfl rfl
theorem d_13_14_71 : decode prog_13_method_14_code 71 = .ok (.iaload, 1) := D_46 W_prog_13_method_14_code_64 7 rfl rfl
theorem d_13_14_72 : decode prog_13_method_14_code 72 = .ok (.aload_n 0, 1) := D_42 W_prog_13_method_14_code_64 8 rfl rfl
theorem d_13_14_73 : decode prog_13_method_14_code 73 = .ok (.getfield 15, 3) := D_180 W_prog_13_method_14_code_64 9 rfl rfl rfl
theorem d_13_14_76 : decode prog_13_method_14_code 76 = .ok (.iload 6, 2) := D_21 W_prog_13_method_14_code_64 12 rfl rfl
theorem d_13_14_78 : decode prog_13_method_14_code 78 = .ok (.iaload, 1) := D_46 W_prog_13_method_14_code_64 14 rfl rfl
theorem d_13_14_79 : decode prog_13_method_14_code 79 = .ok (.iload 4, 2) := D_21 W_prog_13_method_14_code_64 15 rfl rfl
theorem d_13_14_81 : decode prog_13_method_14_code 81 = .ok (.imul, 1) := D_104 W_prog_13_method_14_code_64 17 rfl rfl
theorem d_13_14_82 : decode prog_13_method_14_code 82 = .ok (.iadd, 1) := D_96 W_prog_13_method_14_code_64 18 rfl rfl
theorem d_13_14_83 : decode prog_13_method_14_code 83 = .ok (.istore 4, 2) := D_54 W_prog_13_method_14_code_64 19 rfl rfl
theorem d_13_14_85 : decode prog_13_method_14_code 85 = .ok (.iload_n 3, 1) := D_29 W_prog_13_method_14_code_64 21 rfl rfl
theorem d_13_14_86 : decode prog_13_method_14_code 86 = .ok (.ifCond .lt 27, 3) := D_155 W_prog_13_method_14_code_64 22 rfl rfl rfl
theorem d_13_14_89 : decode prog_13_method_14_code 89 = .ok (.iload_n 3, 1) := D_29 W_prog_13_method_14_code_64 25 rfl rfl
theorem d_13_14_90 : decode prog_13_method_14_code 90 = .ok (.bipush 63, 2) := D_16 W_prog_13_method_14_code_64 26 rfl rfl rfl
theorem d_13_14_92 : decode prog_13_method_14_code 92 = .ok (.if_icmp .ge 21, 3) := D_162 W_prog_13_method_14_code_64 28 rfl rfl rfl
theorem d_13_14_95 : decode prog_13_method_14_code 95 = .ok (.iload 4, 2) := D_21 W_prog_13_method_14_code_64 31 rfl rfl
theorem W_prog_13_method_14_code_96 : chW prog_13_method_14_code 96 [4, 29, 184, 0, 191, 100, 184, 0, 197, 5, 163, 0, 7, 4, 167, 0, 4, 3, 54, 5, 132, 6, 255, 167, 255, 174, 21, 5, 153, 0, 18, 43, 29, 21, 4, 29] := chW_of (by decide +kernel)
theorem d_13_14_97 : decode prog_13_method_14_code 97 = .ok (.iload_n 3, 1) := D_29 W_prog_13_method_14_code_96 1 rfl rfl
theorem d_13_14_98 : decode prog_13_method_14_code 98 = .ok (.invokestatic 191, 3) := D_184 W_prog_13_method_14_code_96 2 rfl rfl rfl
theorem d_13_14_101 : decode prog_13_method_14_code 101 = .ok (.isub, 1) := D_100 W_prog_13_method_14_code_96 5 rfl rfl
theorem d_13_14_102 : decode prog_13_method_14_code 102 = .ok (.invokestatic 197, 3) := D_184 W_prog_13_method_14_code_96 6 rfl rfl rfl
theorem d_13_14_105 : decode prog_13_method_14_code 105 = .ok (.iconst 2, 1) := D_5 W_prog_13_method_14_code_96 9 rfl rfl
theorem d_13_14_106 : decode prog_13_method_14_code 106 = .ok (.if_icmp .gt 7, 3) := D_163 W_prog_13_method_14_code_96 10 rfl rfl rfl
theorem d_13_14_109 : decode prog_13_method_14_code 109 = .ok (.iconst 1, 1) := D_4 W_prog_13_method_14_code_96 13 rfl rfl
theorem d_13_14_110 : decode prog_13_method_14_code 110 = .ok (.goto 4, 3) := D_167 W_prog_13_method_14_code_96 14 rfl rfl rfl
theorem d_13_14_114 : decode prog_13_method_14_code 114 = .ok (.istore 5, 2) := D_54 W_prog_13_method_14_code_96 18 rfl rfl
theorem d_13_14_116 : decode prog_13_method_14_code 116 = .ok (.iinc 6 (-1), 3) := D_132 W_prog_13_method_14_code_96 20 rfl rfl rfl
theorem d_13_14_119 : decode prog_13_method_14_code 119 = .ok (.goto (-82), 3) := D_167 W_prog_13_method_14_code_96 23 rfl rfl rfl
theorem d_13_14_113 : decode prog_13_method_14_code 113 = .ok (.iconst 0, 1) := D_3 W_prog_13_method_14_code_96 17 rfl rfl
theorem d_13_14_122 : decode prog_13_method_14_code 122 = .ok (.iload 5, 2) := D_21 W_prog_13_method_14_code_96 26 rfl rfl
theorem d_13_14_124 : decode prog_13_method_14_code 124 = .ok (.ifCond .eq 18, 3) := D_153 W_prog_13_method_14_code_96 28 rfl rfl rfl
theorem d_13_14_127 : decode prog_13_method_14_code 127 = .ok (.aload_n 1, 1) := D_43 W_prog_13_method_14_code_96 31 rfl rfl
theorem W_prog_13_method_14_code_128 : chW prog_13_method_14_code 128 [29, 21, 4, 29, 184, 0, 191, 100, 182, 0, 202, 154, 0, 18, 42, 16, 9, 42, 180, 0, 24, 180, 0, 206, 28, 46, 182, 0, 108, 177] := chW_of (by decide +kernel)
theorem d_13_14_128 : decode prog_13_method_14_code 128 = .ok (.iload_n 3, 1) := D_29 W_prog_13_method_14_code_128 0 rfl rfl
theorem d_13_14_129 : decode prog_13_method_14_code 129 = .ok (.iload 4, 2) := D_21 W_prog_13_method_14_code_128 1 rfl rfl
theorem d_13_14_131 : decode prog_13_method_14_code 131 = .ok (.iload_n 3, 1) := D_29 W_prog_13_method_14_code_128 3 rfl rfl
theorem d_13_14_132 : decode prog_13_method_14_code 132 = .ok (.invokestatic 191, 3) := D_184 W_prog_13_method_14_code_128 4 rfl rfl rfl
theorem d_13_14_135 : decode prog_13_method_14_code 135 = .ok (.isub, 1) := D_100 W_prog_13_method_14_code_128 7 rfl rfl
theorem d_13_14_136 : decode prog_13_method_14_code 136 = .ok (.invokevirtual 202, 3) := D_182 W_prog_13_method_14_code_128 8 rfl rfl rfl
theorem d_13_14_139 : decode prog_13_method_14_code 139 = .ok (.ifCond .ne 18, 3) := D_154 W_prog_13_method_14_code_128 11 rfl rfl rfl
theorem d_13_14_142 : decode prog_13_method_14_code 142 = .ok (.aload_n 0, 1) := D_42 W_prog_13_method_14_code_128 14 rfl rfl
theorem d_13_14_143 : decode prog_13_method_14_code 143 = .ok (.bipush 9, 2) := D_16 W_prog_13_method_14_code_128 15 rfl rfl rfl
theorem d_13_14_145 : decode prog_13_method_14_code 145 = .ok (.aload_n 0, 1) := D_42 W_prog_13_method_14_code_128 17 rfl rfl
theorem d_13_14_146 : decode prog_13_method_14_code 146 = .ok (.getfield 24, 3) := D_180 W_prog_13_method_14_code_128 18 rfl rfl rfl
theorem d_13_14_149 : decode prog_13_method_14_code 149 = .ok (.getfield 206, 3) := D_180 W_prog_13_method_14_code_128 21 rfl rfl rfl
theorem d_13_14_152 : decode prog_13_method_14_code 152 = .ok (.iload_n 2, 1) := D_28 W_prog_13_method_14_code_128 24 rfl rfl
theorem d_13_14_153 : decode prog_13_method_14_code 153 = .ok (.iaload, 1) := D_46 W_prog_13_method_14_code_128 25 rfl rfl
theorem d_13_14_154 : decode prog_13_method_14_code 154 = .ok (.invokevirtual 108, 3) := D_182 W_prog_13_method_14_code_128 26 rfl rfl rfl
theorem d_13_14_157 : decode prog_13_method_14_code 157 = .ok (.return_, 1) := D_177 W_prog_13_method_14_code_128 29 rfl rfl
theorem d_6_3_87 : decode prog_6_method_3_code 87 = .ok (.ifCond .eq 7, 3) := D_153 W_prog_6_method_3_code_64 23 rfl rfl rfl
theorem d_6_3_94 : decode prog_6_method_3_code 94 = .ok (.iconst 0, 1) := D_3 W_prog_6_method_3_code_64 30 rfl rfl
theorem d_6_3_90 : decode prog_6_method_3_code 90 = .ok (.iconst 4, 1) := D_7 W_prog_6_method_3_code_64 26 rfl rfl
theorem d_6_3_91 : decode prog_6_method_3_code 91 = .ok (.goto 4, 3) := D_167 W_prog_6_method_3_code_64 27 rfl rfl rfl
theorem d_6_3_95 : decode prog_6_method_3_code 95 = .ok (.ior, 1) := D_128 W_prog_6_method_3_code_64 31 rfl rfl
theorem W_prog_6_method_3_code_96 : chW prog_6_method_3_code 96 [54, 5, 21, 5, 25, 4, 7, 182, 0, 45, 153, 0, 7, 5, 167, 0, 4, 3, 128, 54, 5, 21, 5, 29, 4, 96, 42, 180, 0, 31, 162, 0, 22, 42, 180, 0] := chW_of (by decide +kernel)
theorem d_6_3_96 : decode prog_6_method_3_code 96 = .ok (.istore 5, 2) := D_54 W_prog_6_method_3_code_96 0 rfl rfl
theorem d_6_3_98 : decode prog_6_method_3_code 98 = .ok (.iload 5, 2) := D_21 W_prog_6_method_3_code_96 2 rfl rfl
theorem d_6_3_100 : decode prog_6_method_3_code 100 = .ok (.aload 4, 2) := D_25 W_prog_6_method_3_code_96 4 rfl rfl
theorem d_6_3_102 : decode prog_6_method_3_code 102 = .ok (.iconst 4, 1) := D_7 W_prog_6_method_3_code_96 6 rfl rfl
theorem d_6_3_103 : decode prog_6_method_3_code 103 = .ok (.invokevirtual 45, 3) := D_182 W_prog_6_method_3_code_96 7 rfl rfl rfl
theorem d_6_3_106 : decode prog_6_method_3_code 106 = .ok (.ifCond .eq 7, 3) := D_153 W_prog_6_method_3_code_96 10 rfl rfl rfl
theorem d_6_3_113 : decode prog_6_method_3_code 113 = .ok (.iconst 0, 1) := D_3 W_prog_6_method_3_code_96 17 rfl rfl
theorem d_6_3_109 : decode prog_6_method_3_code 109 = .ok (.iconst 2, 1) := D_5 W_prog_6_method_3_code_96 13 rfl rfl
theorem d_6_3_110 : decode prog_6_method_3_code 110 = .ok (.goto 4, 3) := D_167 W_prog_6_method_3_code_96 14 rfl rfl rfl
theorem d_6_3_114 : decode prog_6_method_3_code 114 = .ok (.ior, 1) := D_128 W_prog_6_method_3_code_96 18 rfl rfl
theorem d_6_3_115 : decode prog_6_method_3_code 115 = .ok (.istore 5, 2) := D_54 W_prog_6_method_3_code_96 19 rfl rfl
theorem d_6_3_117 : decode prog_6_method_3_code 117 = .ok (.iload 5, 2) := D_21 W_prog_6_method_3_code_96 21 rfl rfl
theorem d_6_3_119 : decode prog_6_method_3_code 119 = .ok (.iload_n 3, 1) := D_29 W_prog_6_method_3_code_96 23 rfl rfl
theorem d_6_3_120 : decode prog_6_method_3_code 120 = .ok (.iconst 1, 1) := D_4 W_prog_6_method_3_code_96 24 rfl rfl
theorem d_6_3_121 : decode prog_6_method_3_code 121 = .ok (.iadd, 1) := D_96 W_prog_6_method_3_code_96 25 rfl rfl
theorem d_6_3_122 : decode prog_6_method_3_code 122 = .ok (.aload_n 0, 1) := D_42 W_prog_6_method_3_code_96 26 rfl rfl
theorem d_6_3_123 : decode prog_6_method_3_code 123 = .ok (.getfield 31, 3) := D_180 W_prog_6_method_3_code_96 27 rfl rfl rfl
theorem d_6_3_126 : decode prog_6_method_3_code 126 = .ok (.if_icmp .ge 22, 3) := D_162 W_prog_6_method_3_code_96 30 rfl rfl rfl
theorem W_prog_6_method_3_code_128 : chW prog_6_method_3_code 128 [22, 42, 180, 0, 11, 29, 4, 96, 50, 4, 182, 0, 45, 153, 0, 7, 4, 167, 0, 4, 3, 128, 54, 5, 25, 4, 21, 5, 181, 0, 42, 132, 3, 1, 167, 255] := chW_of (by decide +kernel)
theorem d_6_3_129 : decode prog_6_method_3_code 129 = .ok (.aload_n 0, 1) := D_42 W_prog_6_method_3_code_128 1 rfl rfl
theorem d_6_3_130 : decode prog_6_method_3_code 130 = .ok (.getfield 11, 3) := D_180 W_prog_6_method_3_code_128 2 rfl rfl rfl
theorem d_6_3_133 : decode prog_6_method_3_code 133 = .ok (.iload_n 3, 1) := D_29 W_prog_6_method_3_code_128 5 rfl rfl
theorem d_6_3_134 : decode prog_6_method_3_code 134 = .ok (.iconst 1, 1) := D_4 W_prog_6_method_3_code_128 6 rfl rfl
theorem d_6_3_135 : decode prog_6_method_3_code 135 = .ok (.iadd, 1) := D_96 W_prog_6_method_3_code_128 7 rfl rfl
theorem d_6_3_136 : decode prog_6_method_3_code 136 = .ok (.aaload, 1) := D_50 W_prog_6_method_3_code_128 8 rfl rfl
theorem d_6_3_137 : decode prog_6_method_3_code 137 = .ok (.iconst 1, 1) := D_4 W_prog_6_method_3_code_128 9 rfl rfl
theorem d_6_3_138 : decode prog_6_method_3_code 138 = .ok (.invokevirtual 45, 3) := D_182 W_prog_6_method_3_code_128 10 rfl rfl rfl
theorem d_6_3_141 : decode prog_6_method_3_code 141 = .ok (.ifCond .eq 7, 3) := D_153 W_prog_6_method_3_code_128 13 rfl rfl rfl
theorem d_6_3_144 : decode prog_6_method_3_code 144 = .ok (.iconst 1, 1) := D_4 W_prog_6_method_3_code_128 16 rfl rfl
theorem d_6_3_145 : decode prog_6_method_3_code 145 = .ok (.goto 4, 3) := D_167 W_prog_6_method_3_code_128 17 rfl rfl rfl
theorem d_6_3_149 : decode prog_6_method_3_code 149 = .ok (.ior, 1) := D_128 W_prog_6_method_3_code_128 21 rfl rfl
theorem d_6_3_150 : decode prog_6_method_3_code 150 = .ok (.istore 5, 2) := D_54 W_prog_6_method_3_code_128 22 rfl rfl
theorem d_6_3_152 : decode prog_6_method_3_code 152 = .ok (.aload 4, 2) := D_25 W_prog_6_method_3_code_128 24 rfl rfl
theorem d_6_3_154 : decode prog_6_method_3_code 154 = .ok (.iload 5, 2) := D_21 W_prog_6_method_3_code_128 26 rfl rfl
theorem d_6_3_156 : decode prog_6_method_3_code 156 = .ok (.putfield 42, 3) := D_181 W_prog_6_method_3_code_128 28 rfl rfl rfl
theorem d_6_3_159 : decode prog_6_method_3_code 159 = .ok (.iinc 3 1, 3) := D_132 W_prog_6_method_3_code_128 31 rfl rfl rfl
theorem d_6_3_162 : decode prog_6_method_3_code 162 = .ok (.goto (-109), 3) := D_167 W_prog_6_method_3_code_160 2 rfl rfl rfl
theorem d_6_3_148 : decode prog_6_method_3_code 148 = .ok (.iconst 0, 1) := D_3 W_prog_6_method_3_code_128 20 rfl rfl
theorem d_3_7_29 : decode prog_3_method_7_code 29 = .ok (.ifCond .eq 9, 3) := D_153 W_prog_3_method_7_code_0 29 rfl rfl rfl
theorem d_3_7_38 : decode prog_3_method_7_code 38 = .ok (.iconst 0, 1) := D_3 W_prog_3_method_7_code_32 6 rfl rfl
theorem d_3_7_32 : decode prog_3_method_7_code 32 = .ok (.iconst 1, 1) := D_4 W_prog_3_method_7_code_32 0 rfl rfl
theorem d_3_7_33 : decode prog_3_method_7_code 33 = .ok (.iload_n 3, 1) := D_29 W_prog_3_method_7_code_32 1 rfl rfl
theorem d_3_7_34 : decode prog_3_method_7_code 34 = .ok (.ishl, 1) := D_120 W_prog_3_method_7_code_32 2 rfl rfl
theorem d_3_7_35 : decode prog_3_method_7_code 35 = .ok (.goto 4, 3) := D_167 W_prog_3_method_7_code_32 3 rfl rfl rfl
theorem d_3_7_39 : decode prog_3_method_7_code 39 = .ok (.ior, 1) := D_128 W_prog_3_method_7_code_32 7 rfl rfl
theorem d_3_7_40 : decode prog_3_method_7_code 40 = .ok (.istore_n 2, 1) := D_61 W_prog_3_method_7_code_32 8 rfl rfl
theorem d_3_7_41 : decode prog_3_method_7_code 41 = .ok (.iinc 3 1, 3) := D_132 W_prog_3_method_7_code_32 9 rfl rfl rfl
theorem d_3_7_44 : decode prog_3_method_7_code 44 = .ok (.goto (-40), 3) := D_167 W_prog_3_method_7_code_32 12 rfl rfl rfl
theorem d_1_41_12 : decode prog_1_method_41_code 12 = .ok (.iload_n 0, 1) := D_26 W_prog_1_method_41_code_0 12 rfl rfl
theorem d_1_41_13 : decode prog_1_method_41_code 13 = .ok (.if_icmp .gt 5, 3) := D_163 W_prog_1_method_41_code_0 13 rfl rfl rfl
theorem d_1_41_18 : decode prog_1_method_41_code 18 = .ok (.iinc 1 1, 3) := D_132 W_prog_1_method_41_code_0 18 rfl rfl rfl
theorem d_1_41_21 : decode prog_1_method_41_code 21 = .ok (.goto (-19), 3) := D_167 W_prog_1_method_41_code_0 21 rfl rfl rfl
theorem d_1_41_16 : decode prog_1_method_41_code 16 = .ok (.iload_n 1, 1) := D_27 W_prog_1_method_41_code_0 16 rfl rfl
theorem d_1_41_17 : decode prog_1_method_41_code 17 = .ok (.ireturn, 1) := D_172 W_prog_1_method_41_code_0 17 rfl rfl
theorem d_1_42_24 : decode prog_1_method_42_code 24 = .ok (.imul, 1) := D_104 W_prog_1_method_42_code_0 24 rfl rfl
theorem d_1_42_25 : decode prog_1_method_42_code 25 = .ok (.istore 6, 2) := D_54 W_prog_1_method_42_code_0 25 rfl rfl
theorem d_1_42_27 : decode prog_1_method_42_code 27 = .ok (.iload 5, 2) := D_21 W_prog_1_method_42_code_0 27 rfl rfl
theorem d_1_42_29 : decode prog_1_method_42_code 29 = .ok (.iload 6, 2) := D_21 W_prog_1_method_42_code_0 29 rfl rfl
theorem d_1_42_31 : decode prog_1_method_42_code 31 = .ok (.iload 4, 2) := D_21 W_prog_1_method_42_code_0 31 rfl rfl
theorem W_prog_1_method_42_code_32 : chW prog_1_method_42_code 32 [4, 28, 184, 1, 111, 54, 7, 3, 54, 8, 21, 8, 16, 24, 162, 0, 64, 28, 21, 8, 184, 1, 102, 96, 54, 9, 21, 9, 28, 29, 96, 163, 0, 41, 21, 7] := chW_of (by decide +kernel)
theorem d_1_42_33 : decode prog_1_method_42_code 33 = .ok (.iload_n 2, 1) := D_28 W_prog_1_method_42_code_32 1 rfl rfl
theorem d_1_42_34 : decode prog_1_method_42_code 34 = .ok (.invokestatic 367, 3) := D_184 W_prog_1_method_42_code_32 2 rfl rfl rfl
theorem d_1_42_37 : decode prog_1_method_42_code 37 = .ok (.istore 7, 2) := D_54 W_prog_1_method_42_code_32 5 rfl rfl
theorem d_1_42_39 : decode prog_1_method_42_code 39 = .ok (.iconst 0, 1) := D_3 W_prog_1_method_42_code_32 7 rfl rfl
theorem d_1_42_40 : decode prog_1_method_42_code 40 = .ok (.istore 8, 2) := D_54 W_prog_1_method_42_code_32 8 rfl rfl
theorem d_1_42_42 : decode prog_1_method_42_code 42 = .ok (.iload 8, 2) := D_21 W_prog_1_method_42_code_32 10 rfl rfl
theorem d_1_42_44 : decode prog_1_method_42_code 44 = .ok (.bipush 24, 2) := D_16 W_prog_1_method_42_code_32 12 rfl rfl rfl
theorem d_1_42_46 : decode prog_1_method_42_code 46 = .ok (.if_icmp .ge 64, 3) := D_162 W_prog_1_method_42_code_32 14 rfl rfl rfl
theorem W_prog_1_method_42_code_96 : chW prog_1_method_42_code 96 [21, 10, 163, 0, 6, 21, 8, 172, 132, 8, 1, 167, 255, 191, 29, 184, 1, 119, 172] := chW_of (by decide +kernel)
theorem d_1_42_110 : decode prog_1_method_42_code 110 = .ok (.iload_n 3, 1) := D_29 W_prog_1_method_42_code_96 14 rfl rfl
theorem d_1_42_111 : decode prog_1_method_42_code 111 = .ok (.invokestatic 375, 3) := D_184 W_prog_1_method_42_code_96 15 rfl rfl rfl
theorem d_1_42_114 : decode prog_1_method_42_code 114 = .ok (.ireturn, 1) := D_172 W_prog_1_method_42_code_96 18 rfl rfl
theorem d_1_42_49 : decode prog_1_method_42_code 49 = .ok (.iload_n 2, 1) := D_28 W_prog_1_method_42_code_32 17 rfl rfl
theorem d_1_42_50 : decode prog_1_method_42_code 50 = .ok (.iload 8, 2) := D_21 W_prog_1_method_42_code_32 18 rfl rfl
theorem d_1_42_52 : decode prog_1_method_42_code 52 = .ok (.invokestatic 358, 3) := D_184 W_prog_1_method_42_code_32 20 rfl rfl rfl
theorem d_1_42_55 : decode prog_1_method_42_code 55 = .ok (.iadd, 1) := D_96 W_prog_1_method_42_code_32 23 rfl rfl
theorem d_1_42_56 : decode prog_1_method_42_code 56 = .ok (.istore 9, 2) := D_54 W_prog_1_method_42_code_32 24 rfl rfl
theorem d_1_42_58 : decode prog_1_method_42_code 58 = .ok (.iload 9, 2) := D_21 W_prog_1_method_42_code_32 26 rfl rfl
theorem d_1_42_60 : decode prog_1_method_42_code 60 = .ok (.iload_n 2, 1) := D_28 W_prog_1_method_42_code_32 28 rfl rfl
theorem d_1_42_61 : decode prog_1_method_42_code 61 = .ok (.iload_n 3, 1) := D_29 W_prog_1_method_42_code_32 29 rfl rfl
theorem d_1_42_62 : decode prog_1_method_42_code 62 = .ok (.iadd, 1) := D_96 W_prog_1_method_42_code_32 30 rfl rfl
theorem d_1_42_63 : decode prog_1_method_42_code 63 = .ok (.if_icmp .gt 41, 3) := D_163 W_prog_1_method_42_code_32 31 rfl rfl rfl
theorem W_prog_1_method_42_code_64 : chW prog_1_method_42_code 64 [0, 41, 21, 7, 21, 5, 21, 6, 21, 4, 21, 9, 184, 1, 111, 184, 1, 105, 54, 10, 21, 5, 21, 6, 21, 4, 28, 21, 9, 184, 1, 115, 21, 10, 163, 0] := chW_of (by decide +kernel)
theorem d_1_42_66 : decode prog_1_method_42_code 66 = .ok (.iload 7, 2) := D_21 W_prog_1_method_42_code_64 2 rfl rfl
theorem d_1_42_68 : decode prog_1_method_42_code 68 = .ok (.iload 5, 2) := D_21 W_prog_1_method_42_code_64 4 rfl rfl
theorem d_1_42_70 : decode prog_1_method_42_code 70 = .ok (.iload 6, 2) := D_21 W_prog_1_method_42_code_64 6 rfl rfl
theorem d_1_42_72 : decode prog_1_method_42_code 72 = .ok (.iload 4, 2) := D_21 W_prog_1_method_42_code_64 8 rfl rfl
theorem d_1_42_74 : decode prog_1_method_42_code 74 = .ok (.iload 9, 2) := D_21 W_prog_1_method_42_code_64 10 rfl rfl
theorem d_1_42_76 : decode prog_1_method_42_code 76 = .ok (.invokestatic 367, 3) := D_184 W_prog_1_method_42_code_64 12 rfl rfl rfl
theorem d_1_42_79 : decode prog_1_method_42_code 79 = .ok (.invokestatic 361, 3) := D_184 W_prog_1_method_42_code_64 15 rfl rfl rfl
theorem d_1_42_82 : decode prog_1_method_42_code 82 = .ok (.istore 10, 2) := D_54 W_prog_1_method_42_code_64 18 rfl rfl
theorem d_1_42_84 : decode prog_1_method_42_code 84 = .ok (.iload 5, 2) := D_21 W_prog_1_method_42_code_64 20 rfl rfl
theorem d_1_42_86 : decode prog_1_method_42_code 86 = .ok (.iload 6, 2) := D_21 W_prog_1_method_42_code_64 22 rfl rfl
theorem d_1_42_88 : decode prog_1_method_42_code 88 = .ok (.iload 4, 2) := D_21 W_prog_1_method_42_code_64 24 rfl rfl
theorem d_1_42_90 : decode prog_1_method_42_code 90 = .ok (.iload_n 2, 1) := D_28 W_prog_1_method_42_code_64 26 rfl rfl
theorem d_1_42_91 : decode prog_1_method_42_code 91 = .ok (.iload 9, 2) := D_21 W_prog_1_method_42_code_64 27 rfl rfl
theorem d_1_42_93 : decode prog_1_method_42_code 93 = .ok (.invokestatic 371, 3) := D_184 W_prog_1_method_42_code_64 29 rfl rfl rfl
theorem d_1_42_96 : decode prog_1_method_42_code 96 = .ok (.iload 10, 2) := D_21 W_prog_1_method_42_code_96 0 rfl rfl
theorem d_1_42_98 : decode prog_1_method_42_code 98 = .ok (.if_icmp .gt 6, 3) := D_163 W_prog_1_method_42_code_96 2 rfl rfl rfl
theorem d_1_42_101 : decode prog_1_method_42_code 101 = .ok (.iload 8, 2) := D_21 W_prog_1_method_42_code_96 5 rfl rfl
theorem d_1_42_103 : decode prog_1_method_42_code 103 = .ok (.ireturn, 1) := D_172 W_prog_1_method_42_code_96 7 rfl rfl
theorem d_1_42_104 : decode prog_1_method_42_code 104 = .ok (.iinc 8 1, 3) := D_132 W_prog_1_method_42_code_96 8 rfl rfl rfl
theorem d_1_42_107 : decode prog_1_method_42_code 107 = .ok (.goto (-65), 3) := D_167 W_prog_1_method_42_code_96 11 rfl rfl rfl
theorem d_6_18_37 : decode prog_6_method_18_code 37 = .ok (.ifCond .ne 41, 3) := D_154 W_prog_6_method_18_code_32 5 rfl rfl rfl
theorem d_6_18_40 : decode prog_6_method_18_code 40 = .ok (.aload_n 0, 1) := D_42 W_prog_6_method_18_code_32 8 rfl rfl
theorem d_6_18_41 : decode prog_6_method_18_code 41 = .ok (.getfield 26, 3) := D_180 W_prog_6_method_18_code_32 9 rfl rfl rfl
theorem d_6_18_44 : decode prog_6_method_18_code 44 = .ok (.iload 5, 2) := D_21 W_prog_6_method_18_code_32 12 rfl rfl
theorem d_6_18_46 : decode prog_6_method_18_code 46 = .ok (.iaload, 1) := D_46 W_prog_6_method_18_code_32 14 rfl rfl
theorem d_6_18_47 : decode prog_6_method_18_code 47 = .ok (.aload_n 2, 1) := D_44 W_prog_6_method_18_code_32 15 rfl rfl
theorem d_6_18_48 : decode prog_6_method_18_code 48 = .ok (.getfield 102, 3) := D_180 W_prog_6_method_18_code_32 16 rfl rfl rfl
theorem d_6_18_51 : decode prog_6_method_18_code 51 = .ok (.iload 4, 2) := D_21 W_prog_6_method_18_code_32 19 rfl rfl
theorem d_6_18_53 : decode prog_6_method_18_code 53 = .ok (.iaload, 1) := D_46 W_prog_6_method_18_code_32 21 rfl rfl
theorem d_6_18_54 : decode prog_6_method_18_code 54 = .ok (.if_icmp .eq 24, 3) := D_159 W_prog_6_method_18_code_32 22 rfl rfl rfl
theorem d_6_18_57 : decode prog_6_method_18_code 57 = .ok (.iload_n 3, 1) := D_29 W_prog_6_method_18_code_32 25 rfl rfl
theorem d_6_18_58 : decode prog_6_method_18_code 58 = .ok (.iconst 1, 1) := D_4 W_prog_6_method_18_code_32 26 rfl rfl
theorem d_6_18_59 : decode prog_6_method_18_code 59 = .ok (.iload 4, 2) := D_21 W_prog_6_method_18_code_32 27 rfl rfl
theorem d_6_18_61 : decode prog_6_method_18_code 61 = .ok (.ishl, 1) := D_120 W_prog_6_method_18_code_32 29 rfl rfl
theorem d_6_18_62 : decode prog_6_method_18_code 62 = .ok (.ior, 1) := D_128 W_prog_6_method_18_code_32 30 rfl rfl
theorem d_6_18_63 : decode prog_6_method_18_code 63 = .ok (.istore_n 3, 1) := D_62 W_prog_6_method_18_code_32 31 rfl rfl
theorem d_6_18_64 : decode prog_6_method_18_code 64 = .ok (.aload_n 0, 1) := D_42 W_prog_6_method_18_code_64 0 rfl rfl
theorem d_6_18_65 : decode prog_6_method_18_code 65 = .ok (.getfield 26, 3) := D_180 W_prog_6_method_18_code_64 1 rfl rfl rfl
theorem d_6_18_68 : decode prog_6_method_18_code 68 = .ok (.iload 5, 2) := D_21 W_prog_6_method_18_code_64 4 rfl rfl
theorem d_6_18_70 : decode prog_6_method_18_code 70 = .ok (.aload_n 2, 1) := D_44 W_prog_6_method_18_code_64 6 rfl rfl
theorem d_6_18_71 : decode prog_6_method_18_code 71 = .ok (.getfield 102, 3) := D_180 W_prog_6_method_18_code_64 7 rfl rfl rfl
theorem d_6_18_74 : decode prog_6_method_18_code 74 = .ok (.iload 4, 2) := D_21 W_prog_6_method_18_code_64 10 rfl rfl
theorem d_6_18_76 : decode prog_6_method_18_code 76 = .ok (.iaload, 1) := D_46 W_prog_6_method_18_code_64 12 rfl rfl
theorem d_6_18_77 : decode prog_6_method_18_code 77 = .ok (.iastore, 1) := D_79 W_prog_6_method_18_code_64 13 rfl rfl
theorem d_6_18_78 : decode prog_6_method_18_code 78 = .ok (.iinc 4 1, 3) := D_132 W_prog_6_method_18_code_64 14 rfl rfl rfl
theorem d_6_18_81 : decode prog_6_method_18_code 81 = .ok (.goto (-69), 3) := D_167 W_prog_6_method_18_code_64 17 rfl rfl rfl
theorem d_6_21_26 : decode prog_6_method_21_code 26 = .ok (.bipush 8, 2) := D_16 W_prog_6_method_21_code_0 26 rfl rfl rfl
theorem d_6_21_28 : decode prog_6_method_21_code 28 = .ok (.isub, 1) := D_100 W_prog_6_method_21_code_0 28 rfl rfl
theorem d_6_21_29 : decode prog_6_method_21_code 29 = .ok (.iconst 0, 1) := D_3 W_prog_6_method_21_code_0 29 rfl rfl
theorem d_6_21_30 : decode prog_6_method_21_code 30 = .ok (.invokestatic 181, 3) := D_184 W_prog_6_method_21_code_0 30 rfl rfl rfl
theorem W_prog_6_method_21_code_32 : chW prog_6_method_21_code 32 [181, 5, 108, 96, 61, 28, 42, 27, 182, 0, 215, 116, 3, 184, 0, 181, 5, 108, 96, 61, 42, 180, 0, 19, 16, 8, 50, 27, 28, 79, 132, 1, 1, 167, 255, 193] := chW_of (by decide +kernel)
theorem d_6_21_33 : decode prog_6_method_21_code 33 = .ok (.iconst 2, 1) := D_5 W_prog_6_method_21_code_32 1 rfl rfl
theorem d_6_21_34 : decode prog_6_method_21_code 34 = .ok (.idiv, 1) := D_108 W_prog_6_method_21_code_32 2 rfl rfl
theorem d_6_21_35 : decode prog_6_method_21_code 35 = .ok (.iadd, 1) := D_96 W_prog_6_method_21_code_32 3 rfl rfl
theorem d_6_21_36 : decode prog_6_method_21_code 36 = .ok (.istore_n 2, 1) := D_61 W_prog_6_method_21_code_32 4 rfl rfl
theorem d_6_21_37 : decode prog_6_method_21_code 37 = .ok (.iload_n 2, 1) := D_28 W_prog_6_method_21_code_32 5 rfl rfl
theorem d_6_21_38 : decode prog_6_method_21_code 38 = .ok (.aload_n 0, 1) := D_42 W_prog_6_method_21_code_32 6 rfl rfl
theorem d_6_21_39 : decode prog_6_method_21_code 39 = .ok (.iload_n 1, 1) := D_27 W_prog_6_method_21_code_32 7 rfl rfl
theorem d_6_21_40 : decode prog_6_method_21_code 40 = .ok (.invokevirtual 215, 3) := D_182 W_prog_6_method_21_code_32 8 rfl rfl rfl
theorem d_6_21_43 : decode prog_6_method_21_code 43 = .ok (.ineg, 1) := D_116 W_prog_6_method_21_code_32 11 rfl rfl
theorem d_6_21_44 : decode prog_6_method_21_code 44 = .ok (.iconst 0, 1) := D_3 W_prog_6_method_21_code_32 12 rfl rfl
theorem d_6_21_45 : decode prog_6_method_21_code 45 = .ok (.invokestatic 181, 3) := D_184 W_prog_6_method_21_code_32 13 rfl rfl rfl
theorem d_6_21_48 : decode prog_6_method_21_code 48 = .ok (.iconst 2, 1) := D_5 W_prog_6_method_21_code_32 16 rfl rfl
theorem d_6_21_49 : decode prog_6_method_21_code 49 = .ok (.idiv, 1) := D_108 W_prog_6_method_21_code_32 17 rfl rfl
theorem d_6_21_50 : decode prog_6_method_21_code 50 = .ok (.iadd, 1) := D_96 W_prog_6_method_21_code_32 18 rfl rfl
theorem d_6_21_51 : decode prog_6_method_21_code 51 = .ok (.istore_n 2, 1) := D_61 W_prog_6_method_21_code_32 19 rfl rfl
theorem d_6_21_52 : decode prog_6_method_21_code 52 = .ok (.aload_n 0, 1) := D_42 W_prog_6_method_21_code_32 20 rfl rfl
theorem d_6_21_53 : decode prog_6_method_21_code 53 = .ok (.getfield 19, 3) := D_180 W_prog_6_method_21_code_32 21 rfl rfl rfl
theorem d_6_21_56 : decode prog_6_method_21_code 56 = .ok (.bipush 8, 2) := D_16 W_prog_6_method_21_code_32 24 rfl rfl rfl
theorem d_6_21_58 : decode prog_6_method_21_code 58 = .ok (.aaload, 1) := D_50 W_prog_6_method_21_code_32 26 rfl rfl
theorem d_6_21_59 : decode prog_6_method_21_code 59 = .ok (.iload_n 1, 1) := D_27 W_prog_6_method_21_code_32 27 rfl rfl
theorem d_6_21_60 : decode prog_6_method_21_code 60 = .ok (.iload_n 2, 1) := D_28 W_prog_6_method_21_code_32 28 rfl rfl
theorem d_6_21_61 : decode prog_6_method_21_code 61 = .ok (.iastore, 1) := D_79 W_prog_6_method_21_code_32 29 rfl rfl
theorem d_6_21_62 : decode prog_6_method_21_code 62 = .ok (.iinc 1 1, 3) := D_132 W_prog_6_method_21_code_32 30 rfl rfl rfl
theorem d_6_21_65 : decode prog_6_method_21_code 65 = .ok (.goto (-63), 3) := D_167 W_prog_6_method_21_code_64 1 rfl rfl rfl
theorem d_6_24_40 : decode prog_6_method_24_code 40 = .ok (.ifCond .eq 36, 3) := D_153 W_prog_6_method_24_code_32 8 rfl rfl rfl
theorem d_6_24_43 : decode prog_6_method_24_code 43 = .ok (.iload 4, 2) := D_21 W_prog_6_method_24_code_32 11 rfl rfl
theorem d_6_24_45 : decode prog_6_method_24_code 45 = .ok (.iload 6, 2) := D_21 W_prog_6_method_24_code_32 13 rfl rfl
theorem d_6_24_47 : decode prog_6_method_24_code 47 = .ok (.iadd, 1) := D_96 W_prog_6_method_24_code_32 15 rfl rfl
theorem d_6_24_48 : decode prog_6_method_24_code 48 = .ok (.aload_n 0, 1) := D_42 W_prog_6_method_24_code_32 16 rfl rfl
theorem d_6_24_49 : decode prog_6_method_24_code 49 = .ok (.getfield 35, 3) := D_180 W_prog_6_method_24_code_32 17 rfl rfl rfl
theorem d_6_24_52 : decode prog_6_method_24_code 52 = .ok (.if_icmp .ge 24, 3) := D_162 W_prog_6_method_24_code_32 20 rfl rfl rfl
theorem d_6_24_55 : decode prog_6_method_24_code 55 = .ok (.aload_n 0, 1) := D_42 W_prog_6_method_24_code_32 23 rfl rfl
theorem d_6_24_56 : decode prog_6_method_24_code 56 = .ok (.iload 4, 2) := D_21 W_prog_6_method_24_code_32 24 rfl rfl
theorem d_6_24_58 : decode prog_6_method_24_code 58 = .ok (.iload 4, 2) := D_21 W_prog_6_method_24_code_32 26 rfl rfl
theorem d_6_24_60 : decode prog_6_method_24_code 60 = .ok (.iload 6, 2) := D_21 W_prog_6_method_24_code_32 28 rfl rfl
theorem d_6_24_62 : decode prog_6_method_24_code 62 = .ok (.iadd, 1) := D_96 W_prog_6_method_24_code_32 30 rfl rfl
theorem d_6_24_63 : decode prog_6_method_24_code 63 = .ok (.lload_n 1, 1) := D_31 W_prog_6_method_24_code_32 31 rfl rfl
theorem W_prog_6_method_24_code_64 : chW prog_6_method_24_code 64 [182, 0, 221, 153, 0, 9, 132, 6, 1, 167, 255, 217, 21, 4, 54, 7, 21, 7, 21, 4, 21, 6, 96, 162, 0, 93, 21, 7, 4, 96, 21, 4, 21, 6, 96, 162] := chW_of (by decide +kernel)
theorem d_6_24_64 : decode prog_6_method_24_code 64 = .ok (.invokevirtual 221, 3) := D_182 W_prog_6_method_24_code_64 0 rfl rfl rfl
theorem d_6_24_67 : decode prog_6_method_24_code 67 = .ok (.ifCond .eq 9, 3) := D_153 W_prog_6_method_24_code_64 3 rfl rfl rfl
theorem d_6_24_70 : decode prog_6_method_24_code 70 = .ok (.iinc 6 1, 3) := D_132 W_prog_6_method_24_code_64 6 rfl rfl rfl
theorem d_6_24_73 : decode prog_6_method_24_code 73 = .ok (.goto (-39), 3) := D_167 W_prog_6_method_24_code_64 9 rfl rfl rfl
theorem d_6_24_76 : decode prog_6_method_24_code 76 = .ok (.iload 4, 2) := D_21 W_prog_6_method_24_code_64 12 rfl rfl
theorem d_6_24_78 : decode prog_6_method_24_code 78 = .ok (.istore 7, 2) := D_54 W_prog_6_method_24_code_64 14 rfl rfl
theorem d_6_24_80 : decode prog_6_method_24_code 80 = .ok (.iload 7, 2) := D_21 W_prog_6_method_24_code_64 16 rfl rfl
theorem d_6_24_82 : decode prog_6_method_24_code 82 = .ok (.iload 4, 2) := D_21 W_prog_6_method_24_code_64 18 rfl rfl
theorem d_6_24_84 : decode prog_6_method_24_code 84 = .ok (.iload 6, 2) := D_21 W_prog_6_method_24_code_64 20 rfl rfl
theorem d_6_24_86 : decode prog_6_method_24_code 86 = .ok (.iadd, 1) := D_96 W_prog_6_method_24_code_64 22 rfl rfl
theorem d_6_24_87 : decode prog_6_method_24_code 87 = .ok (.if_icmp .ge 93, 3) := D_162 W_prog_6_method_24_code_64 23 rfl rfl rfl
theorem W_prog_6_method_24_code_160 : chW prog_6_method_24_code 160 [7, 4, 96, 46, 184, 0, 225, 5, 100, 167, 0, 4, 3, 79, 132, 7, 1, 167, 255, 159, 29, 21, 6, 4, 164, 0, 7, 4, 167, 0, 4, 3, 96, 62, 21, 4] := chW_of (by decide +kernel)
theorem d_6_24_180 : decode prog_6_method_24_code 180 = .ok (.iload_n 3, 1) := D_29 W_prog_6_method_24_code_160 20 rfl rfl
theorem d_6_24_181 : decode prog_6_method_24_code 181 = .ok (.iload 6, 2) := D_21 W_prog_6_method_24_code_160 21 rfl rfl
theorem d_6_24_183 : decode prog_6_method_24_code 183 = .ok (.iconst 1, 1) := D_4 W_prog_6_method_24_code_160 23 rfl rfl
theorem d_6_24_184 : decode prog_6_method_24_code 184 = .ok (.if_icmp .le 7, 3) := D_164 W_prog_6_method_24_code_160 24 rfl rfl rfl
theorem d_6_24_191 : decode prog_6_method_24_code 191 = .ok (.iconst 0, 1) := D_3 W_prog_6_method_24_code_160 31 rfl rfl
theorem d_6_24_187 : decode prog_6_method_24_code 187 = .ok (.iconst 1, 1) := D_4 W_prog_6_method_24_code_160 27 rfl rfl
theorem d_6_24_188 : decode prog_6_method_24_code 188 = .ok (.goto 4, 3) := D_167 W_prog_6_method_24_code_160 28 rfl rfl rfl
theorem d_6_24_90 : decode prog_6_method_24_code 90 = .ok (.iload 7, 2) := D_21 W_prog_6_method_24_code_64 26 rfl rfl
theorem d_6_24_92 : decode prog_6_method_24_code 92 = .ok (.iconst 1, 1) := D_4 W_prog_6_method_24_code_64 28 rfl rfl
theorem d_6_24_93 : decode prog_6_method_24_code 93 = .ok (.iadd, 1) := D_96 W_prog_6_method_24_code_64 29 rfl rfl
theorem d_6_24_94 : decode prog_6_method_24_code 94 = .ok (.iload 4, 2) := D_21 W_prog_6_method_24_code_64 30 rfl rfl
theorem W_prog_6_method_24_code_96 : chW prog_6_method_24_code 96 [21, 6, 96, 162, 0, 7, 4, 167, 0, 4, 3, 54, 8, 42, 180, 0, 19, 16, 9, 50, 21, 7, 21, 6, 4, 164, 0, 7, 29, 167, 0, 4, 2, 79, 42, 180] := chW_of (by decide +kernel)
theorem d_6_24_96 : decode prog_6_method_24_code 96 = .ok (.iload 6, 2) := D_21 W_prog_6_method_24_code_96 0 rfl rfl
theorem d_6_24_98 : decode prog_6_method_24_code 98 = .ok (.iadd, 1) := D_96 W_prog_6_method_24_code_96 2 rfl rfl
theorem d_6_24_99 : decode prog_6_method_24_code 99 = .ok (.if_icmp .ge 7, 3) := D_162 W_prog_6_method_24_code_96 3 rfl rfl rfl
theorem d_6_24_106 : decode prog_6_method_24_code 106 = .ok (.iconst 0, 1) := D_3 W_prog_6_method_24_code_96 10 rfl rfl
theorem d_6_24_102 : decode prog_6_method_24_code 102 = .ok (.iconst 1, 1) := D_4 W_prog_6_method_24_code_96 6 rfl rfl
theorem d_6_24_103 : decode prog_6_method_24_code 103 = .ok (.goto 4, 3) := D_167 W_prog_6_method_24_code_96 7 rfl rfl rfl
theorem d_6_24_107 : decode prog_6_method_24_code 107 = .ok (.istore 8, 2) := D_54 W_prog_6_method_24_code_96 11 rfl rfl
theorem d_6_24_109 : decode prog_6_method_24_code 109 = .ok (.aload_n 0, 1) := D_42 W_prog_6_method_24_code_96 13 rfl rfl
theorem d_6_24_110 : decode prog_6_method_24_code 110 = .ok (.getfield 19, 3) := D_180 W_prog_6_method_24_code_96 14 rfl rfl rfl
theorem d_6_24_113 : decode prog_6_method_24_code 113 = .ok (.bipush 9, 2) := D_16 W_prog_6_method_24_code_96 17 rfl rfl rfl
theorem d_6_24_115 : decode prog_6_method_24_code 115 = .ok (.aaload, 1) := D_50 W_prog_6_method_24_code_96 19 rfl rfl
theorem d_6_24_116 : decode prog_6_method_24_code 116 = .ok (.iload 7, 2) := D_21 W_prog_6_method_24_code_96 20 rfl rfl
theorem d_6_24_118 : decode prog_6_method_24_code 118 = .ok (.iload 6, 2) := D_21 W_prog_6_method_24_code_96 22 rfl rfl
theorem d_6_24_120 : decode prog_6_method_24_code 120 = .ok (.iconst 1, 1) := D_4 W_prog_6_method_24_code_96 24 rfl rfl
theorem d_6_24_121 : decode prog_6_method_24_code 121 = .ok (.if_icmp .le 7, 3) := D_164 W_prog_6_method_24_code_96 25 rfl rfl rfl
theorem W_prog_6_method_24_code_128 : chW prog_6_method_24_code 128 [2, 79, 42, 180, 0, 19, 16, 10, 50, 21, 7, 21, 8, 153, 0, 31, 42, 180, 0, 19, 7, 50, 21, 7, 46, 42, 180, 0, 19, 7, 50, 21, 7, 4, 96, 46] := chW_of (by decide +kernel)
theorem d_6_24_128 : decode prog_6_method_24_code 128 = .ok (.iconst (-1), 1) := D_2 W_prog_6_method_24_code_128 0 rfl rfl
theorem d_6_24_124 : decode prog_6_method_24_code 124 = .ok (.iload_n 3, 1) := D_29 W_prog_6_method_24_code_96 28 rfl rfl
theorem d_6_24_125 : decode prog_6_method_24_code 125 = .ok (.goto 4, 3) := D_167 W_prog_6_method_24_code_96 29 rfl rfl rfl
theorem d_6_24_129 : decode prog_6_method_24_code 129 = .ok (.iastore, 1) := D_79 W_prog_6_method_24_code_128 1 rfl rfl
theorem d_6_24_130 : decode prog_6_method_24_code 130 = .ok (.aload_n 0, 1) := D_42 W_prog_6_method_24_code_128 2 rfl rfl
theorem d_6_24_131 : decode prog_6_method_24_code 131 = .ok (.getfield 19, 3) := D_180 W_prog_6_method_24_code_128 3 rfl rfl rfl
theorem d_6_24_134 : decode prog_6_method_24_code 134 = .ok (.bipush 10, 2) := D_16 W_prog_6_method_24_code_128 6 rfl rfl rfl
theorem d_6_24_136 : decode prog_6_method_24_code 136 = .ok (.aaload, 1) := D_50 W_prog_6_method_24_code_128 8 rfl rfl
theorem d_6_24_137 : decode prog_6_method_24_code 137 = .ok (.iload 7, 2) := D_21 W_prog_6_method_24_code_128 9 rfl rfl
theorem d_6_24_139 : decode prog_6_method_24_code 139 = .ok (.iload 8, 2) := D_21 W_prog_6_method_24_code_128 11 rfl rfl
theorem d_6_24_141 : decode prog_6_method_24_code 141 = .ok (.ifCond .eq 31, 3) := D_153 W_prog_6_method_24_code_128 13 rfl rfl rfl
theorem d_6_24_172 : decode prog_6_method_24_code 172 = .ok (.iconst 0, 1) := D_3 W_prog_6_method_24_code_160 12 rfl rfl
theorem d_6_24_144 : decode prog_6_method_24_code 144 = .ok (.aload_n 0, 1) := D_42 W_prog_6_method_24_code_128 16 rfl rfl
theorem d_6_24_145 : decode prog_6_method_24_code 145 = .ok (.getfield 19, 3) := D_180 W_prog_6_method_24_code_128 17 rfl rfl rfl
theorem d_6_24_148 : decode prog_6_method_24_code 148 = .ok (.iconst 4, 1) := D_7 W_prog_6_method_24_code_128 20 rfl rfl
theorem d_6_24_149 : decode prog_6_method_24_code 149 = .ok (.aaload, 1) := D_50 W_prog_6_method_24_code_128 21 rfl rfl
theorem d_6_24_150 : decode prog_6_method_24_code 150 = .ok (.iload 7, 2) := D_21 W_prog_6_method_24_code_128 22 rfl rfl
theorem d_6_24_152 : decode prog_6_method_24_code 152 = .ok (.iaload, 1) := D_46 W_prog_6_method_24_code_128 24 rfl rfl
theorem d_6_24_153 : decode prog_6_method_24_code 153 = .ok (.aload_n 0, 1) := D_42 W_prog_6_method_24_code_128 25 rfl rfl
theorem d_6_24_154 : decode prog_6_method_24_code 154 = .ok (.getfield 19, 3) := D_180 W_prog_6_method_24_code_128 26 rfl rfl rfl
theorem d_6_24_157 : decode prog_6_method_24_code 157 = .ok (.iconst 4, 1) := D_7 W_prog_6_method_24_code_128 29 rfl rfl
theorem d_6_24_158 : decode prog_6_method_24_code 158 = .ok (.aaload, 1) := D_50 W_prog_6_method_24_code_128 30 rfl rfl
theorem d_6_24_159 : decode prog_6_method_24_code 159 = .ok (.iload 7, 2) := D_21 W_prog_6_method_24_code_128 31 rfl rfl
theorem d_6_24_161 : decode prog_6_method_24_code 161 = .ok (.iconst 1, 1) := D_4 W_prog_6_method_24_code_160 1 rfl rfl
theorem d_6_24_162 : decode prog_6_method_24_code 162 = .ok (.iadd, 1) := D_96 W_prog_6_method_24_code_160 2 rfl rfl
theorem d_6_24_163 : decode prog_6_method_24_code 163 = .ok (.iaload, 1) := D_46 W_prog_6_method_24_code_160 3 rfl rfl
theorem d_6_24_164 : decode prog_6_method_24_code 164 = .ok (.invokestatic 225, 3) := D_184 W_prog_6_method_24_code_160 4 rfl rfl rfl
theorem d_6_24_167 : decode prog_6_method_24_code 167 = .ok (.iconst 2, 1) := D_5 W_prog_6_method_24_code_160 7 rfl rfl
theorem d_6_24_168 : decode prog_6_method_24_code 168 = .ok (.isub, 1) := D_100 W_prog_6_method_24_code_160 8 rfl rfl
theorem d_6_24_169 : decode prog_6_method_24_code 169 = .ok (.goto 4, 3) := D_167 W_prog_6_method_24_code_160 9 rfl rfl rfl
theorem d_6_24_173 : decode prog_6_method_24_code 173 = .ok (.iastore, 1) := D_79 W_prog_6_method_24_code_160 13 rfl rfl
theorem d_6_24_174 : decode prog_6_method_24_code 174 = .ok (.iinc 7 1, 3) := D_132 W_prog_6_method_24_code_160 14 rfl rfl rfl
theorem d_6_24_177 : decode prog_6_method_24_code 177 = .ok (.goto (-97), 3) := D_167 W_prog_6_method_24_code_160 17 rfl rfl rfl
theorem W_prog_6_method_24_code_192 : chW prog_6_method_24_code 192 [96, 62, 21, 4, 21, 6, 96, 54, 4, 132, 5, 1, 167, 255, 60, 177] := chW_of (by decide +kernel)
theorem d_6_24_192 : decode prog_6_method_24_code 192 = .ok (.iadd, 1) := D_96 W_prog_6_method_24_code_192 0 rfl rfl
theorem d_6_24_193 : decode prog_6_method_24_code 193 = .ok (.istore_n 3, 1) := D_62 W_prog_6_method_24_code_192 1 rfl rfl
theorem d_6_24_194 : decode prog_6_method_24_code 194 = .ok (.iload 4, 2) := D_21 W_prog_6_method_24_code_192 2 rfl rfl
theorem d_6_24_196 : decode prog_6_method_24_code 196 = .ok (.iload 6, 2) := D_21 W_prog_6_method_24_code_192 4 rfl rfl
theorem d_6_24_198 : decode prog_6_method_24_code 198 = .ok (.iadd, 1) := D_96 W_prog_6_method_24_code_192 6 rfl rfl
theorem d_6_24_199 : decode prog_6_method_24_code 199 = .ok (.istore 4, 2) := D_54 W_prog_6_method_24_code_192 7 rfl rfl
theorem d_6_24_201 : decode prog_6_method_24_code 201 = .ok (.iinc 5 1, 3) := D_132 W_prog_6_method_24_code_192 9 rfl rfl rfl
theorem d_6_24_204 : decode prog_6_method_24_code 204 = .ok (.goto (-196), 3) := D_167 W_prog_6_method_24_code_192 12 rfl rfl rfl
theorem d_6_24_207 : decode prog_6_method_24_code 207 = .ok (.return_, 1) := D_177 W_prog_6_method_24_code_192 15 rfl rfl
theorem d_11_3_50 : decode prog_11_method_3_code 50 = .ok (.lstore_n 3, 1) := D_66 W_prog_11_method_3_code_32 18 rfl rfl
theorem d_11_3_51 : decode prog_11_method_3_code 51 = .ok (.lload_n 3, 1) := D_33 W_prog_11_method_3_code_32 19 rfl rfl
theorem d_11_3_52 : decode prog_11_method_3_code 52 = .ok (.lconst 0, 1) := D_9 W_prog_11_method_3_code_32 20 rfl rfl
theorem d_11_3_53 : decode prog_11_method_3_code 53 = .ok (.lcmp, 1) := D_148 W_prog_11_method_3_code_32 21 rfl rfl
theorem d_11_3_54 : decode prog_11_method_3_code 54 = .ok (.ifCond .ge 4, 3) := D_156 W_prog_11_method_3_code_32 22 rfl rfl rfl
theorem d_11_3_58 : decode prog_11_method_3_code 58 = .ok (.aload_n 0, 1) := D_42 W_prog_11_method_3_code_32 26 rfl rfl
theorem d_11_3_59 : decode prog_11_method_3_code 59 = .ok (.getfield 9, 3) := D_180 W_prog_11_method_3_code_32 27 rfl rfl rfl
theorem d_11_3_62 : decode prog_11_method_3_code 62 = .ok (.iload_n 2, 1) := D_28 W_prog_11_method_3_code_32 30 rfl rfl
theorem d_11_3_63 : decode prog_11_method_3_code 63 = .ok (.lload_n 3, 1) := D_33 W_prog_11_method_3_code_32 31 rfl rfl
theorem W_prog_11_method_3_code_64 : chW prog_11_method_3_code 64 [80, 3, 54, 5, 21, 5, 43, 180, 0, 58, 162, 0, 93, 43, 180, 0, 77, 21, 5, 50, 58, 6, 42, 180, 0, 20, 21, 5, 50, 28, 4, 100, 3, 184, 0, 67] := chW_of (by decide +kernel)
theorem d_11_3_64 : decode prog_11_method_3_code 64 = .ok (.lastore, 1) := D_80 W_prog_11_method_3_code_64 0 rfl rfl
theorem d_11_3_65 : decode prog_11_method_3_code 65 = .ok (.iconst 0, 1) := D_3 W_prog_11_method_3_code_64 1 rfl rfl
theorem d_11_3_66 : decode prog_11_method_3_code 66 = .ok (.istore 5, 2) := D_54 W_prog_11_method_3_code_64 2 rfl rfl
theorem d_11_3_57 : decode prog_11_method_3_code 57 = .ok (.return_, 1) := D_177 W_prog_11_method_3_code_32 25 rfl rfl
theorem d_11_3_68 : decode prog_11_method_3_code 68 = .ok (.iload 5, 2) := D_21 W_prog_11_method_3_code_64 4 rfl rfl
theorem d_11_3_70 : decode prog_11_method_3_code 70 = .ok (.aload_n 1, 1) := D_43 W_prog_11_method_3_code_64 6 rfl rfl
theorem d_11_3_71 : decode prog_11_method_3_code 71 = .ok (.getfield 58, 3) := D_180 W_prog_11_method_3_code_64 7 rfl rfl rfl
theorem d_11_3_74 : decode prog_11_method_3_code 74 = .ok (.if_icmp .ge 93, 3) := D_162 W_prog_11_method_3_code_64 10 rfl rfl rfl
theorem d_11_3_167 : decode prog_11_method_3_code 167 = .ok (.aload_n 0, 1) := D_42 W_prog_11_method_3_code_160 7 rfl rfl
theorem d_11_3_168 : decode prog_11_method_3_code 168 = .ok (.iload_n 2, 1) := D_28 W_prog_11_method_3_code_160 8 rfl rfl
theorem d_11_3_169 : decode prog_11_method_3_code 169 = .ok (.iconst 1, 1) := D_4 W_prog_11_method_3_code_160 9 rfl rfl
theorem d_11_3_170 : decode prog_11_method_3_code 170 = .ok (.iadd, 1) := D_96 W_prog_11_method_3_code_160 10 rfl rfl
theorem d_11_3_171 : decode prog_11_method_3_code 171 = .ok (.putfield 51, 3) := D_181 W_prog_11_method_3_code_160 11 rfl rfl rfl
theorem d_11_3_174 : decode prog_11_method_3_code 174 = .ok (.iinc 2 1, 3) := D_132 W_prog_11_method_3_code_160 14 rfl rfl rfl
theorem d_11_3_177 : decode prog_11_method_3_code 177 = .ok (.goto (-148), 3) := D_167 W_prog_11_method_3_code_160 17 rfl rfl rfl
theorem d_11_3_77 : decode prog_11_method_3_code 77 = .ok (.aload_n 1, 1) := D_43 W_prog_11_method_3_code_64 13 rfl rfl
theorem d_11_3_78 : decode prog_11_method_3_code 78 = .ok (.getfield 77, 3) := D_180 W_prog_11_method_3_code_64 14 rfl rfl rfl
theorem d_11_3_81 : decode prog_11_method_3_code 81 = .ok (.iload 5, 2) := D_21 W_prog_11_method_3_code_64 17 rfl rfl
theorem d_11_3_83 : decode prog_11_method_3_code 83 = .ok (.aaload, 1) := D_50 W_prog_11_method_3_code_64 19 rfl rfl
theorem d_11_3_84 : decode prog_11_method_3_code 84 = .ok (.astore 6, 2) := D_58 W_prog_11_method_3_code_64 20 rfl rfl
theorem d_11_3_86 : decode prog_11_method_3_code 86 = .ok (.aload_n 0, 1) := D_42 W_prog_11_method_3_code_64 22 rfl rfl
theorem d_11_3_87 : decode prog_11_method_3_code 87 = .ok (.getfield 20, 3) := D_180 W_prog_11_method_3_code_64 23 rfl rfl rfl
theorem d_11_3_90 : decode prog_11_method_3_code 90 = .ok (.iload 5, 2) := D_21 W_prog_11_method_3_code_64 26 rfl rfl
theorem d_11_3_92 : decode prog_11_method_3_code 92 = .ok (.aaload, 1) := D_50 W_prog_11_method_3_code_64 28 rfl rfl
theorem d_11_3_93 : decode prog_11_method_3_code 93 = .ok (.iload_n 2, 1) := D_28 W_prog_11_method_3_code_64 29 rfl rfl
theorem d_11_3_94 : decode prog_11_method_3_code 94 = .ok (.iconst 1, 1) := D_4 W_prog_11_method_3_code_64 30 rfl rfl
theorem d_11_3_95 : decode prog_11_method_3_code 95 = .ok (.isub, 1) := D_100 W_prog_11_method_3_code_64 31 rfl rfl
theorem W_prog_11_method_3_code_96 : chW prog_11_method_3_code 96 [3, 184, 0, 67, 46, 4, 96, 54, 7, 21, 7, 25, 6, 180, 0, 81, 162, 0, 23, 25, 6, 180, 0, 86, 21, 7, 50, 180, 0, 90, 33, 148, 154, 0, 7, 4] := chW_of (by decide +kernel)
theorem d_11_3_96 : decode prog_11_method_3_code 96 = .ok (.iconst 0, 1) := D_3 W_prog_11_method_3_code_96 0 rfl rfl
theorem d_11_3_97 : decode prog_11_method_3_code 97 = .ok (.invokestatic 67, 3) := D_184 W_prog_11_method_3_code_96 1 rfl rfl rfl
theorem d_11_3_100 : decode prog_11_method_3_code 100 = .ok (.iaload, 1) := D_46 W_prog_11_method_3_code_96 4 rfl rfl
theorem d_11_3_101 : decode prog_11_method_3_code 101 = .ok (.iconst 1, 1) := D_4 W_prog_11_method_3_code_96 5 rfl rfl
theorem d_11_3_102 : decode prog_11_method_3_code 102 = .ok (.iadd, 1) := D_96 W_prog_11_method_3_code_96 6 rfl rfl
theorem d_11_3_103 : decode prog_11_method_3_code 103 = .ok (.istore 7, 2) := D_54 W_prog_11_method_3_code_96 7 rfl rfl
theorem d_11_3_105 : decode prog_11_method_3_code 105 = .ok (.iload 7, 2) := D_21 W_prog_11_method_3_code_96 9 rfl rfl
theorem d_11_3_107 : decode prog_11_method_3_code 107 = .ok (.aload 6, 2) := D_25 W_prog_11_method_3_code_96 11 rfl rfl
theorem d_11_3_109 : decode prog_11_method_3_code 109 = .ok (.getfield 81, 3) := D_180 W_prog_11_method_3_code_96 13 rfl rfl rfl
theorem d_11_3_112 : decode prog_11_method_3_code 112 = .ok (.if_icmp .ge 23, 3) := D_162 W_prog_11_method_3_code_96 16 rfl rfl rfl
theorem d_11_3_115 : decode prog_11_method_3_code 115 = .ok (.aload 6, 2) := D_25 W_prog_11_method_3_code_96 19 rfl rfl
theorem d_11_3_117 : decode prog_11_method_3_code 117 = .ok (.getfield 86, 3) := D_180 W_prog_11_method_3_code_96 21 rfl rfl rfl
theorem d_11_3_120 : decode prog_11_method_3_code 120 = .ok (.iload 7, 2) := D_21 W_prog_11_method_3_code_96 24 rfl rfl
theorem d_11_3_122 : decode prog_11_method_3_code 122 = .ok (.aaload, 1) := D_50 W_prog_11_method_3_code_96 26 rfl rfl
theorem d_11_3_123 : decode prog_11_method_3_code 123 = .ok (.getfield 90, 3) := D_180 W_prog_11_method_3_code_96 27 rfl rfl rfl
theorem d_11_3_126 : decode prog_11_method_3_code 126 = .ok (.lload_n 3, 1) := D_33 W_prog_11_method_3_code_96 30 rfl rfl
theorem d_11_3_127 : decode prog_11_method_3_code 127 = .ok (.lcmp, 1) := D_148 W_prog_11_method_3_code_96 31 rfl rfl
theorem W_prog_11_method_3_code_128 : chW prog_11_method_3_code 128 [154, 0, 7, 4, 167, 0, 4, 3, 54, 8, 42, 180, 0, 20, 21, 5, 50, 28, 21, 8, 153, 0, 8, 21, 7, 167, 0, 7, 21, 7, 4, 100, 79, 132, 5, 1] := chW_of (by decide +kernel)
theorem d_11_3_128 : decode prog_11_method_3_code 128 = .ok (.ifCond .ne 7, 3) := D_154 W_prog_11_method_3_code_128 0 rfl rfl rfl
theorem d_11_3_131 : decode prog_11_method_3_code 131 = .ok (.iconst 1, 1) := D_4 W_prog_11_method_3_code_128 3 rfl rfl
theorem d_11_3_132 : decode prog_11_method_3_code 132 = .ok (.goto 4, 3) := D_167 W_prog_11_method_3_code_128 4 rfl rfl rfl
theorem d_11_3_136 : decode prog_11_method_3_code 136 = .ok (.istore 8, 2) := D_54 W_prog_11_method_3_code_128 8 rfl rfl
theorem d_11_3_138 : decode prog_11_method_3_code 138 = .ok (.aload_n 0, 1) := D_42 W_prog_11_method_3_code_128 10 rfl rfl
theorem d_11_3_139 : decode prog_11_method_3_code 139 = .ok (.getfield 20, 3) := D_180 W_prog_11_method_3_code_128 11 rfl rfl rfl
theorem d_11_3_142 : decode prog_11_method_3_code 142 = .ok (.iload 5, 2) := D_21 W_prog_11_method_3_code_128 14 rfl rfl
theorem d_11_3_144 : decode prog_11_method_3_code 144 = .ok (.aaload, 1) := D_50 W_prog_11_method_3_code_128 16 rfl rfl
theorem d_11_3_145 : decode prog_11_method_3_code 145 = .ok (.iload_n 2, 1) := D_28 W_prog_11_method_3_code_128 17 rfl rfl
theorem d_11_3_146 : decode prog_11_method_3_code 146 = .ok (.iload 8, 2) := D_21 W_prog_11_method_3_code_128 18 rfl rfl
theorem d_11_3_148 : decode prog_11_method_3_code 148 = .ok (.ifCond .eq 8, 3) := D_153 W_prog_11_method_3_code_128 20 rfl rfl rfl
theorem d_11_3_156 : decode prog_11_method_3_code 156 = .ok (.iload 7, 2) := D_21 W_prog_11_method_3_code_128 28 rfl rfl
theorem d_11_3_158 : decode prog_11_method_3_code 158 = .ok (.iconst 1, 1) := D_4 W_prog_11_method_3_code_128 30 rfl rfl
theorem d_11_3_159 : decode prog_11_method_3_code 159 = .ok (.isub, 1) := D_100 W_prog_11_method_3_code_128 31 rfl rfl
theorem d_11_3_151 : decode prog_11_method_3_code 151 = .ok (.iload 7, 2) := D_21 W_prog_11_method_3_code_128 23 rfl rfl
theorem d_11_3_153 : decode prog_11_method_3_code 153 = .ok (.goto 7, 3) := D_167 W_prog_11_method_3_code_128 25 rfl rfl rfl
theorem d_11_3_160 : decode prog_11_method_3_code 160 = .ok (.iastore, 1) := D_79 W_prog_11_method_3_code_160 0 rfl rfl
theorem d_11_3_161 : decode prog_11_method_3_code 161 = .ok (.iinc 5 1, 3) := D_132 W_prog_11_method_3_code_160 1 rfl rfl rfl
theorem d_11_3_164 : decode prog_11_method_3_code 164 = .ok (.goto (-96), 3) := D_167 W_prog_11_method_3_code_160 4 rfl rfl rfl
theorem d_11_3_135 : decode prog_11_method_3_code 135 = .ok (.iconst 0, 1) := D_3 W_prog_11_method_3_code_128 7 rfl rfl
noncomputable abbrev Q_Parser_takeClosing (K : zK) (D : va_G) (ca : Nat → ClassId) (ad : Nat → Int → Nat → Nat) (L : List Nat) (r : Int) (F : zF) (B : zB) (A : Nat → Prop) : Array Value → State → Outcome → State → Prop := va_Qi (S := Unit) (fun p _ => p = iI r) (fun _ => zPo D ca ad lnC K.2 L F B A) A
noncomputable def f_Parser_takeClosing (K : zK) (l0 : Int) (l1 : Int) (F : zF) (B : zB) : zO := if 0 ≤ l0 ∧ l0 < K.2 3 then zbind (f_Parser_takeSign K l0 l1 (zup3 F 3 l0 18 ((F 3 l0 18) - 1)) B) (fun r3 F3 B3 => if (r3 = 0 ∨ r3 = 1) then some (r3, F3, B3) else none) else none
set_option maxHeartbeats 4000000 in
set_option maxRecDepth 100000 in
theorem c_Parser_takeClosing {l : Launch} {D : va_G} {ca : Nat → ClassId} {ad : Nat → Int → Nat → Nat} {L : List Nat} {aS vS : Nat → Nat} {sz : Nat} {K : zK}  {l0 : Int} {l1 : Int} {F F9 : zF} {B B9 : zB} {r : Int} (hf : f_Parser_takeClosing K l0 l1 F B = some (r, F9, B9)) : Met l ({ cls := "StaveHouse$Parser", name := "takeClosing", desc := "(C)Z" } : Jvm.MethodName) (Cond.code ({ cls := "StaveHouse$Parser", name := "takeClosing", desc := "(C)Z" } : Jvm.MethodName) prog_5_method_18_code 2 (Option.some Jvm.ClassFile.FieldType.boolean) :: wAll) ({ frames := 2, cells := 0, slots := 0, locals := 42 } : Room) (va_Pc [.ref (ad 3 l0 0), .int (iI l1)] (zPre D ca ad lnC K.2 L aS vS F B sz)) (Q_Parser_takeClosing K D ca ad L r F9 B9 (zA L sz)) 0 0 (zA L sz) := by
  refine zMet (Qc := Q_Parser_takeClosing K D ca ad L r F9 B9) (lv := [(0, .ref (ad 3 l0 0)), (1, .int (iI l1))]) (by decide) (Nat.le_of_ble_eq_true rfl) rfl (fun A p e s m below meth c ls X hZ hS hl => ?_)
  obtain ⟨hx, hb, hr, hml, hown, hts, hlk, hK, hA, hL, hX⟩ := id X
  replace hf : (if 0 ≤ l0 ∧ l0 < K.2 3 then zbind (f_Parser_takeSign K l0 l1 (zup3 F 3 l0 18 ((F 3 l0 18) - 1)) B) (fun r3 F3 B3 => if (r3 = 0 ∨ r3 = 1) then some (r3, F3, B3) else none) else none) = some (r, F9, B9) := hf
  refine lv_aload_n hx hb d_5_18_0 rfl (lv_at hl 0 rfl) ?_
  refine lv_dup hx hb d_5_18_1 rfl ?_
  obtain ⟨g1, hf⟩ := gif hf
  refine zget (ci := 3) (C := RX3) (T := TX3) (v := .int (iI (F 3 l0 18))) (k := 18) hx hb hts inW_3 hown hK hZ g1.1 g1.2 rfl (by decide) k_1_135 rfl d_5_18_2 ?_
  refine lv_iconst (v := iI 1) hx hb d_5_18_5 rfl ?_
  refine zsub hx hb d_5_18_6 ?_
  refine zput (ci := 3) (C := RX3) (T := TX3) (k := 18) (v := ((F 3 l0 18) - 1)) (w := .int (iI ((F 3 l0 18) - 1))) hx hb hts inW_3 tyX3 tyX3_ok nmX3 hown hK hZ hS g1.1 g1.2 rfl (by decide) k_1_135 rfl (fun G h => congrArg (fun q => Value.int (iI q)) h) rfl rfl (zno (by decide)) d_5_18_7 (fun H2 locs2 hZ2 hS2 => ?_)
  refine lv_aload_n hx hb d_5_18_10 rfl (lv_at hl 0 rfl) ?_
  refine lv_iload_n hx hb d_5_18_11 rfl (lv_at hl 1 rfl) ?_
  obtain ⟨r3, F3, B3, hc3, hf⟩ := gbind hf
  refine va_calli (va_runV (As := [.int (iI l1)]) (rest := []) ⟨hx, hb, hml, hown, hts⟩ (c_Parser_takeSign (l := l) hc3) (cwV 1 hts (gdV k_3_204 k_3_206 ks_9 k_1_4 k_3_207) rfl rfl rfl (by decide +kernel) ⟨Nat.le_of_ble_eq_true rfl, Nat.le_of_ble_eq_true rfl⟩) (zPV X hZ2 hS2 (ci := 3) g1.1 g1.2 (r := (RX3, TX3, 22)) rfl [.int (iI l1)]) rfl rfl hl.1 rfl (lv_room (Nat.le_of_ble_eq_true rfl)) d_5_18_12 ⟨Nat.le_of_ble_eq_true rfl, Nat.le_of_ble_eq_true rfl⟩) hS2 (fun q _ h => zAin X hS2 q h) (zAin X hS2) (fun p3 u3 t3 H3 locs3 ht3 hv3 hw3 hB3 hz3 hk3 hS3 => ?_)
  have hZ3 := zBack X ht3 hB3
  subst hw3
  obtain ⟨g4, hf⟩ := gif hf
  cases hf
  exact W.zret hx hb hr (zbool g4) (fun t ht hW => ⟨⟨_, (), rfl, rfl, by rw [ht]; exact hZ3, va_K.moved hW.alike hK⟩, hS3.F ht⟩) hS3.2.2 d_5_18_15 hlk

noncomputable abbrev Q_Parser_takeUse (K : zK) (D : va_G) (ca : Nat → ClassId) (ad : Nat → Int → Nat → Nat) (L : List Nat) (r : Int) (F : zF) (B : zB) (A : Nat → Prop) : Array Value → State → Outcome → State → Prop := va_Qi (S := Unit) (fun p _ => p = iI r) (fun _ => zPo D ca ad lnC K.2 L F B A) A
noncomputable def f_Parser_takeUse (K : zK) (l0 : Int) (l1 : Int) (F : zF) (B : zB) : zO := if 0 ≤ l0 ∧ l0 < K.2 3 then zbind (f_Parser_isName K l0 F B) (fun r2 F2 B2 => if r32 r2 then (if r2 = 0 then zbind (f_Parser_refuse K l0 2 F2 B2) (fun r15 F15 B15 => if (r15 = 0 ∨ r15 = 1) then some (r15, F15, B15) else none) else if 0 ≤ (F2 3 l0 11) ∧ (F2 3 l0 11) < K.2 10 then zbind (f_Parser_letNamed K l0 (F2 10 (F2 3 l0 11) 2) F2 B2) (fun r6 F6 B6 => if r32 r6 then (if r6 = (-1) then zbind (f_Parser_refuse K l0 4 F6 B6) (fun r13 F13 B13 => if (r13 = 0 ∨ r13 = 1) then some (r13, F13, B13) else none) else if 0 ≤ l1 ∧ l1 < 3000 then if 0 ≤ (F6 3 l0 11) ∧ (F6 3 l0 11) < K.2 10 then zbind (f_Tokens_advance K (F6 3 l0 11) F6 (zup4 B6 3 l0 2 l1 r6)) (fun r12 F12 B12 => some (1, F12, B12)) else none else none) else none) else none) else none) else none
