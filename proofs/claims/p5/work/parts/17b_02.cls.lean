theorem d_6_23_29 : decode prog_6_method_23_code 29 = .ok (.aaload, 1) := D_50 W_prog_6_method_23_code_0 29 rfl rfl
theorem d_6_23_30 : decode prog_6_method_23_code 30 = .ok (.iload_n 2, 1) := D_28 W_prog_6_method_23_code_0 30 rfl rfl
theorem d_6_23_31 : decode prog_6_method_23_code 31 = .ok (.iaload, 1) := D_46 W_prog_6_method_23_code_0 31 rfl rfl
theorem W_prog_6_method_23_code_32 : chW prog_6_method_23_code 32 [160, 0, 27, 42, 180, 0, 22, 27, 47, 33, 109, 42, 180, 0, 22, 28, 47, 33, 109, 148, 154, 0, 7, 4, 167, 0, 4, 3, 172] := chW_of (by decide +kernel)
theorem d_6_23_32 : decode prog_6_method_23_code 32 = .ok (.if_icmp .ne 27, 3) := D_160 W_prog_6_method_23_code_32 0 rfl rfl rfl
theorem d_6_23_35 : decode prog_6_method_23_code 35 = .ok (.aload_n 0, 1) := D_42 W_prog_6_method_23_code_32 3 rfl rfl
theorem d_6_23_36 : decode prog_6_method_23_code 36 = .ok (.getfield 22, 3) := D_180 W_prog_6_method_23_code_32 4 rfl rfl rfl
theorem d_6_23_39 : decode prog_6_method_23_code 39 = .ok (.iload_n 1, 1) := D_27 W_prog_6_method_23_code_32 7 rfl rfl
theorem d_6_23_40 : decode prog_6_method_23_code 40 = .ok (.laload, 1) := D_47 W_prog_6_method_23_code_32 8 rfl rfl
theorem d_6_23_41 : decode prog_6_method_23_code 41 = .ok (.lload_n 3, 1) := D_33 W_prog_6_method_23_code_32 9 rfl rfl
theorem d_6_23_42 : decode prog_6_method_23_code 42 = .ok (.ldiv, 1) := D_109 W_prog_6_method_23_code_32 10 rfl rfl
theorem d_6_23_43 : decode prog_6_method_23_code 43 = .ok (.aload_n 0, 1) := D_42 W_prog_6_method_23_code_32 11 rfl rfl
theorem d_6_23_44 : decode prog_6_method_23_code 44 = .ok (.getfield 22, 3) := D_180 W_prog_6_method_23_code_32 12 rfl rfl rfl
theorem d_6_23_47 : decode prog_6_method_23_code 47 = .ok (.iload_n 2, 1) := D_28 W_prog_6_method_23_code_32 15 rfl rfl
theorem d_6_23_48 : decode prog_6_method_23_code 48 = .ok (.laload, 1) := D_47 W_prog_6_method_23_code_32 16 rfl rfl
theorem d_6_23_49 : decode prog_6_method_23_code 49 = .ok (.lload_n 3, 1) := D_33 W_prog_6_method_23_code_32 17 rfl rfl
theorem d_6_23_50 : decode prog_6_method_23_code 50 = .ok (.ldiv, 1) := D_109 W_prog_6_method_23_code_32 18 rfl rfl
theorem d_6_23_51 : decode prog_6_method_23_code 51 = .ok (.lcmp, 1) := D_148 W_prog_6_method_23_code_32 19 rfl rfl
theorem d_6_23_52 : decode prog_6_method_23_code 52 = .ok (.ifCond .ne 7, 3) := D_154 W_prog_6_method_23_code_32 20 rfl rfl rfl
theorem d_6_23_55 : decode prog_6_method_23_code 55 = .ok (.iconst 1, 1) := D_4 W_prog_6_method_23_code_32 23 rfl rfl
theorem d_6_23_56 : decode prog_6_method_23_code 56 = .ok (.goto 4, 3) := D_167 W_prog_6_method_23_code_32 24 rfl rfl rfl
theorem d_6_23_60 : decode prog_6_method_23_code 60 = .ok (.ireturn, 1) := D_172 W_prog_6_method_23_code_32 28 rfl rfl
theorem d_6_23_59 : decode prog_6_method_23_code 59 = .ok (.iconst 0, 1) := D_3 W_prog_6_method_23_code_32 27 rfl rfl
theorem W_prog_6_method_25_code_0 : chW prog_6_method_25_code 0 [3, 60, 3, 61, 28, 17, 3, 32, 162, 0, 203, 27, 42, 180, 0, 35, 162, 0, 195, 4, 62, 42, 180, 0, 19, 16, 9, 50, 27, 46, 2, 159, 0, 42, 27, 29] := chW_of (by decide +kernel)
theorem d_6_25_0 : decode prog_6_method_25_code 0 = .ok (.iconst 0, 1) := D_3 W_prog_6_method_25_code_0 0 rfl rfl
theorem d_6_25_1 : decode prog_6_method_25_code 1 = .ok (.istore_n 1, 1) := D_60 W_prog_6_method_25_code_0 1 rfl rfl
theorem d_6_25_2 : decode prog_6_method_25_code 2 = .ok (.iconst 0, 1) := D_3 W_prog_6_method_25_code_0 2 rfl rfl
theorem d_6_25_3 : decode prog_6_method_25_code 3 = .ok (.istore_n 2, 1) := D_61 W_prog_6_method_25_code_0 3 rfl rfl
theorem d_6_25_4 : decode prog_6_method_25_code 4 = .ok (.iload_n 2, 1) := D_28 W_prog_6_method_25_code_0 4 rfl rfl
theorem d_6_25_5 : decode prog_6_method_25_code 5 = .ok (.sipush 800, 3) := D_17 W_prog_6_method_25_code_0 5 rfl rfl rfl
theorem d_6_25_8 : decode prog_6_method_25_code 8 = .ok (.if_icmp .ge 203, 3) := D_162 W_prog_6_method_25_code_0 8 rfl rfl rfl
theorem d_6_25_11 : decode prog_6_method_25_code 11 = .ok (.iload_n 1, 1) := D_27 W_prog_6_method_25_code_0 11 rfl rfl
theorem d_6_25_12 : decode prog_6_method_25_code 12 = .ok (.aload_n 0, 1) := D_42 W_prog_6_method_25_code_0 12 rfl rfl
theorem d_6_25_13 : decode prog_6_method_25_code 13 = .ok (.getfield 35, 3) := D_180 W_prog_6_method_25_code_0 13 rfl rfl rfl
theorem d_6_25_16 : decode prog_6_method_25_code 16 = .ok (.if_icmp .ge 195, 3) := D_162 W_prog_6_method_25_code_0 16 rfl rfl rfl
theorem d_6_25_19 : decode prog_6_method_25_code 19 = .ok (.iconst 1, 1) := D_4 W_prog_6_method_25_code_0 19 rfl rfl
theorem d_6_25_20 : decode prog_6_method_25_code 20 = .ok (.istore_n 3, 1) := D_62 W_prog_6_method_25_code_0 20 rfl rfl
theorem d_6_25_21 : decode prog_6_method_25_code 21 = .ok (.aload_n 0, 1) := D_42 W_prog_6_method_25_code_0 21 rfl rfl
theorem d_6_25_22 : decode prog_6_method_25_code 22 = .ok (.getfield 19, 3) := D_180 W_prog_6_method_25_code_0 22 rfl rfl rfl
theorem d_6_25_25 : decode prog_6_method_25_code 25 = .ok (.bipush 9, 2) := D_16 W_prog_6_method_25_code_0 25 rfl rfl rfl
theorem d_6_25_27 : decode prog_6_method_25_code 27 = .ok (.aaload, 1) := D_50 W_prog_6_method_25_code_0 27 rfl rfl
theorem d_6_25_28 : decode prog_6_method_25_code 28 = .ok (.iload_n 1, 1) := D_27 W_prog_6_method_25_code_0 28 rfl rfl
theorem d_6_25_29 : decode prog_6_method_25_code 29 = .ok (.iaload, 1) := D_46 W_prog_6_method_25_code_0 29 rfl rfl
theorem d_6_25_30 : decode prog_6_method_25_code 30 = .ok (.iconst (-1), 1) := D_2 W_prog_6_method_25_code_0 30 rfl rfl
theorem d_6_25_31 : decode prog_6_method_25_code 31 = .ok (.if_icmp .eq 42, 3) := D_159 W_prog_6_method_25_code_0 31 rfl rfl rfl
theorem W_prog_6_method_25_code_32 : chW prog_6_method_25_code 32 [0, 42, 27, 29, 96, 42, 180, 0, 35, 162, 0, 32, 42, 180, 0, 19, 16, 9, 50, 27, 29, 96, 46, 42, 180, 0, 19, 16, 9, 50, 27, 46, 160, 0, 9, 132] := chW_of (by decide +kernel)
theorem d_6_25_34 : decode prog_6_method_25_code 34 = .ok (.iload_n 1, 1) := D_27 W_prog_6_method_25_code_32 2 rfl rfl
theorem d_6_25_35 : decode prog_6_method_25_code 35 = .ok (.iload_n 3, 1) := D_29 W_prog_6_method_25_code_32 3 rfl rfl
theorem d_6_25_36 : decode prog_6_method_25_code 36 = .ok (.iadd, 1) := D_96 W_prog_6_method_25_code_32 4 rfl rfl
theorem d_6_25_37 : decode prog_6_method_25_code 37 = .ok (.aload_n 0, 1) := D_42 W_prog_6_method_25_code_32 5 rfl rfl
theorem d_6_25_38 : decode prog_6_method_25_code 38 = .ok (.getfield 35, 3) := D_180 W_prog_6_method_25_code_32 6 rfl rfl rfl
theorem d_6_25_41 : decode prog_6_method_25_code 41 = .ok (.if_icmp .ge 32, 3) := D_162 W_prog_6_method_25_code_32 9 rfl rfl rfl
theorem d_6_25_44 : decode prog_6_method_25_code 44 = .ok (.aload_n 0, 1) := D_42 W_prog_6_method_25_code_32 12 rfl rfl
theorem d_6_25_45 : decode prog_6_method_25_code 45 = .ok (.getfield 19, 3) := D_180 W_prog_6_method_25_code_32 13 rfl rfl rfl
theorem d_6_25_48 : decode prog_6_method_25_code 48 = .ok (.bipush 9, 2) := D_16 W_prog_6_method_25_code_32 16 rfl rfl rfl
theorem d_6_25_50 : decode prog_6_method_25_code 50 = .ok (.aaload, 1) := D_50 W_prog_6_method_25_code_32 18 rfl rfl
theorem d_6_25_51 : decode prog_6_method_25_code 51 = .ok (.iload_n 1, 1) := D_27 W_prog_6_method_25_code_32 19 rfl rfl
theorem d_6_25_52 : decode prog_6_method_25_code 52 = .ok (.iload_n 3, 1) := D_29 W_prog_6_method_25_code_32 20 rfl rfl
theorem d_6_25_53 : decode prog_6_method_25_code 53 = .ok (.iadd, 1) := D_96 W_prog_6_method_25_code_32 21 rfl rfl
theorem d_6_25_54 : decode prog_6_method_25_code 54 = .ok (.iaload, 1) := D_46 W_prog_6_method_25_code_32 22 rfl rfl
theorem d_6_25_55 : decode prog_6_method_25_code 55 = .ok (.aload_n 0, 1) := D_42 W_prog_6_method_25_code_32 23 rfl rfl
theorem d_6_25_56 : decode prog_6_method_25_code 56 = .ok (.getfield 19, 3) := D_180 W_prog_6_method_25_code_32 24 rfl rfl rfl
theorem d_6_25_59 : decode prog_6_method_25_code 59 = .ok (.bipush 9, 2) := D_16 W_prog_6_method_25_code_32 27 rfl rfl rfl
theorem d_6_25_61 : decode prog_6_method_25_code 61 = .ok (.aaload, 1) := D_50 W_prog_6_method_25_code_32 29 rfl rfl
theorem d_6_25_62 : decode prog_6_method_25_code 62 = .ok (.iload_n 1, 1) := D_27 W_prog_6_method_25_code_32 30 rfl rfl
theorem d_6_25_63 : decode prog_6_method_25_code 63 = .ok (.iaload, 1) := D_46 W_prog_6_method_25_code_32 31 rfl rfl
theorem W_prog_6_method_25_code_64 : chW prog_6_method_25_code 64 [160, 0, 9, 132, 3, 1, 167, 255, 207, 3, 54, 4, 27, 54, 5, 21, 5, 27, 29, 96, 162, 0, 43, 21, 4, 42, 21, 5, 182, 0, 191, 153, 0, 7, 3, 167] := chW_of (by decide +kernel)
theorem d_6_25_64 : decode prog_6_method_25_code 64 = .ok (.if_icmp .ne 9, 3) := D_160 W_prog_6_method_25_code_64 0 rfl rfl rfl
theorem d_6_25_67 : decode prog_6_method_25_code 67 = .ok (.iinc 3 1, 3) := D_132 W_prog_6_method_25_code_64 3 rfl rfl rfl
theorem d_6_25_70 : decode prog_6_method_25_code 70 = .ok (.goto (-49), 3) := D_167 W_prog_6_method_25_code_64 6 rfl rfl rfl
theorem d_6_25_73 : decode prog_6_method_25_code 73 = .ok (.iconst 0, 1) := D_3 W_prog_6_method_25_code_64 9 rfl rfl
theorem d_6_25_74 : decode prog_6_method_25_code 74 = .ok (.istore 4, 2) := D_54 W_prog_6_method_25_code_64 10 rfl rfl
theorem d_6_25_76 : decode prog_6_method_25_code 76 = .ok (.iload_n 1, 1) := D_27 W_prog_6_method_25_code_64 12 rfl rfl
theorem d_6_25_77 : decode prog_6_method_25_code 77 = .ok (.istore 5, 2) := D_54 W_prog_6_method_25_code_64 13 rfl rfl
theorem d_6_25_79 : decode prog_6_method_25_code 79 = .ok (.iload 5, 2) := D_21 W_prog_6_method_25_code_64 15 rfl rfl
theorem d_6_25_81 : decode prog_6_method_25_code 81 = .ok (.iload_n 1, 1) := D_27 W_prog_6_method_25_code_64 17 rfl rfl
theorem d_6_25_82 : decode prog_6_method_25_code 82 = .ok (.iload_n 3, 1) := D_29 W_prog_6_method_25_code_64 18 rfl rfl
theorem d_6_25_83 : decode prog_6_method_25_code 83 = .ok (.iadd, 1) := D_96 W_prog_6_method_25_code_64 19 rfl rfl
theorem d_6_25_84 : decode prog_6_method_25_code 84 = .ok (.if_icmp .ge 43, 3) := D_162 W_prog_6_method_25_code_64 20 rfl rfl rfl
theorem W_prog_6_method_25_code_96 : chW prog_6_method_25_code 96 [0, 7, 3, 167, 0, 19, 42, 21, 5, 182, 0, 215, 42, 21, 5, 182, 0, 212, 96, 16, 8, 100, 96, 54, 4, 132, 5, 1, 167, 255, 211, 27, 54, 5, 21, 5] := chW_of (by decide +kernel)
theorem d_6_25_127 : decode prog_6_method_25_code 127 = .ok (.iload_n 1, 1) := D_27 W_prog_6_method_25_code_96 31 rfl rfl
theorem W_prog_6_method_25_code_128 : chW prog_6_method_25_code 128 [54, 5, 21, 5, 27, 29, 96, 162, 0, 66, 42, 21, 5, 182, 0, 191, 154, 0, 15, 42, 180, 0, 19, 7, 50, 21, 5, 46, 154, 0, 7, 4, 167, 0, 4, 3] := chW_of (by decide +kernel)
theorem d_6_25_128 : decode prog_6_method_25_code 128 = .ok (.istore 5, 2) := D_54 W_prog_6_method_25_code_128 0 rfl rfl
theorem d_6_25_87 : decode prog_6_method_25_code 87 = .ok (.iload 4, 2) := D_21 W_prog_6_method_25_code_64 23 rfl rfl
theorem d_6_25_89 : decode prog_6_method_25_code 89 = .ok (.aload_n 0, 1) := D_42 W_prog_6_method_25_code_64 25 rfl rfl
theorem d_6_25_90 : decode prog_6_method_25_code 90 = .ok (.iload 5, 2) := D_21 W_prog_6_method_25_code_64 26 rfl rfl
theorem d_6_25_92 : decode prog_6_method_25_code 92 = .ok (.invokevirtual 191, 3) := D_182 W_prog_6_method_25_code_64 28 rfl rfl rfl
theorem d_6_25_95 : decode prog_6_method_25_code 95 = .ok (.ifCond .eq 7, 3) := D_153 W_prog_6_method_25_code_64 31 rfl rfl rfl
theorem d_6_25_102 : decode prog_6_method_25_code 102 = .ok (.aload_n 0, 1) := D_42 W_prog_6_method_25_code_96 6 rfl rfl
theorem d_6_25_103 : decode prog_6_method_25_code 103 = .ok (.iload 5, 2) := D_21 W_prog_6_method_25_code_96 7 rfl rfl
theorem d_6_25_105 : decode prog_6_method_25_code 105 = .ok (.invokevirtual 215, 3) := D_182 W_prog_6_method_25_code_96 9 rfl rfl rfl
theorem d_6_25_108 : decode prog_6_method_25_code 108 = .ok (.aload_n 0, 1) := D_42 W_prog_6_method_25_code_96 12 rfl rfl
theorem d_6_25_109 : decode prog_6_method_25_code 109 = .ok (.iload 5, 2) := D_21 W_prog_6_method_25_code_96 13 rfl rfl
theorem d_6_25_111 : decode prog_6_method_25_code 111 = .ok (.invokevirtual 212, 3) := D_182 W_prog_6_method_25_code_96 15 rfl rfl rfl
theorem d_6_25_114 : decode prog_6_method_25_code 114 = .ok (.iadd, 1) := D_96 W_prog_6_method_25_code_96 18 rfl rfl
theorem d_6_25_115 : decode prog_6_method_25_code 115 = .ok (.bipush 8, 2) := D_16 W_prog_6_method_25_code_96 19 rfl rfl rfl
theorem d_6_25_117 : decode prog_6_method_25_code 117 = .ok (.isub, 1) := D_100 W_prog_6_method_25_code_96 21 rfl rfl
theorem d_6_25_98 : decode prog_6_method_25_code 98 = .ok (.iconst 0, 1) := D_3 W_prog_6_method_25_code_96 2 rfl rfl
theorem d_6_25_99 : decode prog_6_method_25_code 99 = .ok (.goto 19, 3) := D_167 W_prog_6_method_25_code_96 3 rfl rfl rfl
theorem d_6_25_118 : decode prog_6_method_25_code 118 = .ok (.iadd, 1) := D_96 W_prog_6_method_25_code_96 22 rfl rfl
theorem d_6_25_119 : decode prog_6_method_25_code 119 = .ok (.istore 4, 2) := D_54 W_prog_6_method_25_code_96 23 rfl rfl
theorem d_6_25_121 : decode prog_6_method_25_code 121 = .ok (.iinc 5 1, 3) := D_132 W_prog_6_method_25_code_96 25 rfl rfl rfl
theorem d_6_25_124 : decode prog_6_method_25_code 124 = .ok (.goto (-45), 3) := D_167 W_prog_6_method_25_code_96 28 rfl rfl rfl
theorem d_6_25_130 : decode prog_6_method_25_code 130 = .ok (.iload 5, 2) := D_21 W_prog_6_method_25_code_128 2 rfl rfl
theorem d_6_25_132 : decode prog_6_method_25_code 132 = .ok (.iload_n 1, 1) := D_27 W_prog_6_method_25_code_128 4 rfl rfl
theorem d_6_25_133 : decode prog_6_method_25_code 133 = .ok (.iload_n 3, 1) := D_29 W_prog_6_method_25_code_128 5 rfl rfl
theorem d_6_25_134 : decode prog_6_method_25_code 134 = .ok (.iadd, 1) := D_96 W_prog_6_method_25_code_128 6 rfl rfl
theorem d_6_25_135 : decode prog_6_method_25_code 135 = .ok (.if_icmp .ge 66, 3) := D_162 W_prog_6_method_25_code_128 7 rfl rfl rfl
theorem W_prog_6_method_25_code_192 : chW prog_6_method_25_code 192 [4, 5, 79, 132, 5, 1, 167, 255, 188, 27, 29, 96, 60, 132, 2, 1, 167, 255, 52, 177] := chW_of (by decide +kernel)
theorem d_6_25_201 : decode prog_6_method_25_code 201 = .ok (.iload_n 1, 1) := D_27 W_prog_6_method_25_code_192 9 rfl rfl
theorem d_6_25_202 : decode prog_6_method_25_code 202 = .ok (.iload_n 3, 1) := D_29 W_prog_6_method_25_code_192 10 rfl rfl
theorem d_6_25_203 : decode prog_6_method_25_code 203 = .ok (.iadd, 1) := D_96 W_prog_6_method_25_code_192 11 rfl rfl
theorem d_6_25_204 : decode prog_6_method_25_code 204 = .ok (.istore_n 1, 1) := D_60 W_prog_6_method_25_code_192 12 rfl rfl
theorem d_6_25_205 : decode prog_6_method_25_code 205 = .ok (.iinc 2 1, 3) := D_132 W_prog_6_method_25_code_192 13 rfl rfl rfl
theorem d_6_25_208 : decode prog_6_method_25_code 208 = .ok (.goto (-204), 3) := D_167 W_prog_6_method_25_code_192 16 rfl rfl rfl
theorem d_6_25_138 : decode prog_6_method_25_code 138 = .ok (.aload_n 0, 1) := D_42 W_prog_6_method_25_code_128 10 rfl rfl
theorem d_6_25_139 : decode prog_6_method_25_code 139 = .ok (.iload 5, 2) := D_21 W_prog_6_method_25_code_128 11 rfl rfl
theorem d_6_25_141 : decode prog_6_method_25_code 141 = .ok (.invokevirtual 191, 3) := D_182 W_prog_6_method_25_code_128 13 rfl rfl rfl
theorem d_6_25_144 : decode prog_6_method_25_code 144 = .ok (.ifCond .ne 15, 3) := D_154 W_prog_6_method_25_code_128 16 rfl rfl rfl
theorem d_6_25_147 : decode prog_6_method_25_code 147 = .ok (.aload_n 0, 1) := D_42 W_prog_6_method_25_code_128 19 rfl rfl
theorem d_6_25_148 : decode prog_6_method_25_code 148 = .ok (.getfield 19, 3) := D_180 W_prog_6_method_25_code_128 20 rfl rfl rfl
theorem d_6_25_151 : decode prog_6_method_25_code 151 = .ok (.iconst 4, 1) := D_7 W_prog_6_method_25_code_128 23 rfl rfl
theorem d_6_25_152 : decode prog_6_method_25_code 152 = .ok (.aaload, 1) := D_50 W_prog_6_method_25_code_128 24 rfl rfl
theorem d_6_25_153 : decode prog_6_method_25_code 153 = .ok (.iload 5, 2) := D_21 W_prog_6_method_25_code_128 25 rfl rfl
theorem d_6_25_155 : decode prog_6_method_25_code 155 = .ok (.iaload, 1) := D_46 W_prog_6_method_25_code_128 27 rfl rfl
theorem d_6_25_156 : decode prog_6_method_25_code 156 = .ok (.ifCond .ne 7, 3) := D_154 W_prog_6_method_25_code_128 28 rfl rfl rfl
theorem W_prog_6_method_25_code_160 : chW prog_6_method_25_code 160 [167, 0, 4, 3, 54, 6, 42, 180, 0, 19, 16, 11, 50, 21, 5, 21, 6, 153, 0, 7, 3, 167, 0, 13, 21, 4, 156, 0, 7, 4, 167, 0, 4, 5, 79, 132] := chW_of (by decide +kernel)
theorem d_6_25_163 : decode prog_6_method_25_code 163 = .ok (.iconst 0, 1) := D_3 W_prog_6_method_25_code_160 3 rfl rfl
theorem d_6_25_159 : decode prog_6_method_25_code 159 = .ok (.iconst 1, 1) := D_4 W_prog_6_method_25_code_128 31 rfl rfl
theorem d_6_25_160 : decode prog_6_method_25_code 160 = .ok (.goto 4, 3) := D_167 W_prog_6_method_25_code_160 0 rfl rfl rfl
theorem d_6_25_164 : decode prog_6_method_25_code 164 = .ok (.istore 6, 2) := D_54 W_prog_6_method_25_code_160 4 rfl rfl
theorem d_6_25_166 : decode prog_6_method_25_code 166 = .ok (.aload_n 0, 1) := D_42 W_prog_6_method_25_code_160 6 rfl rfl
theorem d_6_25_167 : decode prog_6_method_25_code 167 = .ok (.getfield 19, 3) := D_180 W_prog_6_method_25_code_160 7 rfl rfl rfl
theorem d_6_25_170 : decode prog_6_method_25_code 170 = .ok (.bipush 11, 2) := D_16 W_prog_6_method_25_code_160 10 rfl rfl rfl
theorem d_6_25_172 : decode prog_6_method_25_code 172 = .ok (.aaload, 1) := D_50 W_prog_6_method_25_code_160 12 rfl rfl
theorem d_6_25_173 : decode prog_6_method_25_code 173 = .ok (.iload 5, 2) := D_21 W_prog_6_method_25_code_160 13 rfl rfl
theorem d_6_25_175 : decode prog_6_method_25_code 175 = .ok (.iload 6, 2) := D_21 W_prog_6_method_25_code_160 15 rfl rfl
theorem d_6_25_177 : decode prog_6_method_25_code 177 = .ok (.ifCond .eq 7, 3) := D_153 W_prog_6_method_25_code_160 17 rfl rfl rfl
theorem d_6_25_184 : decode prog_6_method_25_code 184 = .ok (.iload 4, 2) := D_21 W_prog_6_method_25_code_160 24 rfl rfl
theorem d_6_25_186 : decode prog_6_method_25_code 186 = .ok (.ifCond .ge 7, 3) := D_156 W_prog_6_method_25_code_160 26 rfl rfl rfl
theorem d_6_25_193 : decode prog_6_method_25_code 193 = .ok (.iconst 2, 1) := D_5 W_prog_6_method_25_code_192 1 rfl rfl
theorem d_6_25_189 : decode prog_6_method_25_code 189 = .ok (.iconst 1, 1) := D_4 W_prog_6_method_25_code_160 29 rfl rfl
theorem d_6_25_190 : decode prog_6_method_25_code 190 = .ok (.goto 4, 3) := D_167 W_prog_6_method_25_code_160 30 rfl rfl rfl
theorem d_6_25_180 : decode prog_6_method_25_code 180 = .ok (.iconst 0, 1) := D_3 W_prog_6_method_25_code_160 20 rfl rfl
theorem d_6_25_181 : decode prog_6_method_25_code 181 = .ok (.goto 13, 3) := D_167 W_prog_6_method_25_code_160 21 rfl rfl rfl
theorem d_6_25_194 : decode prog_6_method_25_code 194 = .ok (.iastore, 1) := D_79 W_prog_6_method_25_code_192 2 rfl rfl
theorem d_6_25_195 : decode prog_6_method_25_code 195 = .ok (.iinc 5 1, 3) := D_132 W_prog_6_method_25_code_192 3 rfl rfl rfl
theorem d_6_25_198 : decode prog_6_method_25_code 198 = .ok (.goto (-68), 3) := D_167 W_prog_6_method_25_code_192 6 rfl rfl rfl
theorem d_6_25_211 : decode prog_6_method_25_code 211 = .ok (.return_, 1) := D_177 W_prog_6_method_25_code_192 19 rfl rfl
set_option maxRecDepth 20000 in
theorem inW_1 : ∀ w ∈ u_ws RX1 TX1 14, w ∈ wAll := by
  show ∀ w ∈ [(Jvm.Cond.lays "StaveHouse$Event" "StaveHouse$Event" "place" "J"), (Jvm.Cond.lays "StaveHouse$Event" "StaveHouse$Event" "length" "J"), (Jvm.Cond.lays "StaveHouse$Event" "StaveHouse$Event" "value" "I"), (Jvm.Cond.lays "StaveHouse$Event" "StaveHouse$Event" "tupletFirst" "I"), (Jvm.Cond.lays "StaveHouse$Event" "StaveHouse$Event" "tupletSecond" "I"), (Jvm.Cond.lays "StaveHouse$Event" "StaveHouse$Event" "bracket" "I"), (Jvm.Cond.lays "StaveHouse$Event" "StaveHouse$Event" "bracketPlace" "I"), (Jvm.Cond.lays "StaveHouse$Event" "StaveHouse$Event" "marks" "I"), (Jvm.Cond.lays "StaveHouse$Event" "StaveHouse$Event" "loud" "I"), (Jvm.Cond.lays "StaveHouse$Event" "StaveHouse$Event" "token" "I"), (Jvm.Cond.lays "StaveHouse$Event" "StaveHouse$Event" "count" "I"), (Jvm.Cond.lays "StaveHouse$Event" "StaveHouse$Event" "slurred" "Z"), (Jvm.Cond.laysFinal "StaveHouse$Event" "StaveHouse$Event" "steps" "[I"), (Jvm.Cond.laysFinal "StaveHouse$Event" "StaveHouse$Event" "alterations" "[I")], w ∈ wAll
  exact List.forall_mem_cons.mpr ⟨k_2_69, List.forall_mem_cons.mpr ⟨k_2_71, List.forall_mem_cons.mpr ⟨k_2_73, List.forall_mem_cons.mpr ⟨k_2_75, List.forall_mem_cons.mpr ⟨k_2_77, List.forall_mem_cons.mpr ⟨k_2_79, List.forall_mem_cons.mpr ⟨k_2_81, List.forall_mem_cons.mpr ⟨k_2_83, List.forall_mem_cons.mpr ⟨k_2_85, List.forall_mem_cons.mpr ⟨k_2_87, List.forall_mem_cons.mpr ⟨k_2_89, List.forall_mem_cons.mpr ⟨k_2_91, List.forall_mem_cons.mpr ⟨k_2_93, List.forall_mem_cons.mpr ⟨k_2_95, fun _ h => absurd h List.not_mem_nil⟩⟩⟩⟩⟩⟩⟩⟩⟩⟩⟩⟩⟩⟩
set_option maxRecDepth 20000 in
theorem inW_4 : ∀ w ∈ u_ws RX4 TX4 13, w ∈ wAll := by
  show ∀ w ∈ [(Jvm.Cond.lays "StaveHouse$Part" "StaveHouse$Part" "word" "J"), (Jvm.Cond.lays "StaveHouse$Part" "StaveHouse$Part" "clef" "I"), (Jvm.Cond.lays "StaveHouse$Part" "StaveHouse$Part" "number" "I"), (Jvm.Cond.lays "StaveHouse$Part" "StaveHouse$Part" "token" "I"), (Jvm.Cond.lays "StaveHouse$Part" "StaveHouse$Part" "root" "I"), (Jvm.Cond.laysFinal "StaveHouse$Part" "StaveHouse$Part" "events" "[LStaveHouse$Event;"), (Jvm.Cond.lays "StaveHouse$Part" "StaveHouse$Part" "eventCount" "I"), (Jvm.Cond.lays "StaveHouse$Part" "StaveHouse$Part" "endPlace" "J"), (Jvm.Cond.laysFinal "StaveHouse$Part" "StaveHouse$Part" "notes" "[[I"), (Jvm.Cond.laysFinal "StaveHouse$Part" "StaveHouse$Part" "notePlaces" "[J"), (Jvm.Cond.lays "StaveHouse$Part" "StaveHouse$Part" "noteCount" "I"), (Jvm.Cond.lays "StaveHouse$Part" "StaveHouse$Part" "tooManyNotes" "Z"), (Jvm.Cond.laysFinal "StaveHouse$Part" "StaveHouse$Part" "known" "[I")], w ∈ wAll
  exact List.forall_mem_cons.mpr ⟨k_4_153, List.forall_mem_cons.mpr ⟨k_4_155, List.forall_mem_cons.mpr ⟨k_4_157, List.forall_mem_cons.mpr ⟨k_4_159, List.forall_mem_cons.mpr ⟨k_4_161, List.forall_mem_cons.mpr ⟨k_4_163, List.forall_mem_cons.mpr ⟨k_4_165, List.forall_mem_cons.mpr ⟨k_4_167, List.forall_mem_cons.mpr ⟨k_4_169, List.forall_mem_cons.mpr ⟨k_4_171, List.forall_mem_cons.mpr ⟨k_4_173, List.forall_mem_cons.mpr ⟨k_4_175, List.forall_mem_cons.mpr ⟨k_4_177, fun _ h => absurd h List.not_mem_nil⟩⟩⟩⟩⟩⟩⟩⟩⟩⟩⟩⟩⟩
set_option maxRecDepth 20000 in
theorem inW_11 : ∀ w ∈ u_ws RX11 TX11 19, w ∈ wAll := by
  show ∀ w ∈ [(Jvm.Cond.lays "StaveHouse$Walker" "StaveHouse$Walker" "tree" "LStaveHouse$Parser;"), (Jvm.Cond.lays "StaveHouse$Walker" "StaveHouse$Walker" "part" "LStaveHouse$Part;"), (Jvm.Cond.lays "StaveHouse$Walker" "StaveHouse$Walker" "wrong" "I"), (Jvm.Cond.lays "StaveHouse$Walker" "StaveHouse$Walker" "gone" "I"), (Jvm.Cond.lays "StaveHouse$Walker" "StaveHouse$Walker" "loud" "I"), (Jvm.Cond.lays "StaveHouse$Walker" "StaveHouse$Walker" "backs" "I"), (Jvm.Cond.lays "StaveHouse$Walker" "StaveHouse$Walker" "brackets" "I"), (Jvm.Cond.lays "StaveHouse$Walker" "StaveHouse$Walker" "bracket" "I"), (Jvm.Cond.lays "StaveHouse$Walker" "StaveHouse$Walker" "bracketPlace" "I"), (Jvm.Cond.lays "StaveHouse$Walker" "StaveHouse$Walker" "tupletFirst" "I"), (Jvm.Cond.lays "StaveHouse$Walker" "StaveHouse$Walker" "tupletSecond" "I"), (Jvm.Cond.lays "StaveHouse$Walker" "StaveHouse$Walker" "come" "J"), (Jvm.Cond.lays "StaveHouse$Walker" "StaveHouse$Walker" "farthest" "J"), (Jvm.Cond.lays "StaveHouse$Walker" "StaveHouse$Walker" "bar" "J"), (Jvm.Cond.laysFinal "StaveHouse$Walker" "StaveHouse$Walker" "powers" "[I"), (Jvm.Cond.laysFinal "StaveHouse$Walker" "StaveHouse$Walker" "carrySigns" "[I"), (Jvm.Cond.laysFinal "StaveHouse$Walker" "StaveHouse$Walker" "carrySteps" "[I"), (Jvm.Cond.laysFinal "StaveHouse$Walker" "StaveHouse$Walker" "carryTones" "[I"), (Jvm.Cond.lays "StaveHouse$Walker" "StaveHouse$Walker" "carries" "I")], w ∈ wAll
  exact List.forall_mem_cons.mpr ⟨k_1_209, List.forall_mem_cons.mpr ⟨k_1_211, List.forall_mem_cons.mpr ⟨k_1_213, List.forall_mem_cons.mpr ⟨k_1_215, List.forall_mem_cons.mpr ⟨k_1_217, List.forall_mem_cons.mpr ⟨k_1_219, List.forall_mem_cons.mpr ⟨k_1_221, List.forall_mem_cons.mpr ⟨k_1_223, List.forall_mem_cons.mpr ⟨k_1_225, List.forall_mem_cons.mpr ⟨k_1_227, List.forall_mem_cons.mpr ⟨k_1_229, List.forall_mem_cons.mpr ⟨k_1_231, List.forall_mem_cons.mpr ⟨k_1_233, List.forall_mem_cons.mpr ⟨k_1_235, List.forall_mem_cons.mpr ⟨k_1_237, List.forall_mem_cons.mpr ⟨k_1_239, List.forall_mem_cons.mpr ⟨k_2_1, List.forall_mem_cons.mpr ⟨k_2_3, List.forall_mem_cons.mpr ⟨k_2_5, fun _ h => absurd h List.not_mem_nil⟩⟩⟩⟩⟩⟩⟩⟩⟩⟩⟩⟩⟩⟩⟩⟩⟩⟩⟩
noncomputable abbrev Q_Piece_hasPartNamed (K : zK) (D : va_G) (ca : Nat → ClassId) (ad : Nat → Int → Nat → Nat) (L : List Nat) (r : Int) (F : zF) (B : zB) (A : Nat → Prop) : Array Value → State → Outcome → State → Prop := va_Qi (S := Unit) (fun p _ => p = iI r) (fun _ => zPo D ca ad lnC K.2 L F B A) A
noncomputable def f_Piece_hasPartNamed_2 (K : zK) : Nat → Int → Int → Int → zF → zB → zO
  | 0, _, _, _, _, _ => none
  | n + 1, l3, l0, l1, F, B => if 0 ≤ l0 ∧ l0 < K.2 6 then if r32 l3 then if r32 (F 6 l0 1) then (if (F 6 l0 1) ≤ l3 then some (0, F, B) else if 0 ≤ l3 ∧ l3 < 4 then if 0 ≤ (B 6 l0 0 l3) ∧ (B 6 l0 0 l3) < K.2 4 then if r64 (F 4 (B 6 l0 0 l3) 0) then if r64 l1 then (if (zcmp (F 4 (B 6 l0 0 l3) 0) l1) = 0 then some (1, F, B) else f_Piece_hasPartNamed_2 K n (l3 + 1) l0 l1 F B) else none else none else none else none) else none else none else none
set_option maxHeartbeats 4000000 in
set_option maxRecDepth 100000 in
theorem b_Piece_hasPartNamed_2 {D : va_G} {ca : Nat → ClassId} {ad : Nat → Int → Nat → Nat} {L : List Nat} {aS vS : Nat → Nat} {A : Nat → Prop} {p : Program} {l : Launch} {e : Env} {s : State} {m : MethodId} {args : Array Value} {below : List Frame} {meth : Method} {c : Code} {K : zK} {r : Int} {F9 : zF} {B9 : zB} (X : zX D ca L aS vS A p s m args meth c prog_8_method_4_code 4 (Option.some Jvm.ClassFile.FieldType.boolean) "StaveHouse$Piece") : ∀ {n : Nat} {l3 : Int} {l0 : Int} {l1 : Int} {F : zF} {B : zB} {H : Heap} {locs : List Loc} {ls : Array Slot}, f_Piece_hasPartNamed_2 K n l3 l0 l1 F B = some (r, F9, B9) → zH D ca ad lnC K.2 L F B A H → va_S A s.heap H locs → lv_has ls 4 [(3, .int (iI l3)), (0, .ref (ad 6 l0 0)), (1, .long (lI l1))] → W p l e ({ frames := 0, cells := 0, slots := 0, locals := 0 } : Room) s m args below meth c H locs 0 0 (MQ below (Q_Piece_hasPartNamed K D ca ad L r F9 B9 A) args s 0 0 A) (F0 m 2 ls []) := by
  obtain ⟨hx, hb, hr, hml, hown, hts, hlk, hK, hA, hL, hX⟩ := id X
  intro n
  induction n with
  | zero =>
    intros
    rename_i hf _ _ _
    cases hf
  | succ n ih =>
    intro l3 l0 l1 F B H locs ls hf hZ hS hl
    replace hf : (if 0 ≤ l0 ∧ l0 < K.2 6 then if r32 l3 then if r32 (F 6 l0 1) then (if (F 6 l0 1) ≤ l3 then some (0, F, B) else if 0 ≤ l3 ∧ l3 < 4 then if 0 ≤ (B 6 l0 0 l3) ∧ (B 6 l0 0 l3) < K.2 4 then if r64 (F 4 (B 6 l0 0 l3) 0) then if r64 l1 then (if (zcmp (F 4 (B 6 l0 0 l3) 0) l1) = 0 then some (1, F, B) else f_Piece_hasPartNamed_2 K n (l3 + 1) l0 l1 F B) else none else none else none else none) else none else none else none) = some (r, F9, B9) := hf
    refine lv_iload_n hx hb d_8_4_2 rfl (lv_at hl 0 rfl) ?_
    refine lv_aload_n hx hb d_8_4_3 rfl (lv_at hl 1 rfl) ?_
    obtain ⟨g1, hf⟩ := gif hf
    refine zget (ci := 6) (C := RX6) (T := TX6) (v := .int (iI (F 6 l0 1))) (k := 1) hx hb hts inW_6 hown hK hZ g1.1 g1.2 rfl (by decide) k_2_190 rfl d_8_4_4 ?_
    obtain ⟨g2, hf⟩ := gif hf
    obtain ⟨g3, hf⟩ := gif hf
    refine zge (tgt := 32) hx hb g2 g3 d_8_4_7 (by decide) (fun h4 => ?_) (fun h4 => ?_)
    · replace hf := gpos hf h4
      refine lv_iconst (v := iI 0) hx hb d_8_4_32 rfl ?_
      cases hf
      exact W.zret hx hb hr rfl (fun t ht hW => ⟨⟨_, (), rfl, rfl, by rw [ht]; exact hZ, va_K.moved hW.alike hK⟩, hS.F ht⟩) hS.2.2 d_8_4_33 hlk
    · replace hf := gneg hf h4
      refine lv_aload_n hx hb d_8_4_10 rfl (lv_at hl 1 rfl) ?_
      refine zget (ci := 6) (C := RX6) (T := TX6) (v := .ref (ad 6 l0 (0 + 1))) (k := 0) hx hb hts inW_6 hown hK hZ g1.1 g1.2 rfl (by decide) k_2_185 rfl d_8_4_11 ?_
      refine lv_iload_n hx hb d_8_4_14 rfl (lv_at hl 0 rfl) ?_
      obtain ⟨g5, hf⟩ := gif hf
      refine zaldR (t := 4) (x := 6) (ci := 6) (k := 0) hx hb hK rfl rfl hZ g1.1 g1.2 rfl (Nat.le_of_ble_eq_true rfl) g5.1 g5.2 d_8_4_15 ?_
      obtain ⟨g6, hf⟩ := gif hf
      refine zunrf g6.1 ?_
      refine zget (ci := 4) (C := RX4) (T := TX4) (v := .long (lI (F 4 (B 6 l0 0 l3) 0))) (k := 0) hx hb hts inW_4 hown hK hZ g6.1 g6.2 rfl (by decide) k_4_115 rfl d_8_4_16 ?_
      refine lv_lload_n hx hb d_8_4_19 rfl (lv_at hl 2 rfl) ?_
      obtain ⟨g7, hf⟩ := gif hf
      obtain ⟨g8, hf⟩ := gif hf
      refine zcmp_r hx hb g7 g8 d_8_4_20 ?_
      refine z0ne (tgt := 26) hx hb zcmp_32 d_8_4_21 (by decide) (fun h9 => ?_) (fun h9 => ?_)
      · replace hf := gneg hf h9
        refine lv_iinc (v := iI (l3 + 1)) (lv' := [(3, .int (iI (l3 + 1))), (0, .ref (ad 6 l0 0)), (1, .long (lI l1))]) hx hb d_8_4_26 hl (k := 0) rfl (iI_add _ 1) (by decide) rfl (fun ls hl => ?_)
        refine lv_goto (tgt := 2) hx hb d_8_4_29 (by decide) ?_
        exact ih hf hZ hS (lv_sub hl [0, 1, 2] rfl)
      · replace hf := gpos hf h9
        refine lv_iconst (v := iI 1) hx hb d_8_4_24 rfl ?_
        cases hf
        exact W.zret hx hb hr rfl (fun t ht hW => ⟨⟨_, (), rfl, rfl, by rw [ht]; exact hZ, va_K.moved hW.alike hK⟩, hS.F ht⟩) hS.2.2 d_8_4_25 hlk

noncomputable def f_Piece_hasPartNamed (K : zK) (l0 : Int) (l1 : Int) (F : zF) (B : zB) : zO := f_Piece_hasPartNamed_2 K K.1 0 l0 l1 F B
set_option maxHeartbeats 4000000 in
set_option maxRecDepth 100000 in
theorem c_Piece_hasPartNamed {l : Launch} {D : va_G} {ca : Nat → ClassId} {ad : Nat → Int → Nat → Nat} {L : List Nat} {aS vS : Nat → Nat} {sz : Nat} {K : zK}  {l0 : Int} {l1 : Int} {F F9 : zF} {B B9 : zB} {r : Int} (hf : f_Piece_hasPartNamed K l0 l1 F B = some (r, F9, B9)) : Met l ({ cls := "StaveHouse$Piece", name := "hasPartNamed", desc := "(J)Z" } : Jvm.MethodName) (Cond.code ({ cls := "StaveHouse$Piece", name := "hasPartNamed", desc := "(J)Z" } : Jvm.MethodName) prog_8_method_4_code 4 (Option.some Jvm.ClassFile.FieldType.boolean) :: wAll) ({ frames := 0, cells := 0, slots := 0, locals := 0 } : Room) (va_Pc [.ref (ad 6 l0 0), .long (lI l1)] (zPre D ca ad lnC K.2 L aS vS F B sz)) (Q_Piece_hasPartNamed K D ca ad L r F9 B9 (zA L sz)) 0 0 (zA L sz) := by
  refine zMet (Qc := Q_Piece_hasPartNamed K D ca ad L r F9 B9) (lv := [(0, .ref (ad 6 l0 0)), (1, .long (lI l1))]) (by decide) (Nat.le_of_ble_eq_true rfl) rfl (fun A p e s m below meth c ls X hZ hS hl => ?_)
  obtain ⟨hx, hb, hr, hml, hown, hts, hlk, hK, hA, hL, hX⟩ := id X
  replace hf : (f_Piece_hasPartNamed_2 K K.1 0 l0 l1 F B) = some (r, F9, B9) := hf
  refine lv_iconst (v := iI 0) hx hb d_8_4_0 rfl ?_
  refine lv_istore_n (lv' := [(3, .int (iI 0)), (0, .ref (ad 6 l0 0)), (1, .long (lI l1))]) hx hb d_8_4_1 rfl hl (by decide) rfl (fun ls hl => ?_)
  exact b_Piece_hasPartNamed_2 X hf hZ hS (lv_sub hl [0, 1, 2] rfl)

noncomputable abbrev Q_Part_clear (K : zK) (D : va_G) (ca : Nat → ClassId) (ad : Nat → Int → Nat → Nat) (L : List Nat) (r : Int) (F : zF) (B : zB) (A : Nat → Prop) : Array Value → State → Outcome → State → Prop := va_Qv (S := Unit) (fun _ => True) (fun _ => zPo D ca ad lnC K.2 L F B A) A
noncomputable def f_Part_clear (K : zK) (l0 : Int) (F : zF) (B : zB) : zO := if 0 ≤ l0 ∧ l0 < K.2 4 then some (0, (zup3 (zup3 (zup3 F 4 l0 6 0) 4 l0 10 0) 4 l0 7 0), B) else none
set_option maxHeartbeats 4000000 in
set_option maxRecDepth 100000 in
theorem c_Part_clear {l : Launch} {D : va_G} {ca : Nat → ClassId} {ad : Nat → Int → Nat → Nat} {L : List Nat} {aS vS : Nat → Nat} {sz : Nat} {K : zK}  {l0 : Int} {F F9 : zF} {B B9 : zB} {r : Int} (hf : f_Part_clear K l0 F B = some (r, F9, B9)) : Met l ({ cls := "StaveHouse$Part", name := "clear", desc := "()V" } : Jvm.MethodName) (Cond.code ({ cls := "StaveHouse$Part", name := "clear", desc := "()V" } : Jvm.MethodName) prog_6_method_2_code 1 (Option.none : Option Jvm.ClassFile.FieldType) :: wAll) ({ frames := 0, cells := 0, slots := 0, locals := 0 } : Room) (va_Pc [.ref (ad 4 l0 0)] (zPre D ca ad lnC K.2 L aS vS F B sz)) (Q_Part_clear K D ca ad L r F9 B9 (zA L sz)) 0 0 (zA L sz) := by
  refine zMet (Qc := Q_Part_clear K D ca ad L r F9 B9) (lv := [(0, .ref (ad 4 l0 0))]) (by decide) (Nat.le_of_ble_eq_true rfl) rfl (fun A p e s m below meth c ls X hZ hS hl => ?_)
  obtain ⟨hx, hb, hr, hml, hown, hts, hlk, hK, hA, hL, hX⟩ := id X
  replace hf : (if 0 ≤ l0 ∧ l0 < K.2 4 then some (0, (zup3 (zup3 (zup3 F 4 l0 6 0) 4 l0 10 0) 4 l0 7 0), B) else none) = some (r, F9, B9) := hf
  refine lv_aload_n hx hb d_6_2_0 rfl (lv_at hl 0 rfl) ?_
  refine lv_iconst (v := iI 0) hx hb d_6_2_1 rfl ?_
  obtain ⟨g1, hf⟩ := gif hf
  refine zput (ci := 4) (C := RX4) (T := TX4) (k := 6) (v := 0) (w := .int (iI 0)) hx hb hts inW_4 tyX4 tyX4_ok nmX4 hown hK hZ hS g1.1 g1.2 rfl (by decide) k_4_135 rfl (fun G h => congrArg (fun q => Value.int (iI q)) h) rfl rfl (zno (by decide)) d_6_2_2 (fun H2 locs2 hZ2 hS2 => ?_)
  refine lv_aload_n hx hb d_6_2_5 rfl (lv_at hl 0 rfl) ?_
  refine lv_iconst (v := iI 0) hx hb d_6_2_6 rfl ?_
  refine zput (ci := 4) (C := RX4) (T := TX4) (k := 10) (v := 0) (w := .int (iI 0)) hx hb hts inW_4 tyX4 tyX4_ok nmX4 hown hK hZ2 hS2 g1.1 g1.2 rfl (by decide) k_4_148 rfl (fun G h => congrArg (fun q => Value.int (iI q)) h) rfl rfl (zno (by decide)) d_6_2_7 (fun H3 locs3 hZ3 hS3 => ?_)
  refine lv_aload_n hx hb d_6_2_10 rfl (lv_at hl 0 rfl) ?_
  refine lv_lconst (v := lI 0) hx hb d_6_2_11 (by decide) ?_
  refine zput (ci := 4) (C := RX4) (T := TX4) (k := 7) (v := 0) (w := .long (lI 0)) hx hb hts inW_4 tyX4 tyX4_ok nmX4 hown hK hZ3 hS3 g1.1 g1.2 rfl (by decide) k_4_140 rfl (fun G h => congrArg (fun q => Value.long (lI q)) h) rfl rfl (zno (by decide)) d_6_2_12 (fun H4 locs4 hZ4 hS4 => ?_)
  cases hf
  exact W.vret hx hb hr (fun t ht hW => ⟨⟨(), rfl, trivial, by rw [ht]; exact hZ4, va_K.moved hW.alike hK⟩, hS4.F ht⟩) hS4.2.2 d_6_2_15 hlk

noncomputable abbrev Q_Piece_barLength (K : zK) (D : va_G) (ca : Nat → ClassId) (ad : Nat → Int → Nat → Nat) (L : List Nat) (r : Int) (F : zF) (B : zB) (A : Nat → Prop) : Array Value → State → Outcome → State → Prop := va_Ql (S := Unit) (fun p _ => p = lI r) (fun _ => zPo D ca ad lnC K.2 L F B A) A
noncomputable def f_Piece_barLength (K : zK) (l0 : Int) (F : zF) (B : zB) : zO := if 0 ≤ l0 ∧ l0 < K.2 6 then if r32 (F 6 l0 5) then if r32 (zmax (F 6 l0 5) 1) then if ¬ lI (zmax (F 6 l0 5) 1) = 0 then if r32 (F 6 l0 4) then some ((zldv 812851200 (zmax (F 6 l0 5) 1)) * (F 6 l0 4), F, B) else none else none else none else none else none
set_option maxHeartbeats 4000000 in
set_option maxRecDepth 100000 in
theorem c_Piece_barLength {l : Launch} {D : va_G} {ca : Nat → ClassId} {ad : Nat → Int → Nat → Nat} {L : List Nat} {aS vS : Nat → Nat} {sz : Nat} {K : zK}  {l0 : Int} {F F9 : zF} {B B9 : zB} {r : Int} (hf : f_Piece_barLength K l0 F B = some (r, F9, B9)) : Met l ({ cls := "StaveHouse$Piece", name := "barLength", desc := "()J" } : Jvm.MethodName) (Cond.code ({ cls := "StaveHouse$Piece", name := "barLength", desc := "()J" } : Jvm.MethodName) prog_8_method_5_code 1 (Option.some Jvm.ClassFile.FieldType.long) :: wAll) ({ frames := 1, cells := 0, slots := 0, locals := 15 } : Room) (va_Pc [.ref (ad 6 l0 0)] (zPre D ca ad lnC K.2 L aS vS F B sz)) (Q_Piece_barLength K D ca ad L r F9 B9 (zA L sz)) 0 0 (zA L sz) := by
  refine zMet (Qc := Q_Piece_barLength K D ca ad L r F9 B9) (lv := [(0, .ref (ad 6 l0 0))]) (by decide) (Nat.le_of_ble_eq_true rfl) rfl (fun A p e s m below meth c ls X hZ hS hl => ?_)
  obtain ⟨hx, hb, hr, hml, hown, hts, hlk, hK, hA, hL, hX⟩ := id X
  replace hf : (if 0 ≤ l0 ∧ l0 < K.2 6 then if r32 (F 6 l0 5) then if r32 (zmax (F 6 l0 5) 1) then if ¬ lI (zmax (F 6 l0 5) 1) = 0 then if r32 (F 6 l0 4) then some ((zldv 812851200 (zmax (F 6 l0 5) 1)) * (F 6 l0 4), F, B) else none else none else none else none else none) = some (r, F9, B9) := hf
  refine lv_ldc2 hx hb hown (hts _ k_4_193) d_8_5_0 ?_
  refine W.eq (g2 := F0 m 3 ls [.long (lI 812851200)]) rfl ?_
  refine lv_aload_n hx hb d_8_5_3 rfl (lv_at hl 0 rfl) ?_
  obtain ⟨g1, hf⟩ := gif hf
  refine zget (ci := 6) (C := RX6) (T := TX6) (v := .int (iI (F 6 l0 5))) (k := 5) hx hb hts inW_6 hown hK hZ g1.1 g1.2 rfl (by decide) k_2_212 rfl d_8_5_4 ?_
  refine lv_iconst (v := iI 1) hx hb d_8_5_7 rfl ?_
  obtain ⟨g2, hf⟩ := gif hf
  refine va_mmax hx hb (by rw [hml]; exact hl.1.symm) hown (hts _ k_4_194) (hts _ k_1_39) (hts _ k_1_3) (hts _ k_1_40) (Nat.le_of_ble_eq_true rfl) (Nat.le_of_ble_eq_true rfl) (Nat.le_of_ble_eq_true rfl) (Nat.le_of_ble_eq_true rfl) d_8_5_8 ?_
  rw [zmax_e g2 (by decide)]
  obtain ⟨g3, hf⟩ := gif hf
  refine zi2l hx hb g3 d_8_5_11 ?_
  obtain ⟨g4, hf⟩ := gif hf
  refine zldv_r hx hb g4 d_8_5_12 ?_
  refine lv_aload_n hx hb d_8_5_13 rfl (lv_at hl 0 rfl) ?_
  refine zget (ci := 6) (C := RX6) (T := TX6) (v := .int (iI (F 6 l0 4))) (k := 4) hx hb hts inW_6 hown hK hZ g1.1 g1.2 rfl (by decide) k_2_207 rfl d_8_5_14 ?_
  obtain ⟨g5, hf⟩ := gif hf
  refine zi2l hx hb g5 d_8_5_17 ?_
  refine zlmul hx hb d_8_5_18 ?_
  cases hf
  exact W.lret hx hb hr (fun t ht hW => ⟨⟨_, (), rfl, rfl, by rw [ht]; exact hZ, va_K.moved hW.alike hK⟩, hS.F ht⟩) hS.2.2 d_8_5_19 hlk

noncomputable abbrev Q_Walker_refuse (K : zK) (D : va_G) (ca : Nat → ClassId) (ad : Nat → Int → Nat → Nat) (L : List Nat) (r : Int) (F : zF) (B : zB) (A : Nat → Prop) : Array Value → State → Outcome → State → Prop := va_Qv (S := Unit) (fun _ => True) (fun _ => zPo D ca ad lnC K.2 L F B A) A
noncomputable def f_Walker_refuse_17 (K : zK)  (F : zF) (B : zB) : zO := some (0, F, B)
set_option maxHeartbeats 4000000 in
set_option maxRecDepth 100000 in
theorem b_Walker_refuse_17 {D : va_G} {ca : Nat → ClassId} {ad : Nat → Int → Nat → Nat} {L : List Nat} {aS vS : Nat → Nat} {A : Nat → Prop} {p : Program} {l : Launch} {e : Env} {s : State} {m : MethodId} {args : Array Value} {below : List Frame} {meth : Method} {c : Code} {K : zK} {r : Int} {F9 : zF} {B9 : zB} (X : zX D ca L aS vS A p s m args meth c prog_13_method_3_code 3 (Option.none : Option Jvm.ClassFile.FieldType) "StaveHouse$Walker")  {F : zF} {B : zB} {H : Heap} {locs : List Loc} {ls : Array Slot} (hf : f_Walker_refuse_17 K  F B = some (r, F9, B9)) (hZ : zH D ca ad lnC K.2 L F B A H) (hS : va_S A s.heap H locs) (hl : lv_has ls 3 []) : W p l e ({ frames := 0, cells := 0, slots := 0, locals := 0 } : Room) s m args below meth c H locs 0 0 (MQ below (Q_Walker_refuse K D ca ad L r F9 B9 A) args s 0 0 A) (F0 m 17 ls []) := by
  obtain ⟨hx, hb, hr, hml, hown, hts, hlk, hK, hA, hL, hX⟩ := id X
  replace hf : (some (0, F, B)) = some (r, F9, B9) := hf
  cases hf
  exact W.vret hx hb hr (fun t ht hW => ⟨⟨(), rfl, trivial, by rw [ht]; exact hZ, va_K.moved hW.alike hK⟩, hS.F ht⟩) hS.2.2 d_13_3_17 hlk

noncomputable def f_Walker_refuse (K : zK) (l0 : Int) (l1 : Int) (l2 : Int) (F : zF) (B : zB) : zO := if 0 ≤ l0 ∧ l0 < K.2 11 then if r32 (F 11 l0 2) then (if (F 11 l0 2) = 0 then f_Walker_refuse_17 K (zup3 F 11 l0 2 (l1 + (16 * l2))) B else f_Walker_refuse_17 K F B) else none else none
set_option maxHeartbeats 4000000 in
set_option maxRecDepth 100000 in
theorem c_Walker_refuse {l : Launch} {D : va_G} {ca : Nat → ClassId} {ad : Nat → Int → Nat → Nat} {L : List Nat} {aS vS : Nat → Nat} {sz : Nat} {K : zK}  {l0 : Int} {l1 : Int} {l2 : Int} {F F9 : zF} {B B9 : zB} {r : Int} (hf : f_Walker_refuse K l0 l1 l2 F B = some (r, F9, B9)) : Met l ({ cls := "StaveHouse$Walker", name := "refuse", desc := "(II)V" } : Jvm.MethodName) (Cond.code ({ cls := "StaveHouse$Walker", name := "refuse", desc := "(II)V" } : Jvm.MethodName) prog_13_method_3_code 3 (Option.none : Option Jvm.ClassFile.FieldType) :: wAll) ({ frames := 0, cells := 0, slots := 0, locals := 0 } : Room) (va_Pc [.ref (ad 11 l0 0), .int (iI l1), .int (iI l2)] (zPre D ca ad lnC K.2 L aS vS F B sz)) (Q_Walker_refuse K D ca ad L r F9 B9 (zA L sz)) 0 0 (zA L sz) := by
  refine zMet (Qc := Q_Walker_refuse K D ca ad L r F9 B9) (lv := [(0, .ref (ad 11 l0 0)), (1, .int (iI l1)), (2, .int (iI l2))]) (by decide) (Nat.le_of_ble_eq_true rfl) rfl (fun A p e s m below meth c ls X hZ hS hl => ?_)
  obtain ⟨hx, hb, hr, hml, hown, hts, hlk, hK, hA, hL, hX⟩ := id X
  replace hf : (if 0 ≤ l0 ∧ l0 < K.2 11 then if r32 (F 11 l0 2) then (if (F 11 l0 2) = 0 then f_Walker_refuse_17 K (zup3 F 11 l0 2 (l1 + (16 * l2))) B else f_Walker_refuse_17 K F B) else none else none) = some (r, F9, B9) := hf
  refine lv_aload_n hx hb d_13_3_0 rfl (lv_at hl 0 rfl) ?_
  obtain ⟨g1, hf⟩ := gif hf
  refine zget (ci := 11) (C := RX11) (T := TX11) (v := .int (iI (F 11 l0 2))) (k := 2) hx hb hts inW_11 hown hK hZ g1.1 g1.2 rfl (by decide) k_1_192 rfl d_13_3_1 ?_
  obtain ⟨g2, hf⟩ := gif hf
  refine z0ne (tgt := 17) hx hb g2 d_13_3_4 (by decide) (fun h3 => ?_) (fun h3 => ?_)
  · replace hf := gneg hf h3
    exact b_Walker_refuse_17 X hf hZ hS (lv_sub hl [] rfl)
  · replace hf := gpos hf h3
    refine lv_aload_n hx hb d_13_3_7 rfl (lv_at hl 0 rfl) ?_
    refine lv_iload_n hx hb d_13_3_8 rfl (lv_at hl 1 rfl) ?_
    refine lv_bipush (v := iI 16) hx hb d_13_3_9 (by decide) ?_
    refine lv_iload_n hx hb d_13_3_11 rfl (lv_at hl 2 rfl) ?_
    refine zmul hx hb d_13_3_12 ?_
    refine zadd hx hb d_13_3_13 ?_
    refine zput (ci := 11) (C := RX11) (T := TX11) (k := 2) (v := (l1 + (16 * l2))) (w := .int (iI (l1 + (16 * l2)))) hx hb hts inW_11 tyX11 tyX11_ok nmX11 hown hK hZ hS g1.1 g1.2 rfl (by decide) k_1_192 rfl (fun G h => congrArg (fun q => Value.int (iI q)) h) rfl rfl (zno (by decide)) d_13_3_14 (fun H4 locs4 hZ4 hS4 => ?_)
    exact b_Walker_refuse_17 X hf hZ4 hS4 (lv_sub hl [] rfl)

noncomputable abbrev Q_Walker_slowed (K : zK) (D : va_G) (ca : Nat → ClassId) (ad : Nat → Int → Nat → Nat) (L : List Nat) (r : Int) (F : zF) (B : zB) (A : Nat → Prop) : Array Value → State → Outcome → State → Prop := va_Qi (S := Unit) (fun p _ => p = iI r) (fun _ => zPo D ca ad lnC K.2 L F B A) A
noncomputable def f_Walker_slowed_122 (K : zK) (s0 : Int) (F : zF) (B : zB) : zO := some (s0, F, B)
set_option maxHeartbeats 4000000 in
set_option maxRecDepth 100000 in
theorem b_Walker_slowed_122 {D : va_G} {ca : Nat → ClassId} {ad : Nat → Int → Nat → Nat} {L : List Nat} {aS vS : Nat → Nat} {A : Nat → Prop} {p : Program} {l : Launch} {e : Env} {s : State} {m : MethodId} {args : Array Value} {below : List Frame} {meth : Method} {c : Code} {K : zK} {r : Int} {F9 : zF} {B9 : zB} (X : zX D ca L aS vS A p s m args meth c prog_13_method_12_code 5 (Option.some Jvm.ClassFile.FieldType.int) "StaveHouse$Walker") {s0 : Int} {F : zF} {B : zB} {H : Heap} {locs : List Loc} {ls : Array Slot} (hf : f_Walker_slowed_122 K s0 F B = some (r, F9, B9)) (hZ : zH D ca ad lnC K.2 L F B A H) (hS : va_S A s.heap H locs) (hl : lv_has ls 5 []) : W p l e ({ frames := 0, cells := 0, slots := 0, locals := 0 } : Room) s m args below meth c H locs 0 0 (MQ below (Q_Walker_slowed K D ca ad L r F9 B9 A) args s 0 0 A) (F0 m 122 ls [.int (iI s0)]) := by
  obtain ⟨hx, hb, hr, hml, hown, hts, hlk, hK, hA, hL, hX⟩ := id X
  replace hf : (some (s0, F, B)) = some (r, F9, B9) := hf
  cases hf
  exact W.iret hx hb hr (fun t ht hW => ⟨⟨_, (), rfl, rfl, by rw [ht]; exact hZ, va_K.moved hW.alike hK⟩, hS.F ht⟩) hS.2.2 d_13_12_122 hlk

noncomputable def f_Walker_slowed_70 (rec59 : Int → Int → Int → zF → zB → zO) (K : zK) : Nat → Int → Int → Int → Int → zF → zB → zO
  | 0, _, _, _, _, _, _ => none
  | n + 1, l4, l3, l2, l0, F, B => if 0 ≤ l0 ∧ l0 < K.2 11 then if 0 ≤ l3 ∧ l3 < 4 then if r32 l4 then if r32 (B 11 l0 14 l3) then (if (B 11 l0 14 l3) ≤ l4 then rec59 (l3 + 1) l2 l0 F B else if 0 ≤ l3 ∧ l3 < ztl 6 then if r32 (l2 * (ztv 6 l3)) then (if (l2 * (ztv 6 l3)) ≤ 1024 then f_Walker_slowed_70 rec59 K n (l4 + 1) l3 (l2 * (ztv 6 l3)) l0 F B else some ((-1), F, B)) else none else none) else none else none else none else none
set_option maxHeartbeats 4000000 in
set_option maxRecDepth 100000 in
theorem b_Walker_slowed_70 {D : va_G} {ca : Nat → ClassId} {ad : Nat → Int → Nat → Nat} {L : List Nat} {aS vS : Nat → Nat} {A : Nat → Prop} {p : Program} {l : Launch} {e : Env} {s : State} {m : MethodId} {args : Array Value} {below : List Frame} {meth : Method} {c : Code} {K : zK} {r : Int} {F9 : zF} {B9 : zB} (X : zX D ca L aS vS A p s m args meth c prog_13_method_12_code 5 (Option.some Jvm.ClassFile.FieldType.int) "StaveHouse$Walker") {rec59 : Int → Int → Int → zF → zB → zO} (hrec59 : ∀ {l3 : Int} {l2 : Int} {l0 : Int} {F : zF} {B : zB} {H : Heap} {locs : List Loc} {ls : Array Slot}, rec59 l3 l2 l0 F B = some (r, F9, B9) → zH D ca ad lnC K.2 L F B A H → va_S A s.heap H locs → lv_has ls 5 [(3, .int (iI l3)), (2, .int (iI l2)), (0, .ref (ad 11 l0 0))] → W p l e ({ frames := 0, cells := 0, slots := 0, locals := 0 } : Room) s m args below meth c H locs 0 0 (MQ below (Q_Walker_slowed K D ca ad L r F9 B9 A) args s 0 0 A) (F0 m 59 ls [])) : ∀ {n : Nat} {l4 : Int} {l3 : Int} {l2 : Int} {l0 : Int} {F : zF} {B : zB} {H : Heap} {locs : List Loc} {ls : Array Slot}, f_Walker_slowed_70 rec59 K n l4 l3 l2 l0 F B = some (r, F9, B9) → zH D ca ad lnC K.2 L F B A H → va_S A s.heap H locs → lv_has ls 5 [(4, .int (iI l4)), (3, .int (iI l3)), (2, .int (iI l2)), (0, .ref (ad 11 l0 0))] → W p l e ({ frames := 0, cells := 0, slots := 0, locals := 0 } : Room) s m args below meth c H locs 0 0 (MQ below (Q_Walker_slowed K D ca ad L r F9 B9 A) args s 0 0 A) (F0 m 70 ls []) := by
  obtain ⟨hx, hb, hr, hml, hown, hts, hlk, hK, hA, hL, hX⟩ := id X
  intro n
  induction n with
  | zero =>
    intros
    rename_i hf _ _ _
    cases hf
  | succ n ih =>
    intro l4 l3 l2 l0 F B H locs ls hf hZ hS hl
    replace hf : (if 0 ≤ l0 ∧ l0 < K.2 11 then if 0 ≤ l3 ∧ l3 < 4 then if r32 l4 then if r32 (B 11 l0 14 l3) then (if (B 11 l0 14 l3) ≤ l4 then rec59 (l3 + 1) l2 l0 F B else if 0 ≤ l3 ∧ l3 < ztl 6 then if r32 (l2 * (ztv 6 l3)) then (if (l2 * (ztv 6 l3)) ≤ 1024 then f_Walker_slowed_70 rec59 K n (l4 + 1) l3 (l2 * (ztv 6 l3)) l0 F B else some ((-1), F, B)) else none else none) else none else none else none else none) = some (r, F9, B9) := hf
    refine lv_iload hx hb d_13_12_70 (lv_at hl 0 rfl) ?_
    refine lv_aload_n hx hb d_13_12_72 rfl (lv_at hl 3 rfl) ?_
    obtain ⟨g17, hf⟩ := gif hf
    refine zget (ci := 11) (C := RX11) (T := TX11) (v := .ref (ad 11 l0 (14 + 1))) (k := 14) hx hb hts inW_11 hown hK hZ g17.1 g17.2 rfl (by decide) k_1_204 rfl d_13_12_73 ?_
    refine lv_iload_n hx hb d_13_12_76 rfl (lv_at hl 1 rfl) ?_
    obtain ⟨g18, hf⟩ := gif hf
    refine zald (ci := 11) (k := 14) hx hb hK rfl hZ g17.1 g17.2 rfl (Nat.le_of_ble_eq_true rfl) g18.1 g18.2 d_13_12_77 ?_
    obtain ⟨g19, hf⟩ := gif hf
    obtain ⟨g20, hf⟩ := gif hf
    refine zge (tgt := 104) hx hb g19 g20 d_13_12_78 (by decide) (fun h21 => ?_) (fun h21 => ?_)
    · replace hf := gpos hf h21
      refine lv_iinc (v := iI (l3 + 1)) (lv' := [(3, .int (iI (l3 + 1))), (4, .int (iI l4)), (2, .int (iI l2)), (0, .ref (ad 11 l0 0))]) hx hb d_13_12_104 hl (k := 1) rfl (iI_add _ 1) (by decide) rfl (fun ls hl => ?_)
      refine lv_goto (tgt := 59) hx hb d_13_12_107 (by decide) ?_
      exact hrec59 hf hZ hS (lv_sub hl [0, 2, 3] rfl)
    · replace hf := gneg hf h21
      refine lv_iload_n hx hb d_13_12_81 rfl (lv_at hl 2 rfl) ?_
      refine va_gets hx hb (hX.2.2.2.2.2.2 6 _ rfl).1 hS hown (hts _ k_4_220) (fun _ h => h) d_13_12_82 ?_
      refine W.eq (g2 := F0 m 85 ls [.ref (vS (1000 + 6)), .int (iI l2)]) rfl ?_
      refine lv_iload_n hx hb d_13_12_85 rfl (lv_at hl 1 rfl) ?_
      obtain ⟨g22, hf⟩ := gif hf
      refine va_ti (v := .int (iI (ztv 6 l3))) hx hb (ztI hX (by decide) (by decide)) hS (zt_in (by decide) g22) (ztI_v (by decide) g22) d_13_12_86 ?_
      refine zmul hx hb d_13_12_87 ?_
      refine lv_istore_n (lv' := [(2, .int (iI (l2 * (ztv 6 l3)))), (4, .int (iI l4)), (3, .int (iI l3)), (0, .ref (ad 11 l0 0))]) hx hb d_13_12_88 rfl hl (by decide) rfl (fun ls hl => ?_)
      refine lv_iload_n hx hb d_13_12_89 rfl (lv_at hl 0 rfl) ?_
      refine lv_sipush (v := iI 1024) hx hb d_13_12_90 (by decide) ?_
      obtain ⟨g23, hf⟩ := gif hf
      refine zle (tgt := 98) hx hb g23 (by decide) d_13_12_93 (by decide) (fun h24 => ?_) (fun h24 => ?_)
      · replace hf := gpos hf h24
        refine lv_iinc (v := iI (l4 + 1)) (lv' := [(4, .int (iI (l4 + 1))), (2, .int (iI (l2 * (ztv 6 l3)))), (3, .int (iI l3)), (0, .ref (ad 11 l0 0))]) hx hb d_13_12_98 hl (k := 1) rfl (iI_add _ 1) (by decide) rfl (fun ls hl => ?_)
        refine lv_goto (tgt := 70) hx hb d_13_12_101 (by decide) ?_
        exact ih hf hZ hS (lv_sub hl [0, 2, 1, 3] rfl)
      · replace hf := gneg hf h24
        refine lv_iconst (v := iI (-1)) hx hb d_13_12_96 rfl ?_
        cases hf
        exact W.iret hx hb hr (fun t ht hW => ⟨⟨_, (), rfl, rfl, by rw [ht]; exact hZ, va_K.moved hW.alike hK⟩, hS.F ht⟩) hS.2.2 d_13_12_97 hlk

noncomputable def f_Walker_slowed_59 (K : zK) : Nat → Int → Int → Int → zF → zB → zO
  | 0, _, _, _, _, _ => none
  | n + 1, l3, l2, l0, F, B => if r32 l3 then if r32 (ztl 6) then (if (ztl 6) ≤ l3 then if r32 l2 then (if l2 ≤ 1024 then f_Walker_slowed_122 K l2 F B else f_Walker_slowed_122 K (-1) F B) else none else f_Walker_slowed_70 (f_Walker_slowed_59 K n) K K.1 0 l3 l2 l0 F B) else none else none
set_option maxHeartbeats 4000000 in
set_option maxRecDepth 100000 in
theorem b_Walker_slowed_59 {D : va_G} {ca : Nat → ClassId} {ad : Nat → Int → Nat → Nat} {L : List Nat} {aS vS : Nat → Nat} {A : Nat → Prop} {p : Program} {l : Launch} {e : Env} {s : State} {m : MethodId} {args : Array Value} {below : List Frame} {meth : Method} {c : Code} {K : zK} {r : Int} {F9 : zF} {B9 : zB} (X : zX D ca L aS vS A p s m args meth c prog_13_method_12_code 5 (Option.some Jvm.ClassFile.FieldType.int) "StaveHouse$Walker") : ∀ {n : Nat} {l3 : Int} {l2 : Int} {l0 : Int} {F : zF} {B : zB} {H : Heap} {locs : List Loc} {ls : Array Slot}, f_Walker_slowed_59 K n l3 l2 l0 F B = some (r, F9, B9) → zH D ca ad lnC K.2 L F B A H → va_S A s.heap H locs → lv_has ls 5 [(3, .int (iI l3)), (2, .int (iI l2)), (0, .ref (ad 11 l0 0))] → W p l e ({ frames := 0, cells := 0, slots := 0, locals := 0 } : Room) s m args below meth c H locs 0 0 (MQ below (Q_Walker_slowed K D ca ad L r F9 B9 A) args s 0 0 A) (F0 m 59 ls []) := by
  obtain ⟨hx, hb, hr, hml, hown, hts, hlk, hK, hA, hL, hX⟩ := id X
  intro n
  induction n with
  | zero =>
    intros
    rename_i hf _ _ _
    cases hf
  | succ n ih =>
    intro l3 l2 l0 F B H locs ls hf hZ hS hl
    replace hf : (if r32 l3 then if r32 (ztl 6) then (if (ztl 6) ≤ l3 then if r32 l2 then (if l2 ≤ 1024 then f_Walker_slowed_122 K l2 F B else f_Walker_slowed_122 K (-1) F B) else none else f_Walker_slowed_70 (f_Walker_slowed_59 K n) K K.1 0 l3 l2 l0 F B) else none else none) = some (r, F9, B9) := hf
    refine lv_iload_n hx hb d_13_12_59 rfl (lv_at hl 0 rfl) ?_
    refine va_gets hx hb (hX.2.2.2.2.2.2 6 _ rfl).1 hS hown (hts _ k_4_220) (fun _ h => h) d_13_12_60 ?_
    refine W.eq (g2 := F0 m 63 ls [.ref (vS (1000 + 6)), .int (iI l3)]) rfl ?_
    refine va_tlen (v := iI (ztl 6)) hx hb (ztT hX (by decide)) hS (ztl_n _) d_13_12_63 ?_
    obtain ⟨g12, hf⟩ := gif hf
    obtain ⟨g13, hf⟩ := gif hf
    refine zge (tgt := 110) hx hb g12 g13 d_13_12_64 (by decide) (fun h14 => ?_) (fun h14 => ?_)
    · replace hf := gpos hf h14
      refine lv_iload_n hx hb d_13_12_110 rfl (lv_at hl 1 rfl) ?_
      refine lv_sipush (v := iI 1024) hx hb d_13_12_111 (by decide) ?_
      obtain ⟨g15, hf⟩ := gif hf
      refine zle (tgt := 121) hx hb g15 (by decide) d_13_12_114 (by decide) (fun h16 => ?_) (fun h16 => ?_)
      · replace hf := gpos hf h16
        refine lv_iload_n hx hb d_13_12_121 rfl (lv_at hl 1 rfl) ?_
        exact b_Walker_slowed_122 X hf hZ hS (lv_sub hl [] rfl)
      · replace hf := gneg hf h16
        refine lv_iconst (v := iI (-1)) hx hb d_13_12_117 rfl ?_
        refine lv_goto (tgt := 122) hx hb d_13_12_118 (by decide) ?_
        exact b_Walker_slowed_122 X hf hZ hS (lv_sub hl [] rfl)
    · replace hf := gneg hf h14
      refine lv_iconst (v := iI 0) hx hb d_13_12_67 rfl ?_
      refine lv_istore (lv' := [(4, .int (iI 0)), (3, .int (iI l3)), (2, .int (iI l2)), (0, .ref (ad 11 l0 0))]) hx hb d_13_12_68 hl (by decide) rfl (fun ls hl => ?_)
      exact b_Walker_slowed_70 X ih hf hZ hS (lv_sub hl [0, 1, 2, 3] rfl)

noncomputable def f_Walker_slowed_20 (rec4 : Int → Int → Int → zF → zB → zO) (K : zK) : Nat → Int → Int → Int → Int → zF → zB → zO
  | 0, _, _, _, _, _, _ => none
  | n + 1, l4, l3, l2, l0, F, B => if r32 l4 then (if 0 ≤ l4 then rec4 (l3 + 1) l2 l0 F B else if 0 ≤ l3 ∧ l3 < ztl 6 then if ¬ iI (ztv 6 l3) = 0 then if r32 (zrm l2 (ztv 6 l3)) then (if (zrm l2 (ztv 6 l3)) = 0 then f_Walker_slowed_20 rec4 K n (l4 + 1) l3 (zdv l2 (ztv 6 l3)) l0 F B else some ((-1), F, B)) else none else none else none) else none
set_option maxHeartbeats 4000000 in
set_option maxRecDepth 100000 in
theorem b_Walker_slowed_20 {D : va_G} {ca : Nat → ClassId} {ad : Nat → Int → Nat → Nat} {L : List Nat} {aS vS : Nat → Nat} {A : Nat → Prop} {p : Program} {l : Launch} {e : Env} {s : State} {m : MethodId} {args : Array Value} {below : List Frame} {meth : Method} {c : Code} {K : zK} {r : Int} {F9 : zF} {B9 : zB} (X : zX D ca L aS vS A p s m args meth c prog_13_method_12_code 5 (Option.some Jvm.ClassFile.FieldType.int) "StaveHouse$Walker") {rec4 : Int → Int → Int → zF → zB → zO} (hrec4 : ∀ {l3 : Int} {l2 : Int} {l0 : Int} {F : zF} {B : zB} {H : Heap} {locs : List Loc} {ls : Array Slot}, rec4 l3 l2 l0 F B = some (r, F9, B9) → zH D ca ad lnC K.2 L F B A H → va_S A s.heap H locs → lv_has ls 5 [(3, .int (iI l3)), (2, .int (iI l2)), (0, .ref (ad 11 l0 0))] → W p l e ({ frames := 0, cells := 0, slots := 0, locals := 0 } : Room) s m args below meth c H locs 0 0 (MQ below (Q_Walker_slowed K D ca ad L r F9 B9 A) args s 0 0 A) (F0 m 4 ls [])) : ∀ {n : Nat} {l4 : Int} {l3 : Int} {l2 : Int} {l0 : Int} {F : zF} {B : zB} {H : Heap} {locs : List Loc} {ls : Array Slot}, f_Walker_slowed_20 rec4 K n l4 l3 l2 l0 F B = some (r, F9, B9) → zH D ca ad lnC K.2 L F B A H → va_S A s.heap H locs → lv_has ls 5 [(4, .int (iI l4)), (3, .int (iI l3)), (2, .int (iI l2)), (0, .ref (ad 11 l0 0))] → W p l e ({ frames := 0, cells := 0, slots := 0, locals := 0 } : Room) s m args below meth c H locs 0 0 (MQ below (Q_Walker_slowed K D ca ad L r F9 B9 A) args s 0 0 A) (F0 m 20 ls []) := by
  obtain ⟨hx, hb, hr, hml, hown, hts, hlk, hK, hA, hL, hX⟩ := id X
  intro n
  induction n with
  | zero =>
    intros
    rename_i hf _ _ _
    cases hf
  | succ n ih =>
    intro l4 l3 l2 l0 F B H locs ls hf hZ hS hl
    replace hf : (if r32 l4 then (if 0 ≤ l4 then rec4 (l3 + 1) l2 l0 F B else if 0 ≤ l3 ∧ l3 < ztl 6 then if ¬ iI (ztv 6 l3) = 0 then if r32 (zrm l2 (ztv 6 l3)) then (if (zrm l2 (ztv 6 l3)) = 0 then f_Walker_slowed_20 rec4 K n (l4 + 1) l3 (zdv l2 (ztv 6 l3)) l0 F B else some ((-1), F, B)) else none else none else none) else none) = some (r, F9, B9) := hf
    refine lv_iload hx hb d_13_12_20 (lv_at hl 0 rfl) ?_
    obtain ⟨g6, hf⟩ := gif hf
    refine z0ge (tgt := 51) hx hb g6 d_13_12_22 (by decide) (fun h7 => ?_) (fun h7 => ?_)
    · replace hf := gpos hf h7
      refine lv_iinc (v := iI (l3 + 1)) (lv' := [(3, .int (iI (l3 + 1))), (4, .int (iI l4)), (2, .int (iI l2)), (0, .ref (ad 11 l0 0))]) hx hb d_13_12_51 hl (k := 1) rfl (iI_add _ 1) (by decide) rfl (fun ls hl => ?_)
      refine lv_goto (tgt := 4) hx hb d_13_12_54 (by decide) ?_
      exact hrec4 hf hZ hS (lv_sub hl [0, 2, 3] rfl)
    · replace hf := gneg hf h7
      refine lv_iload_n hx hb d_13_12_25 rfl (lv_at hl 2 rfl) ?_
      refine va_gets hx hb (hX.2.2.2.2.2.2 6 _ rfl).1 hS hown (hts _ k_4_220) (fun _ h => h) d_13_12_26 ?_
      refine W.eq (g2 := F0 m 29 ls [.ref (vS (1000 + 6)), .int (iI l2)]) rfl ?_
      refine lv_iload_n hx hb d_13_12_29 rfl (lv_at hl 1 rfl) ?_
      obtain ⟨g8, hf⟩ := gif hf
      refine va_ti (v := .int (iI (ztv 6 l3))) hx hb (ztI hX (by decide) (by decide)) hS (zt_in (by decide) g8) (ztI_v (by decide) g8) d_13_12_30 ?_
      obtain ⟨g9, hf⟩ := gif hf
      refine zrm_r hx hb g9 d_13_12_31 ?_
      obtain ⟨g10, hf⟩ := gif hf
      refine z0eq (tgt := 37) hx hb g10 d_13_12_32 (by decide) (fun h11 => ?_) (fun h11 => ?_)
      · replace hf := gpos hf h11
        refine lv_iload_n hx hb d_13_12_37 rfl (lv_at hl 2 rfl) ?_
        refine va_gets hx hb (hX.2.2.2.2.2.2 6 _ rfl).1 hS hown (hts _ k_4_220) (fun _ h => h) d_13_12_38 ?_
        refine W.eq (g2 := F0 m 41 ls [.ref (vS (1000 + 6)), .int (iI l2)]) rfl ?_
        refine lv_iload_n hx hb d_13_12_41 rfl (lv_at hl 1 rfl) ?_
        refine va_ti (v := .int (iI (ztv 6 l3))) hx hb (ztI hX (by decide) (by decide)) hS (zt_in (by decide) g8) (ztI_v (by decide) g8) d_13_12_42 ?_
        refine zdv_r hx hb g9 d_13_12_43 ?_
        refine lv_istore_n (lv' := [(2, .int (iI (zdv l2 (ztv 6 l3)))), (4, .int (iI l4)), (3, .int (iI l3)), (0, .ref (ad 11 l0 0))]) hx hb d_13_12_44 rfl hl (by decide) rfl (fun ls hl => ?_)
        refine lv_iinc (v := iI (l4 + 1)) (lv' := [(4, .int (iI (l4 + 1))), (2, .int (iI (zdv l2 (ztv 6 l3)))), (3, .int (iI l3)), (0, .ref (ad 11 l0 0))]) hx hb d_13_12_45 hl (k := 1) rfl (iI_add _ 1) (by decide) rfl (fun ls hl => ?_)
        refine lv_goto (tgt := 20) hx hb d_13_12_48 (by decide) ?_
        exact ih hf hZ hS (lv_sub hl [0, 2, 1, 3] rfl)
      · replace hf := gneg hf h11
        refine lv_iconst (v := iI (-1)) hx hb d_13_12_35 rfl ?_
        cases hf
        exact W.iret hx hb hr (fun t ht hW => ⟨⟨_, (), rfl, rfl, by rw [ht]; exact hZ, va_K.moved hW.alike hK⟩, hS.F ht⟩) hS.2.2 d_13_12_36 hlk

noncomputable def f_Walker_slowed_4 (K : zK) : Nat → Int → Int → Int → zF → zB → zO
  | 0, _, _, _, _, _ => none
  | n + 1, l3, l2, l0, F, B => if r32 l3 then if r32 (ztl 6) then (if (ztl 6) ≤ l3 then f_Walker_slowed_59 K K.1 0 l2 l0 F B else if 0 ≤ l0 ∧ l0 < K.2 11 then if 0 ≤ l3 ∧ l3 < 4 then f_Walker_slowed_20 (f_Walker_slowed_4 K n) K K.1 (B 11 l0 14 l3) l3 l2 l0 F B else none else none) else none else none
