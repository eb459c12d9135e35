theorem d_6_6_78 : decode prog_6_method_6_code 78 = .ok (.getfield 90, 3) := D_180 W_prog_6_method_6_code_64 14 rfl rfl rfl
theorem d_6_6_81 : decode prog_6_method_6_code 81 = .ok (.iload 4, 2) := D_21 W_prog_6_method_6_code_64 17 rfl rfl
theorem d_6_6_83 : decode prog_6_method_6_code 83 = .ok (.if_icmp .ne 24, 3) := D_160 W_prog_6_method_6_code_64 19 rfl rfl rfl
theorem d_6_6_86 : decode prog_6_method_6_code 86 = .ok (.lload 7, 2) := D_22 W_prog_6_method_6_code_64 22 rfl rfl
theorem d_6_6_88 : decode prog_6_method_6_code 88 = .ok (.aload_n 0, 1) := D_42 W_prog_6_method_6_code_64 24 rfl rfl
theorem d_6_6_89 : decode prog_6_method_6_code 89 = .ok (.getfield 11, 3) := D_180 W_prog_6_method_6_code_64 25 rfl rfl rfl
theorem d_6_6_92 : decode prog_6_method_6_code 92 = .ok (.iload 9, 2) := D_21 W_prog_6_method_6_code_64 28 rfl rfl
theorem d_6_6_94 : decode prog_6_method_6_code 94 = .ok (.aaload, 1) := D_50 W_prog_6_method_6_code_64 30 rfl rfl
theorem d_6_6_95 : decode prog_6_method_6_code 95 = .ok (.getfield 87, 3) := D_180 W_prog_6_method_6_code_64 31 rfl rfl rfl
theorem W_prog_6_method_6_code_96 : chW prog_6_method_6_code 96 [0, 87, 97, 55, 7, 132, 9, 1, 167, 255, 214, 22, 5, 32, 109, 22, 7, 10, 101, 32, 109, 148, 154, 0, 21, 22, 7, 22, 5, 101, 20, 0, 93, 113, 9, 148] := chW_of (by decide +kernel)
theorem d_6_6_98 : decode prog_6_method_6_code 98 = .ok (.ladd, 1) := D_97 W_prog_6_method_6_code_96 2 rfl rfl
theorem d_6_6_99 : decode prog_6_method_6_code 99 = .ok (.lstore 7, 2) := D_55 W_prog_6_method_6_code_96 3 rfl rfl
theorem d_6_6_101 : decode prog_6_method_6_code 101 = .ok (.iinc 9 1, 3) := D_132 W_prog_6_method_6_code_96 5 rfl rfl rfl
theorem d_6_6_104 : decode prog_6_method_6_code 104 = .ok (.goto (-42), 3) := D_167 W_prog_6_method_6_code_96 8 rfl rfl rfl
theorem d_6_6_107 : decode prog_6_method_6_code 107 = .ok (.lload 5, 2) := D_22 W_prog_6_method_6_code_96 11 rfl rfl
theorem d_6_6_109 : decode prog_6_method_6_code 109 = .ok (.lload_n 2, 1) := D_32 W_prog_6_method_6_code_96 13 rfl rfl
theorem d_6_6_110 : decode prog_6_method_6_code 110 = .ok (.ldiv, 1) := D_109 W_prog_6_method_6_code_96 14 rfl rfl
theorem d_6_6_111 : decode prog_6_method_6_code 111 = .ok (.lload 7, 2) := D_22 W_prog_6_method_6_code_96 15 rfl rfl
theorem d_6_6_113 : decode prog_6_method_6_code 113 = .ok (.lconst 1, 1) := D_10 W_prog_6_method_6_code_96 17 rfl rfl
theorem d_6_6_114 : decode prog_6_method_6_code 114 = .ok (.lsub, 1) := D_101 W_prog_6_method_6_code_96 18 rfl rfl
theorem d_6_6_115 : decode prog_6_method_6_code 115 = .ok (.lload_n 2, 1) := D_32 W_prog_6_method_6_code_96 19 rfl rfl
theorem d_6_6_116 : decode prog_6_method_6_code 116 = .ok (.ldiv, 1) := D_109 W_prog_6_method_6_code_96 20 rfl rfl
theorem d_6_6_117 : decode prog_6_method_6_code 117 = .ok (.lcmp, 1) := D_148 W_prog_6_method_6_code_96 21 rfl rfl
theorem d_6_6_118 : decode prog_6_method_6_code 118 = .ok (.ifCond .ne 21, 3) := D_154 W_prog_6_method_6_code_96 22 rfl rfl rfl
theorem d_6_6_121 : decode prog_6_method_6_code 121 = .ok (.lload 7, 2) := D_22 W_prog_6_method_6_code_96 25 rfl rfl
theorem d_6_6_123 : decode prog_6_method_6_code 123 = .ok (.lload 5, 2) := D_22 W_prog_6_method_6_code_96 27 rfl rfl
theorem d_6_6_125 : decode prog_6_method_6_code 125 = .ok (.lsub, 1) := D_101 W_prog_6_method_6_code_96 29 rfl rfl
theorem d_6_6_126 : decode prog_6_method_6_code 126 = .ok (.ldc2_w 93, 3) := D_20 W_prog_6_method_6_code_96 30 rfl rfl rfl
theorem W_prog_6_method_6_code_128 : chW prog_6_method_6_code 128 [93, 113, 9, 148, 154, 0, 7, 4, 167, 0, 4, 3, 172] := chW_of (by decide +kernel)
theorem d_6_6_129 : decode prog_6_method_6_code 129 = .ok (.lrem, 1) := D_113 W_prog_6_method_6_code_128 1 rfl rfl
theorem d_6_6_130 : decode prog_6_method_6_code 130 = .ok (.lconst 0, 1) := D_9 W_prog_6_method_6_code_128 2 rfl rfl
theorem d_6_6_131 : decode prog_6_method_6_code 131 = .ok (.lcmp, 1) := D_148 W_prog_6_method_6_code_128 3 rfl rfl
theorem d_6_6_132 : decode prog_6_method_6_code 132 = .ok (.ifCond .ne 7, 3) := D_154 W_prog_6_method_6_code_128 4 rfl rfl rfl
theorem d_6_6_135 : decode prog_6_method_6_code 135 = .ok (.iconst 1, 1) := D_4 W_prog_6_method_6_code_128 7 rfl rfl
theorem d_6_6_136 : decode prog_6_method_6_code 136 = .ok (.goto 4, 3) := D_167 W_prog_6_method_6_code_128 8 rfl rfl rfl
theorem d_6_6_140 : decode prog_6_method_6_code 140 = .ok (.ireturn, 1) := D_172 W_prog_6_method_6_code_128 12 rfl rfl
theorem d_6_6_139 : decode prog_6_method_6_code 139 = .ok (.iconst 0, 1) := D_3 W_prog_6_method_6_code_128 11 rfl rfl
theorem W_prog_3_method_6_code_0 : chW prog_3_method_6_code 0 [3, 62, 29, 42, 180, 0, 18, 162, 0, 31, 42, 180, 0, 9, 29, 46, 27, 160, 0, 15, 42, 180, 0, 15, 29, 46, 28, 160, 0, 5, 4, 172, 132, 3, 1, 167] := chW_of (by decide +kernel)
theorem d_3_6_0 : decode prog_3_method_6_code 0 = .ok (.iconst 0, 1) := D_3 W_prog_3_method_6_code_0 0 rfl rfl
theorem d_3_6_1 : decode prog_3_method_6_code 1 = .ok (.istore_n 3, 1) := D_62 W_prog_3_method_6_code_0 1 rfl rfl
theorem d_3_6_2 : decode prog_3_method_6_code 2 = .ok (.iload_n 3, 1) := D_29 W_prog_3_method_6_code_0 2 rfl rfl
theorem d_3_6_3 : decode prog_3_method_6_code 3 = .ok (.aload_n 0, 1) := D_42 W_prog_3_method_6_code_0 3 rfl rfl
theorem d_3_6_4 : decode prog_3_method_6_code 4 = .ok (.getfield 18, 3) := D_180 W_prog_3_method_6_code_0 4 rfl rfl rfl
theorem d_3_6_7 : decode prog_3_method_6_code 7 = .ok (.if_icmp .ge 31, 3) := D_162 W_prog_3_method_6_code_0 7 rfl rfl rfl
theorem W_prog_3_method_6_code_32 : chW prog_3_method_6_code 32 [132, 3, 1, 167, 255, 223, 3, 172] := chW_of (by decide +kernel)
theorem d_3_6_38 : decode prog_3_method_6_code 38 = .ok (.iconst 0, 1) := D_3 W_prog_3_method_6_code_32 6 rfl rfl
theorem d_3_6_39 : decode prog_3_method_6_code 39 = .ok (.ireturn, 1) := D_172 W_prog_3_method_6_code_32 7 rfl rfl
theorem d_3_6_10 : decode prog_3_method_6_code 10 = .ok (.aload_n 0, 1) := D_42 W_prog_3_method_6_code_0 10 rfl rfl
theorem d_3_6_11 : decode prog_3_method_6_code 11 = .ok (.getfield 9, 3) := D_180 W_prog_3_method_6_code_0 11 rfl rfl rfl
theorem d_3_6_14 : decode prog_3_method_6_code 14 = .ok (.iload_n 3, 1) := D_29 W_prog_3_method_6_code_0 14 rfl rfl
theorem d_3_6_15 : decode prog_3_method_6_code 15 = .ok (.iaload, 1) := D_46 W_prog_3_method_6_code_0 15 rfl rfl
theorem d_3_6_16 : decode prog_3_method_6_code 16 = .ok (.iload_n 1, 1) := D_27 W_prog_3_method_6_code_0 16 rfl rfl
theorem d_3_6_17 : decode prog_3_method_6_code 17 = .ok (.if_icmp .ne 15, 3) := D_160 W_prog_3_method_6_code_0 17 rfl rfl rfl
theorem d_3_6_20 : decode prog_3_method_6_code 20 = .ok (.aload_n 0, 1) := D_42 W_prog_3_method_6_code_0 20 rfl rfl
theorem d_3_6_21 : decode prog_3_method_6_code 21 = .ok (.getfield 15, 3) := D_180 W_prog_3_method_6_code_0 21 rfl rfl rfl
theorem d_3_6_24 : decode prog_3_method_6_code 24 = .ok (.iload_n 3, 1) := D_29 W_prog_3_method_6_code_0 24 rfl rfl
theorem d_3_6_25 : decode prog_3_method_6_code 25 = .ok (.iaload, 1) := D_46 W_prog_3_method_6_code_0 25 rfl rfl
theorem d_3_6_26 : decode prog_3_method_6_code 26 = .ok (.iload_n 2, 1) := D_28 W_prog_3_method_6_code_0 26 rfl rfl
theorem d_3_6_27 : decode prog_3_method_6_code 27 = .ok (.if_icmp .ne 5, 3) := D_160 W_prog_3_method_6_code_0 27 rfl rfl rfl
theorem d_3_6_30 : decode prog_3_method_6_code 30 = .ok (.iconst 1, 1) := D_4 W_prog_3_method_6_code_0 30 rfl rfl
theorem d_3_6_31 : decode prog_3_method_6_code 31 = .ok (.ireturn, 1) := D_172 W_prog_3_method_6_code_0 31 rfl rfl
theorem d_3_6_32 : decode prog_3_method_6_code 32 = .ok (.iinc 3 1, 3) := D_132 W_prog_3_method_6_code_32 0 rfl rfl rfl
theorem d_3_6_35 : decode prog_3_method_6_code 35 = .ok (.goto (-33), 3) := D_167 W_prog_3_method_6_code_32 3 rfl rfl rfl
theorem W_prog_1_method_40_code_0 : chW prog_1_method_40_code 0 [17, 2, 0, 26, 6, 108, 122, 178, 1, 99, 5, 26, 6, 112, 100, 46, 104, 7, 108, 172] := chW_of (by decide +kernel)
theorem d_1_40_0 : decode prog_1_method_40_code 0 = .ok (.sipush 512, 3) := D_17 W_prog_1_method_40_code_0 0 rfl rfl rfl
theorem d_1_40_3 : decode prog_1_method_40_code 3 = .ok (.iload_n 0, 1) := D_26 W_prog_1_method_40_code_0 3 rfl rfl
theorem d_1_40_4 : decode prog_1_method_40_code 4 = .ok (.iconst 3, 1) := D_6 W_prog_1_method_40_code_0 4 rfl rfl
theorem d_1_40_5 : decode prog_1_method_40_code 5 = .ok (.idiv, 1) := D_108 W_prog_1_method_40_code_0 5 rfl rfl
theorem d_1_40_6 : decode prog_1_method_40_code 6 = .ok (.ishr, 1) := D_122 W_prog_1_method_40_code_0 6 rfl rfl
theorem d_1_40_7 : decode prog_1_method_40_code 7 = .ok (.getstatic 355, 3) := D_178 W_prog_1_method_40_code_0 7 rfl rfl rfl
theorem d_1_40_10 : decode prog_1_method_40_code 10 = .ok (.iconst 2, 1) := D_5 W_prog_1_method_40_code_0 10 rfl rfl
theorem d_1_40_11 : decode prog_1_method_40_code 11 = .ok (.iload_n 0, 1) := D_26 W_prog_1_method_40_code_0 11 rfl rfl
theorem d_1_40_12 : decode prog_1_method_40_code 12 = .ok (.iconst 3, 1) := D_6 W_prog_1_method_40_code_0 12 rfl rfl
theorem d_1_40_13 : decode prog_1_method_40_code 13 = .ok (.irem, 1) := D_112 W_prog_1_method_40_code_0 13 rfl rfl
theorem d_1_40_14 : decode prog_1_method_40_code 14 = .ok (.isub, 1) := D_100 W_prog_1_method_40_code_0 14 rfl rfl
theorem d_1_40_15 : decode prog_1_method_40_code 15 = .ok (.iaload, 1) := D_46 W_prog_1_method_40_code_0 15 rfl rfl
theorem d_1_40_16 : decode prog_1_method_40_code 16 = .ok (.imul, 1) := D_104 W_prog_1_method_40_code_0 16 rfl rfl
theorem d_1_40_17 : decode prog_1_method_40_code 17 = .ok (.iconst 4, 1) := D_7 W_prog_1_method_40_code_0 17 rfl rfl
theorem d_1_40_18 : decode prog_1_method_40_code 18 = .ok (.idiv, 1) := D_108 W_prog_1_method_40_code_0 18 rfl rfl
theorem d_1_40_19 : decode prog_1_method_40_code 19 = .ok (.ireturn, 1) := D_172 W_prog_1_method_40_code_0 19 rfl rfl
theorem W_prog_6_method_13_code_0 : chW prog_6_method_13_code 0 [42, 180, 0, 35, 17, 3, 32, 161, 0, 9, 42, 4, 181, 0, 81, 177, 42, 180, 0, 35, 54, 6, 42, 180, 0, 19, 3, 50, 21, 6, 27, 79, 42, 180, 0, 19] := chW_of (by decide +kernel)
theorem d_6_13_0 : decode prog_6_method_13_code 0 = .ok (.aload_n 0, 1) := D_42 W_prog_6_method_13_code_0 0 rfl rfl
theorem d_6_13_1 : decode prog_6_method_13_code 1 = .ok (.getfield 35, 3) := D_180 W_prog_6_method_13_code_0 1 rfl rfl rfl
theorem d_6_13_4 : decode prog_6_method_13_code 4 = .ok (.sipush 800, 3) := D_17 W_prog_6_method_13_code_0 4 rfl rfl rfl
theorem d_6_13_7 : decode prog_6_method_13_code 7 = .ok (.if_icmp .lt 9, 3) := D_161 W_prog_6_method_13_code_0 7 rfl rfl rfl
theorem d_6_13_16 : decode prog_6_method_13_code 16 = .ok (.aload_n 0, 1) := D_42 W_prog_6_method_13_code_0 16 rfl rfl
theorem d_6_13_17 : decode prog_6_method_13_code 17 = .ok (.getfield 35, 3) := D_180 W_prog_6_method_13_code_0 17 rfl rfl rfl
theorem d_6_13_20 : decode prog_6_method_13_code 20 = .ok (.istore 6, 2) := D_54 W_prog_6_method_13_code_0 20 rfl rfl
theorem d_6_13_22 : decode prog_6_method_13_code 22 = .ok (.aload_n 0, 1) := D_42 W_prog_6_method_13_code_0 22 rfl rfl
theorem d_6_13_23 : decode prog_6_method_13_code 23 = .ok (.getfield 19, 3) := D_180 W_prog_6_method_13_code_0 23 rfl rfl rfl
theorem d_6_13_26 : decode prog_6_method_13_code 26 = .ok (.iconst 0, 1) := D_3 W_prog_6_method_13_code_0 26 rfl rfl
theorem d_6_13_27 : decode prog_6_method_13_code 27 = .ok (.aaload, 1) := D_50 W_prog_6_method_13_code_0 27 rfl rfl
theorem d_6_13_28 : decode prog_6_method_13_code 28 = .ok (.iload 6, 2) := D_21 W_prog_6_method_13_code_0 28 rfl rfl
theorem d_6_13_30 : decode prog_6_method_13_code 30 = .ok (.iload_n 1, 1) := D_27 W_prog_6_method_13_code_0 30 rfl rfl
theorem d_6_13_31 : decode prog_6_method_13_code 31 = .ok (.iastore, 1) := D_79 W_prog_6_method_13_code_0 31 rfl rfl
theorem W_prog_6_method_13_code_32 : chW prog_6_method_13_code 32 [42, 180, 0, 19, 4, 50, 21, 6, 28, 79, 42, 180, 0, 22, 21, 6, 33, 80, 42, 180, 0, 19, 7, 50, 21, 6, 21, 5, 6, 108, 79, 42, 180, 0, 19, 8] := chW_of (by decide +kernel)
theorem d_6_13_32 : decode prog_6_method_13_code 32 = .ok (.aload_n 0, 1) := D_42 W_prog_6_method_13_code_32 0 rfl rfl
theorem d_6_13_33 : decode prog_6_method_13_code 33 = .ok (.getfield 19, 3) := D_180 W_prog_6_method_13_code_32 1 rfl rfl rfl
theorem d_6_13_36 : decode prog_6_method_13_code 36 = .ok (.iconst 1, 1) := D_4 W_prog_6_method_13_code_32 4 rfl rfl
theorem d_6_13_37 : decode prog_6_method_13_code 37 = .ok (.aaload, 1) := D_50 W_prog_6_method_13_code_32 5 rfl rfl
theorem d_6_13_38 : decode prog_6_method_13_code 38 = .ok (.iload 6, 2) := D_21 W_prog_6_method_13_code_32 6 rfl rfl
theorem d_6_13_40 : decode prog_6_method_13_code 40 = .ok (.iload_n 2, 1) := D_28 W_prog_6_method_13_code_32 8 rfl rfl
theorem d_6_13_41 : decode prog_6_method_13_code 41 = .ok (.iastore, 1) := D_79 W_prog_6_method_13_code_32 9 rfl rfl
theorem d_6_13_42 : decode prog_6_method_13_code 42 = .ok (.aload_n 0, 1) := D_42 W_prog_6_method_13_code_32 10 rfl rfl
theorem d_6_13_43 : decode prog_6_method_13_code 43 = .ok (.getfield 22, 3) := D_180 W_prog_6_method_13_code_32 11 rfl rfl rfl
theorem d_6_13_46 : decode prog_6_method_13_code 46 = .ok (.iload 6, 2) := D_21 W_prog_6_method_13_code_32 14 rfl rfl
theorem d_6_13_48 : decode prog_6_method_13_code 48 = .ok (.lload_n 3, 1) := D_33 W_prog_6_method_13_code_32 16 rfl rfl
theorem d_6_13_49 : decode prog_6_method_13_code 49 = .ok (.lastore, 1) := D_80 W_prog_6_method_13_code_32 17 rfl rfl
theorem d_6_13_50 : decode prog_6_method_13_code 50 = .ok (.aload_n 0, 1) := D_42 W_prog_6_method_13_code_32 18 rfl rfl
theorem d_6_13_51 : decode prog_6_method_13_code 51 = .ok (.getfield 19, 3) := D_180 W_prog_6_method_13_code_32 19 rfl rfl rfl
theorem d_6_13_54 : decode prog_6_method_13_code 54 = .ok (.iconst 4, 1) := D_7 W_prog_6_method_13_code_32 22 rfl rfl
theorem d_6_13_55 : decode prog_6_method_13_code 55 = .ok (.aaload, 1) := D_50 W_prog_6_method_13_code_32 23 rfl rfl
theorem d_6_13_56 : decode prog_6_method_13_code 56 = .ok (.iload 6, 2) := D_21 W_prog_6_method_13_code_32 24 rfl rfl
theorem d_6_13_58 : decode prog_6_method_13_code 58 = .ok (.iload 5, 2) := D_21 W_prog_6_method_13_code_32 26 rfl rfl
theorem d_6_13_60 : decode prog_6_method_13_code 60 = .ok (.iconst 3, 1) := D_6 W_prog_6_method_13_code_32 28 rfl rfl
theorem d_6_13_61 : decode prog_6_method_13_code 61 = .ok (.idiv, 1) := D_108 W_prog_6_method_13_code_32 29 rfl rfl
theorem d_6_13_62 : decode prog_6_method_13_code 62 = .ok (.iastore, 1) := D_79 W_prog_6_method_13_code_32 30 rfl rfl
theorem d_6_13_63 : decode prog_6_method_13_code 63 = .ok (.aload_n 0, 1) := D_42 W_prog_6_method_13_code_32 31 rfl rfl
theorem W_prog_6_method_13_code_64 : chW prog_6_method_13_code 64 [180, 0, 19, 8, 50, 21, 6, 5, 21, 5, 6, 112, 100, 79, 42, 89, 180, 0, 35, 4, 96, 181, 0, 35, 177] := chW_of (by decide +kernel)
theorem d_6_13_64 : decode prog_6_method_13_code 64 = .ok (.getfield 19, 3) := D_180 W_prog_6_method_13_code_64 0 rfl rfl rfl
theorem d_6_13_67 : decode prog_6_method_13_code 67 = .ok (.iconst 5, 1) := D_8 W_prog_6_method_13_code_64 3 rfl rfl
theorem d_6_13_68 : decode prog_6_method_13_code 68 = .ok (.aaload, 1) := D_50 W_prog_6_method_13_code_64 4 rfl rfl
theorem d_6_13_69 : decode prog_6_method_13_code 69 = .ok (.iload 6, 2) := D_21 W_prog_6_method_13_code_64 5 rfl rfl
theorem d_6_13_71 : decode prog_6_method_13_code 71 = .ok (.iconst 2, 1) := D_5 W_prog_6_method_13_code_64 7 rfl rfl
theorem d_6_13_72 : decode prog_6_method_13_code 72 = .ok (.iload 5, 2) := D_21 W_prog_6_method_13_code_64 8 rfl rfl
theorem d_6_13_74 : decode prog_6_method_13_code 74 = .ok (.iconst 3, 1) := D_6 W_prog_6_method_13_code_64 10 rfl rfl
theorem d_6_13_75 : decode prog_6_method_13_code 75 = .ok (.irem, 1) := D_112 W_prog_6_method_13_code_64 11 rfl rfl
theorem d_6_13_76 : decode prog_6_method_13_code 76 = .ok (.isub, 1) := D_100 W_prog_6_method_13_code_64 12 rfl rfl
theorem d_6_13_77 : decode prog_6_method_13_code 77 = .ok (.iastore, 1) := D_79 W_prog_6_method_13_code_64 13 rfl rfl
theorem d_6_13_78 : decode prog_6_method_13_code 78 = .ok (.aload_n 0, 1) := D_42 W_prog_6_method_13_code_64 14 rfl rfl
theorem d_6_13_79 : decode prog_6_method_13_code 79 = .ok (.dup, 1) := D_89 W_prog_6_method_13_code_64 15 rfl rfl
theorem d_6_13_80 : decode prog_6_method_13_code 80 = .ok (.getfield 35, 3) := D_180 W_prog_6_method_13_code_64 16 rfl rfl rfl
theorem d_6_13_83 : decode prog_6_method_13_code 83 = .ok (.iconst 1, 1) := D_4 W_prog_6_method_13_code_64 19 rfl rfl
theorem d_6_13_84 : decode prog_6_method_13_code 84 = .ok (.iadd, 1) := D_96 W_prog_6_method_13_code_64 20 rfl rfl
theorem d_6_13_85 : decode prog_6_method_13_code 85 = .ok (.putfield 35, 3) := D_181 W_prog_6_method_13_code_64 21 rfl rfl rfl
theorem d_6_13_88 : decode prog_6_method_13_code 88 = .ok (.return_, 1) := D_177 W_prog_6_method_13_code_64 24 rfl rfl
theorem d_6_13_10 : decode prog_6_method_13_code 10 = .ok (.aload_n 0, 1) := D_42 W_prog_6_method_13_code_0 10 rfl rfl
theorem d_6_13_11 : decode prog_6_method_13_code 11 = .ok (.iconst 1, 1) := D_4 W_prog_6_method_13_code_0 11 rfl rfl
theorem d_6_13_12 : decode prog_6_method_13_code 12 = .ok (.putfield 81, 3) := D_181 W_prog_6_method_13_code_0 12 rfl rfl rfl
theorem d_6_13_15 : decode prog_6_method_13_code 15 = .ok (.return_, 1) := D_177 W_prog_6_method_13_code_0 15 rfl rfl
theorem W_prog_3_method_2_code_0 : chW prog_3_method_2_code 0 [42, 180, 0, 18, 154, 0, 7, 4, 167, 0, 4, 3, 172] := chW_of (by decide +kernel)
theorem d_3_2_0 : decode prog_3_method_2_code 0 = .ok (.aload_n 0, 1) := D_42 W_prog_3_method_2_code_0 0 rfl rfl
theorem d_3_2_1 : decode prog_3_method_2_code 1 = .ok (.getfield 18, 3) := D_180 W_prog_3_method_2_code_0 1 rfl rfl rfl
theorem d_3_2_4 : decode prog_3_method_2_code 4 = .ok (.ifCond .ne 7, 3) := D_154 W_prog_3_method_2_code_0 4 rfl rfl rfl
theorem d_3_2_11 : decode prog_3_method_2_code 11 = .ok (.iconst 0, 1) := D_3 W_prog_3_method_2_code_0 11 rfl rfl
theorem d_3_2_7 : decode prog_3_method_2_code 7 = .ok (.iconst 1, 1) := D_4 W_prog_3_method_2_code_0 7 rfl rfl
theorem d_3_2_8 : decode prog_3_method_2_code 8 = .ok (.goto 4, 3) := D_167 W_prog_3_method_2_code_0 8 rfl rfl rfl
theorem d_3_2_12 : decode prog_3_method_2_code 12 = .ok (.ireturn, 1) := D_172 W_prog_3_method_2_code_0 12 rfl rfl
theorem W_prog_1_method_39_code_0 : chW prog_1_method_39_code 0 [27, 16, 8, 161, 0, 11, 26, 6, 112, 154, 0, 5, 6, 172, 27, 7, 163, 0, 7, 4, 167, 0, 4, 5, 172] := chW_of (by decide +kernel)
theorem d_1_39_0 : decode prog_1_method_39_code 0 = .ok (.iload_n 1, 1) := D_27 W_prog_1_method_39_code_0 0 rfl rfl
theorem d_1_39_1 : decode prog_1_method_39_code 1 = .ok (.bipush 8, 2) := D_16 W_prog_1_method_39_code_0 1 rfl rfl rfl
theorem d_1_39_3 : decode prog_1_method_39_code 3 = .ok (.if_icmp .lt 11, 3) := D_161 W_prog_1_method_39_code_0 3 rfl rfl rfl
theorem d_1_39_6 : decode prog_1_method_39_code 6 = .ok (.iload_n 0, 1) := D_26 W_prog_1_method_39_code_0 6 rfl rfl
theorem d_1_39_7 : decode prog_1_method_39_code 7 = .ok (.iconst 3, 1) := D_6 W_prog_1_method_39_code_0 7 rfl rfl
theorem d_1_39_8 : decode prog_1_method_39_code 8 = .ok (.irem, 1) := D_112 W_prog_1_method_39_code_0 8 rfl rfl
theorem d_1_39_9 : decode prog_1_method_39_code 9 = .ok (.ifCond .ne 5, 3) := D_154 W_prog_1_method_39_code_0 9 rfl rfl rfl
theorem d_1_39_12 : decode prog_1_method_39_code 12 = .ok (.iconst 3, 1) := D_6 W_prog_1_method_39_code_0 12 rfl rfl
theorem d_1_39_13 : decode prog_1_method_39_code 13 = .ok (.ireturn, 1) := D_172 W_prog_1_method_39_code_0 13 rfl rfl
theorem d_1_39_14 : decode prog_1_method_39_code 14 = .ok (.iload_n 1, 1) := D_27 W_prog_1_method_39_code_0 14 rfl rfl
theorem d_1_39_15 : decode prog_1_method_39_code 15 = .ok (.iconst 4, 1) := D_7 W_prog_1_method_39_code_0 15 rfl rfl
theorem d_1_39_16 : decode prog_1_method_39_code 16 = .ok (.if_icmp .gt 7, 3) := D_163 W_prog_1_method_39_code_0 16 rfl rfl rfl
theorem d_1_39_23 : decode prog_1_method_39_code 23 = .ok (.iconst 2, 1) := D_5 W_prog_1_method_39_code_0 23 rfl rfl
theorem d_1_39_19 : decode prog_1_method_39_code 19 = .ok (.iconst 1, 1) := D_4 W_prog_1_method_39_code_0 19 rfl rfl
theorem d_1_39_20 : decode prog_1_method_39_code 20 = .ok (.goto 4, 3) := D_167 W_prog_1_method_39_code_0 20 rfl rfl rfl
theorem d_1_39_24 : decode prog_1_method_39_code 24 = .ok (.ireturn, 1) := D_172 W_prog_1_method_39_code_0 24 rfl rfl
theorem W_prog_1_method_43_code_0 : chW prog_1_method_43_code 0 [29, 153, 0, 8, 29, 26, 160, 0, 6, 16, 9, 172, 26, 5, 28, 104, 112, 154, 0, 13, 5, 29, 104, 26, 160, 0, 6, 16, 8, 172, 29, 27, 112, 154, 0, 6] := chW_of (by decide +kernel)
theorem d_1_43_0 : decode prog_1_method_43_code 0 = .ok (.iload_n 3, 1) := D_29 W_prog_1_method_43_code_0 0 rfl rfl
theorem d_1_43_1 : decode prog_1_method_43_code 1 = .ok (.ifCond .eq 8, 3) := D_153 W_prog_1_method_43_code_0 1 rfl rfl rfl
theorem d_1_43_4 : decode prog_1_method_43_code 4 = .ok (.iload_n 3, 1) := D_29 W_prog_1_method_43_code_0 4 rfl rfl
theorem d_1_43_5 : decode prog_1_method_43_code 5 = .ok (.iload_n 0, 1) := D_26 W_prog_1_method_43_code_0 5 rfl rfl
theorem d_1_43_6 : decode prog_1_method_43_code 6 = .ok (.if_icmp .ne 6, 3) := D_160 W_prog_1_method_43_code_0 6 rfl rfl rfl
theorem d_1_43_12 : decode prog_1_method_43_code 12 = .ok (.iload_n 0, 1) := D_26 W_prog_1_method_43_code_0 12 rfl rfl
theorem d_1_43_13 : decode prog_1_method_43_code 13 = .ok (.iconst 2, 1) := D_5 W_prog_1_method_43_code_0 13 rfl rfl
theorem d_1_43_14 : decode prog_1_method_43_code 14 = .ok (.iload_n 2, 1) := D_28 W_prog_1_method_43_code_0 14 rfl rfl
theorem d_1_43_15 : decode prog_1_method_43_code 15 = .ok (.imul, 1) := D_104 W_prog_1_method_43_code_0 15 rfl rfl
theorem d_1_43_16 : decode prog_1_method_43_code 16 = .ok (.irem, 1) := D_112 W_prog_1_method_43_code_0 16 rfl rfl
theorem d_1_43_17 : decode prog_1_method_43_code 17 = .ok (.ifCond .ne 13, 3) := D_154 W_prog_1_method_43_code_0 17 rfl rfl rfl
theorem d_1_43_20 : decode prog_1_method_43_code 20 = .ok (.iconst 2, 1) := D_5 W_prog_1_method_43_code_0 20 rfl rfl
theorem d_1_43_21 : decode prog_1_method_43_code 21 = .ok (.iload_n 3, 1) := D_29 W_prog_1_method_43_code_0 21 rfl rfl
theorem d_1_43_22 : decode prog_1_method_43_code 22 = .ok (.imul, 1) := D_104 W_prog_1_method_43_code_0 22 rfl rfl
theorem d_1_43_23 : decode prog_1_method_43_code 23 = .ok (.iload_n 0, 1) := D_26 W_prog_1_method_43_code_0 23 rfl rfl
theorem d_1_43_24 : decode prog_1_method_43_code 24 = .ok (.if_icmp .ne 6, 3) := D_160 W_prog_1_method_43_code_0 24 rfl rfl rfl
theorem d_1_43_27 : decode prog_1_method_43_code 27 = .ok (.bipush 8, 2) := D_16 W_prog_1_method_43_code_0 27 rfl rfl rfl
theorem d_1_43_29 : decode prog_1_method_43_code 29 = .ok (.ireturn, 1) := D_172 W_prog_1_method_43_code_0 29 rfl rfl
theorem d_1_43_9 : decode prog_1_method_43_code 9 = .ok (.bipush 9, 2) := D_16 W_prog_1_method_43_code_0 9 rfl rfl rfl
theorem d_1_43_11 : decode prog_1_method_43_code 11 = .ok (.ireturn, 1) := D_172 W_prog_1_method_43_code_0 11 rfl rfl
theorem d_1_43_30 : decode prog_1_method_43_code 30 = .ok (.iload_n 3, 1) := D_29 W_prog_1_method_43_code_0 30 rfl rfl
theorem d_1_43_31 : decode prog_1_method_43_code 31 = .ok (.iload_n 1, 1) := D_27 W_prog_1_method_43_code_0 31 rfl rfl
theorem W_prog_1_method_43_code_32 : chW prog_1_method_43_code 32 [112, 154, 0, 6, 16, 7, 172, 3, 54, 4, 21, 4, 8, 162, 0, 24, 29, 28, 21, 4, 122, 112, 154, 0, 9, 16, 6, 21, 4, 100, 172, 132, 4, 1, 167, 255] := chW_of (by decide +kernel)
theorem d_1_43_32 : decode prog_1_method_43_code 32 = .ok (.irem, 1) := D_112 W_prog_1_method_43_code_32 0 rfl rfl
theorem d_1_43_33 : decode prog_1_method_43_code 33 = .ok (.ifCond .ne 6, 3) := D_154 W_prog_1_method_43_code_32 1 rfl rfl rfl
theorem d_1_43_39 : decode prog_1_method_43_code 39 = .ok (.iconst 0, 1) := D_3 W_prog_1_method_43_code_32 7 rfl rfl
theorem d_1_43_40 : decode prog_1_method_43_code 40 = .ok (.istore 4, 2) := D_54 W_prog_1_method_43_code_32 8 rfl rfl
theorem d_1_43_36 : decode prog_1_method_43_code 36 = .ok (.bipush 7, 2) := D_16 W_prog_1_method_43_code_32 4 rfl rfl rfl
theorem d_1_43_38 : decode prog_1_method_43_code 38 = .ok (.ireturn, 1) := D_172 W_prog_1_method_43_code_32 6 rfl rfl
theorem d_1_43_42 : decode prog_1_method_43_code 42 = .ok (.iload 4, 2) := D_21 W_prog_1_method_43_code_32 10 rfl rfl
theorem d_1_43_44 : decode prog_1_method_43_code 44 = .ok (.iconst 5, 1) := D_8 W_prog_1_method_43_code_32 12 rfl rfl
theorem d_1_43_45 : decode prog_1_method_43_code 45 = .ok (.if_icmp .ge 24, 3) := D_162 W_prog_1_method_43_code_32 13 rfl rfl rfl
theorem W_prog_1_method_43_code_64 : chW prog_1_method_43_code 64 [4, 1, 167, 255, 232, 4, 172] := chW_of (by decide +kernel)
theorem d_1_43_69 : decode prog_1_method_43_code 69 = .ok (.iconst 1, 1) := D_4 W_prog_1_method_43_code_64 5 rfl rfl
theorem d_1_43_70 : decode prog_1_method_43_code 70 = .ok (.ireturn, 1) := D_172 W_prog_1_method_43_code_64 6 rfl rfl
theorem d_1_43_48 : decode prog_1_method_43_code 48 = .ok (.iload_n 3, 1) := D_29 W_prog_1_method_43_code_32 16 rfl rfl
theorem d_1_43_49 : decode prog_1_method_43_code 49 = .ok (.iload_n 2, 1) := D_28 W_prog_1_method_43_code_32 17 rfl rfl
theorem d_1_43_50 : decode prog_1_method_43_code 50 = .ok (.iload 4, 2) := D_21 W_prog_1_method_43_code_32 18 rfl rfl
theorem d_1_43_52 : decode prog_1_method_43_code 52 = .ok (.ishr, 1) := D_122 W_prog_1_method_43_code_32 20 rfl rfl
theorem d_1_43_53 : decode prog_1_method_43_code 53 = .ok (.irem, 1) := D_112 W_prog_1_method_43_code_32 21 rfl rfl
theorem d_1_43_54 : decode prog_1_method_43_code 54 = .ok (.ifCond .ne 9, 3) := D_154 W_prog_1_method_43_code_32 22 rfl rfl rfl
theorem d_1_43_63 : decode prog_1_method_43_code 63 = .ok (.iinc 4 1, 3) := D_132 W_prog_1_method_43_code_32 31 rfl rfl rfl
theorem d_1_43_66 : decode prog_1_method_43_code 66 = .ok (.goto (-24), 3) := D_167 W_prog_1_method_43_code_64 2 rfl rfl rfl
theorem d_1_43_57 : decode prog_1_method_43_code 57 = .ok (.bipush 6, 2) := D_16 W_prog_1_method_43_code_32 25 rfl rfl rfl
theorem d_1_43_59 : decode prog_1_method_43_code 59 = .ok (.iload 4, 2) := D_21 W_prog_1_method_43_code_32 27 rfl rfl
theorem d_1_43_61 : decode prog_1_method_43_code 61 = .ok (.isub, 1) := D_100 W_prog_1_method_43_code_32 29 rfl rfl
theorem d_1_43_62 : decode prog_1_method_43_code 62 = .ok (.ireturn, 1) := D_172 W_prog_1_method_43_code_32 30 rfl rfl
theorem W_prog_1_method_44_code_0 : chW prog_1_method_44_code 0 [26, 5, 28, 104, 112, 154, 0, 21, 5, 29, 104, 26, 162, 0, 14, 26, 5, 21, 4, 104, 162, 0, 6, 16, 8, 172, 21, 4, 4, 100, 27, 108, 27, 104, 29, 164] := chW_of (by decide +kernel)
theorem d_1_44_0 : decode prog_1_method_44_code 0 = .ok (.iload_n 0, 1) := D_26 W_prog_1_method_44_code_0 0 rfl rfl
theorem d_1_44_1 : decode prog_1_method_44_code 1 = .ok (.iconst 2, 1) := D_5 W_prog_1_method_44_code_0 1 rfl rfl
theorem d_1_44_2 : decode prog_1_method_44_code 2 = .ok (.iload_n 2, 1) := D_28 W_prog_1_method_44_code_0 2 rfl rfl
theorem d_1_44_3 : decode prog_1_method_44_code 3 = .ok (.imul, 1) := D_104 W_prog_1_method_44_code_0 3 rfl rfl
theorem d_1_44_4 : decode prog_1_method_44_code 4 = .ok (.irem, 1) := D_112 W_prog_1_method_44_code_0 4 rfl rfl
theorem d_1_44_5 : decode prog_1_method_44_code 5 = .ok (.ifCond .ne 21, 3) := D_154 W_prog_1_method_44_code_0 5 rfl rfl rfl
theorem d_1_44_8 : decode prog_1_method_44_code 8 = .ok (.iconst 2, 1) := D_5 W_prog_1_method_44_code_0 8 rfl rfl
theorem d_1_44_9 : decode prog_1_method_44_code 9 = .ok (.iload_n 3, 1) := D_29 W_prog_1_method_44_code_0 9 rfl rfl
theorem d_1_44_10 : decode prog_1_method_44_code 10 = .ok (.imul, 1) := D_104 W_prog_1_method_44_code_0 10 rfl rfl
theorem d_1_44_11 : decode prog_1_method_44_code 11 = .ok (.iload_n 0, 1) := D_26 W_prog_1_method_44_code_0 11 rfl rfl
theorem d_1_44_12 : decode prog_1_method_44_code 12 = .ok (.if_icmp .ge 14, 3) := D_162 W_prog_1_method_44_code_0 12 rfl rfl rfl
theorem d_1_44_15 : decode prog_1_method_44_code 15 = .ok (.iload_n 0, 1) := D_26 W_prog_1_method_44_code_0 15 rfl rfl
theorem d_1_44_16 : decode prog_1_method_44_code 16 = .ok (.iconst 2, 1) := D_5 W_prog_1_method_44_code_0 16 rfl rfl
theorem d_1_44_17 : decode prog_1_method_44_code 17 = .ok (.iload 4, 2) := D_21 W_prog_1_method_44_code_0 17 rfl rfl
theorem d_1_44_19 : decode prog_1_method_44_code 19 = .ok (.imul, 1) := D_104 W_prog_1_method_44_code_0 19 rfl rfl
theorem d_1_44_20 : decode prog_1_method_44_code 20 = .ok (.if_icmp .ge 6, 3) := D_162 W_prog_1_method_44_code_0 20 rfl rfl rfl
theorem d_1_44_23 : decode prog_1_method_44_code 23 = .ok (.bipush 8, 2) := D_16 W_prog_1_method_44_code_0 23 rfl rfl rfl
theorem d_1_44_25 : decode prog_1_method_44_code 25 = .ok (.ireturn, 1) := D_172 W_prog_1_method_44_code_0 25 rfl rfl
theorem d_1_44_26 : decode prog_1_method_44_code 26 = .ok (.iload 4, 2) := D_21 W_prog_1_method_44_code_0 26 rfl rfl
theorem d_1_44_28 : decode prog_1_method_44_code 28 = .ok (.iconst 1, 1) := D_4 W_prog_1_method_44_code_0 28 rfl rfl
theorem d_1_44_29 : decode prog_1_method_44_code 29 = .ok (.isub, 1) := D_100 W_prog_1_method_44_code_0 29 rfl rfl
theorem d_1_44_30 : decode prog_1_method_44_code 30 = .ok (.iload_n 1, 1) := D_27 W_prog_1_method_44_code_0 30 rfl rfl
theorem d_1_44_31 : decode prog_1_method_44_code 31 = .ok (.idiv, 1) := D_108 W_prog_1_method_44_code_0 31 rfl rfl
theorem W_prog_1_method_44_code_32 : chW prog_1_method_44_code 32 [27, 104, 29, 164, 0, 6, 16, 7, 172, 3, 54, 5, 21, 5, 8, 162, 0, 35, 28, 21, 5, 122, 54, 6, 21, 4, 4, 100, 21, 6, 108, 21, 6, 104, 29, 164] := chW_of (by decide +kernel)
theorem d_1_44_32 : decode prog_1_method_44_code 32 = .ok (.iload_n 1, 1) := D_27 W_prog_1_method_44_code_32 0 rfl rfl
theorem d_1_44_33 : decode prog_1_method_44_code 33 = .ok (.imul, 1) := D_104 W_prog_1_method_44_code_32 1 rfl rfl
theorem d_1_44_34 : decode prog_1_method_44_code 34 = .ok (.iload_n 3, 1) := D_29 W_prog_1_method_44_code_32 2 rfl rfl
theorem d_1_44_35 : decode prog_1_method_44_code 35 = .ok (.if_icmp .le 6, 3) := D_164 W_prog_1_method_44_code_32 3 rfl rfl rfl
theorem d_1_44_41 : decode prog_1_method_44_code 41 = .ok (.iconst 0, 1) := D_3 W_prog_1_method_44_code_32 9 rfl rfl
theorem d_1_44_42 : decode prog_1_method_44_code 42 = .ok (.istore 5, 2) := D_54 W_prog_1_method_44_code_32 10 rfl rfl
theorem d_1_44_38 : decode prog_1_method_44_code 38 = .ok (.bipush 7, 2) := D_16 W_prog_1_method_44_code_32 6 rfl rfl rfl
theorem d_1_44_40 : decode prog_1_method_44_code 40 = .ok (.ireturn, 1) := D_172 W_prog_1_method_44_code_32 8 rfl rfl
theorem d_1_44_44 : decode prog_1_method_44_code 44 = .ok (.iload 5, 2) := D_21 W_prog_1_method_44_code_32 12 rfl rfl
theorem d_1_44_46 : decode prog_1_method_44_code 46 = .ok (.iconst 5, 1) := D_8 W_prog_1_method_44_code_32 14 rfl rfl
theorem d_1_44_47 : decode prog_1_method_44_code 47 = .ok (.if_icmp .ge 35, 3) := D_162 W_prog_1_method_44_code_32 15 rfl rfl rfl
theorem W_prog_1_method_44_code_64 : chW prog_1_method_44_code 64 [6, 104, 29, 164, 0, 9, 16, 6, 21, 5, 100, 172, 132, 5, 1, 167, 255, 221, 4, 172] := chW_of (by decide +kernel)
theorem d_1_44_82 : decode prog_1_method_44_code 82 = .ok (.iconst 1, 1) := D_4 W_prog_1_method_44_code_64 18 rfl rfl
theorem d_1_44_83 : decode prog_1_method_44_code 83 = .ok (.ireturn, 1) := D_172 W_prog_1_method_44_code_64 19 rfl rfl
theorem d_1_44_50 : decode prog_1_method_44_code 50 = .ok (.iload_n 2, 1) := D_28 W_prog_1_method_44_code_32 18 rfl rfl
theorem d_1_44_51 : decode prog_1_method_44_code 51 = .ok (.iload 5, 2) := D_21 W_prog_1_method_44_code_32 19 rfl rfl
theorem d_1_44_53 : decode prog_1_method_44_code 53 = .ok (.ishr, 1) := D_122 W_prog_1_method_44_code_32 21 rfl rfl
theorem d_1_44_54 : decode prog_1_method_44_code 54 = .ok (.istore 6, 2) := D_54 W_prog_1_method_44_code_32 22 rfl rfl
theorem d_1_44_56 : decode prog_1_method_44_code 56 = .ok (.iload 4, 2) := D_21 W_prog_1_method_44_code_32 24 rfl rfl
theorem d_1_44_58 : decode prog_1_method_44_code 58 = .ok (.iconst 1, 1) := D_4 W_prog_1_method_44_code_32 26 rfl rfl
theorem d_1_44_59 : decode prog_1_method_44_code 59 = .ok (.isub, 1) := D_100 W_prog_1_method_44_code_32 27 rfl rfl
theorem d_1_44_60 : decode prog_1_method_44_code 60 = .ok (.iload 6, 2) := D_21 W_prog_1_method_44_code_32 28 rfl rfl
theorem d_1_44_62 : decode prog_1_method_44_code 62 = .ok (.idiv, 1) := D_108 W_prog_1_method_44_code_32 30 rfl rfl
theorem d_1_44_63 : decode prog_1_method_44_code 63 = .ok (.iload 6, 2) := D_21 W_prog_1_method_44_code_32 31 rfl rfl
theorem d_1_44_65 : decode prog_1_method_44_code 65 = .ok (.imul, 1) := D_104 W_prog_1_method_44_code_64 1 rfl rfl
theorem d_1_44_66 : decode prog_1_method_44_code 66 = .ok (.iload_n 3, 1) := D_29 W_prog_1_method_44_code_64 2 rfl rfl
theorem d_1_44_67 : decode prog_1_method_44_code 67 = .ok (.if_icmp .le 9, 3) := D_164 W_prog_1_method_44_code_64 3 rfl rfl rfl
theorem d_1_44_76 : decode prog_1_method_44_code 76 = .ok (.iinc 5 1, 3) := D_132 W_prog_1_method_44_code_64 12 rfl rfl rfl
theorem d_1_44_79 : decode prog_1_method_44_code 79 = .ok (.goto (-35), 3) := D_167 W_prog_1_method_44_code_64 15 rfl rfl rfl
theorem d_1_44_70 : decode prog_1_method_44_code 70 = .ok (.bipush 6, 2) := D_16 W_prog_1_method_44_code_64 6 rfl rfl rfl
theorem d_1_44_72 : decode prog_1_method_44_code 72 = .ok (.iload 5, 2) := D_21 W_prog_1_method_44_code_64 8 rfl rfl
theorem d_1_44_74 : decode prog_1_method_44_code 74 = .ok (.isub, 1) := D_100 W_prog_1_method_44_code_64 10 rfl rfl
theorem d_1_44_75 : decode prog_1_method_44_code 75 = .ok (.ireturn, 1) := D_172 W_prog_1_method_44_code_64 11 rfl rfl
theorem W_prog_6_method_14_code_0 : chW prog_6_method_14_code 0 [42, 180, 0, 19, 3, 50, 27, 46, 61, 28, 155, 0, 23, 28, 42, 180, 0, 31, 162, 0, 15, 42, 180, 0, 11, 28, 50, 180, 0, 188, 154, 0, 7, 4, 167, 0] := chW_of (by decide +kernel)
theorem d_6_14_0 : decode prog_6_method_14_code 0 = .ok (.aload_n 0, 1) := D_42 W_prog_6_method_14_code_0 0 rfl rfl
theorem d_6_14_1 : decode prog_6_method_14_code 1 = .ok (.getfield 19, 3) := D_180 W_prog_6_method_14_code_0 1 rfl rfl rfl
theorem d_6_14_4 : decode prog_6_method_14_code 4 = .ok (.iconst 0, 1) := D_3 W_prog_6_method_14_code_0 4 rfl rfl
theorem d_6_14_5 : decode prog_6_method_14_code 5 = .ok (.aaload, 1) := D_50 W_prog_6_method_14_code_0 5 rfl rfl
theorem d_6_14_6 : decode prog_6_method_14_code 6 = .ok (.iload_n 1, 1) := D_27 W_prog_6_method_14_code_0 6 rfl rfl
theorem d_6_14_7 : decode prog_6_method_14_code 7 = .ok (.iaload, 1) := D_46 W_prog_6_method_14_code_0 7 rfl rfl
theorem d_6_14_8 : decode prog_6_method_14_code 8 = .ok (.istore_n 2, 1) := D_61 W_prog_6_method_14_code_0 8 rfl rfl
theorem d_6_14_9 : decode prog_6_method_14_code 9 = .ok (.iload_n 2, 1) := D_28 W_prog_6_method_14_code_0 9 rfl rfl
theorem d_6_14_10 : decode prog_6_method_14_code 10 = .ok (.ifCond .lt 23, 3) := D_155 W_prog_6_method_14_code_0 10 rfl rfl rfl
theorem d_6_14_13 : decode prog_6_method_14_code 13 = .ok (.iload_n 2, 1) := D_28 W_prog_6_method_14_code_0 13 rfl rfl
theorem d_6_14_14 : decode prog_6_method_14_code 14 = .ok (.aload_n 0, 1) := D_42 W_prog_6_method_14_code_0 14 rfl rfl
theorem d_6_14_15 : decode prog_6_method_14_code 15 = .ok (.getfield 31, 3) := D_180 W_prog_6_method_14_code_0 15 rfl rfl rfl
theorem d_6_14_18 : decode prog_6_method_14_code 18 = .ok (.if_icmp .ge 15, 3) := D_162 W_prog_6_method_14_code_0 18 rfl rfl rfl
theorem d_6_14_21 : decode prog_6_method_14_code 21 = .ok (.aload_n 0, 1) := D_42 W_prog_6_method_14_code_0 21 rfl rfl
theorem d_6_14_22 : decode prog_6_method_14_code 22 = .ok (.getfield 11, 3) := D_180 W_prog_6_method_14_code_0 22 rfl rfl rfl
theorem d_6_14_25 : decode prog_6_method_14_code 25 = .ok (.iload_n 2, 1) := D_28 W_prog_6_method_14_code_0 25 rfl rfl
theorem d_6_14_26 : decode prog_6_method_14_code 26 = .ok (.aaload, 1) := D_50 W_prog_6_method_14_code_0 26 rfl rfl
theorem d_6_14_27 : decode prog_6_method_14_code 27 = .ok (.getfield 188, 3) := D_180 W_prog_6_method_14_code_0 27 rfl rfl rfl
theorem d_6_14_30 : decode prog_6_method_14_code 30 = .ok (.ifCond .ne 7, 3) := D_154 W_prog_6_method_14_code_0 30 rfl rfl rfl
theorem W_prog_6_method_14_code_32 : chW prog_6_method_14_code 32 [7, 4, 167, 0, 4, 3, 172] := chW_of (by decide +kernel)
theorem d_6_14_37 : decode prog_6_method_14_code 37 = .ok (.iconst 0, 1) := D_3 W_prog_6_method_14_code_32 5 rfl rfl
theorem d_6_14_33 : decode prog_6_method_14_code 33 = .ok (.iconst 1, 1) := D_4 W_prog_6_method_14_code_32 1 rfl rfl
theorem d_6_14_34 : decode prog_6_method_14_code 34 = .ok (.goto 4, 3) := D_167 W_prog_6_method_14_code_32 2 rfl rfl rfl
theorem d_6_14_38 : decode prog_6_method_14_code 38 = .ok (.ireturn, 1) := D_172 W_prog_6_method_14_code_32 6 rfl rfl
theorem W_prog_6_method_15_code_0 : chW prog_6_method_15_code 0 [27, 158, 0, 36, 27, 42, 180, 0, 35, 162, 0, 28, 42, 180, 0, 19, 3, 50, 27, 46, 42, 180, 0, 19, 3, 50, 27, 4, 100, 46, 160, 0, 7, 4, 167, 0] := chW_of (by decide +kernel)
theorem d_6_15_0 : decode prog_6_method_15_code 0 = .ok (.iload_n 1, 1) := D_27 W_prog_6_method_15_code_0 0 rfl rfl
theorem d_6_15_1 : decode prog_6_method_15_code 1 = .ok (.ifCond .le 36, 3) := D_158 W_prog_6_method_15_code_0 1 rfl rfl rfl
theorem d_6_15_4 : decode prog_6_method_15_code 4 = .ok (.iload_n 1, 1) := D_27 W_prog_6_method_15_code_0 4 rfl rfl
theorem d_6_15_5 : decode prog_6_method_15_code 5 = .ok (.aload_n 0, 1) := D_42 W_prog_6_method_15_code_0 5 rfl rfl
theorem d_6_15_6 : decode prog_6_method_15_code 6 = .ok (.getfield 35, 3) := D_180 W_prog_6_method_15_code_0 6 rfl rfl rfl
theorem d_6_15_9 : decode prog_6_method_15_code 9 = .ok (.if_icmp .ge 28, 3) := D_162 W_prog_6_method_15_code_0 9 rfl rfl rfl
theorem d_6_15_12 : decode prog_6_method_15_code 12 = .ok (.aload_n 0, 1) := D_42 W_prog_6_method_15_code_0 12 rfl rfl
theorem d_6_15_13 : decode prog_6_method_15_code 13 = .ok (.getfield 19, 3) := D_180 W_prog_6_method_15_code_0 13 rfl rfl rfl
theorem d_6_15_16 : decode prog_6_method_15_code 16 = .ok (.iconst 0, 1) := D_3 W_prog_6_method_15_code_0 16 rfl rfl
theorem d_6_15_17 : decode prog_6_method_15_code 17 = .ok (.aaload, 1) := D_50 W_prog_6_method_15_code_0 17 rfl rfl
theorem d_6_15_18 : decode prog_6_method_15_code 18 = .ok (.iload_n 1, 1) := D_27 W_prog_6_method_15_code_0 18 rfl rfl
theorem d_6_15_19 : decode prog_6_method_15_code 19 = .ok (.iaload, 1) := D_46 W_prog_6_method_15_code_0 19 rfl rfl
theorem d_6_15_20 : decode prog_6_method_15_code 20 = .ok (.aload_n 0, 1) := D_42 W_prog_6_method_15_code_0 20 rfl rfl
theorem d_6_15_21 : decode prog_6_method_15_code 21 = .ok (.getfield 19, 3) := D_180 W_prog_6_method_15_code_0 21 rfl rfl rfl
theorem d_6_15_24 : decode prog_6_method_15_code 24 = .ok (.iconst 0, 1) := D_3 W_prog_6_method_15_code_0 24 rfl rfl
theorem d_6_15_25 : decode prog_6_method_15_code 25 = .ok (.aaload, 1) := D_50 W_prog_6_method_15_code_0 25 rfl rfl
theorem d_6_15_26 : decode prog_6_method_15_code 26 = .ok (.iload_n 1, 1) := D_27 W_prog_6_method_15_code_0 26 rfl rfl
theorem d_6_15_27 : decode prog_6_method_15_code 27 = .ok (.iconst 1, 1) := D_4 W_prog_6_method_15_code_0 27 rfl rfl
theorem d_6_15_28 : decode prog_6_method_15_code 28 = .ok (.isub, 1) := D_100 W_prog_6_method_15_code_0 28 rfl rfl
theorem d_6_15_29 : decode prog_6_method_15_code 29 = .ok (.iaload, 1) := D_46 W_prog_6_method_15_code_0 29 rfl rfl
theorem d_6_15_30 : decode prog_6_method_15_code 30 = .ok (.if_icmp .ne 7, 3) := D_160 W_prog_6_method_15_code_0 30 rfl rfl rfl
theorem W_prog_6_method_15_code_32 : chW prog_6_method_15_code 32 [7, 4, 167, 0, 4, 3, 172] := chW_of (by decide +kernel)
theorem d_6_15_33 : decode prog_6_method_15_code 33 = .ok (.iconst 1, 1) := D_4 W_prog_6_method_15_code_32 1 rfl rfl
theorem d_6_15_34 : decode prog_6_method_15_code 34 = .ok (.goto 4, 3) := D_167 W_prog_6_method_15_code_32 2 rfl rfl rfl
theorem d_6_15_38 : decode prog_6_method_15_code 38 = .ok (.ireturn, 1) := D_172 W_prog_6_method_15_code_32 6 rfl rfl
theorem d_6_15_37 : decode prog_6_method_15_code 37 = .ok (.iconst 0, 1) := D_3 W_prog_6_method_15_code_32 5 rfl rfl
theorem W_prog_1_method_38_code_0 : chW prog_1_method_38_code 0 [178, 1, 96, 27, 16, 7, 184, 1, 93, 46, 61, 26, 158, 0, 14, 28, 26, 162, 0, 7, 4, 167, 0, 4, 3, 172, 16, 6, 28, 100, 26, 116, 162, 0, 7, 2] := chW_of (by decide +kernel)
theorem d_1_38_0 : decode prog_1_method_38_code 0 = .ok (.getstatic 352, 3) := D_178 W_prog_1_method_38_code_0 0 rfl rfl rfl
theorem d_1_38_3 : decode prog_1_method_38_code 3 = .ok (.iload_n 1, 1) := D_27 W_prog_1_method_38_code_0 3 rfl rfl
theorem d_1_38_4 : decode prog_1_method_38_code 4 = .ok (.bipush 7, 2) := D_16 W_prog_1_method_38_code_0 4 rfl rfl rfl
theorem d_1_38_6 : decode prog_1_method_38_code 6 = .ok (.invokestatic 349, 3) := D_184 W_prog_1_method_38_code_0 6 rfl rfl rfl
theorem d_1_38_9 : decode prog_1_method_38_code 9 = .ok (.iaload, 1) := D_46 W_prog_1_method_38_code_0 9 rfl rfl
theorem d_1_38_10 : decode prog_1_method_38_code 10 = .ok (.istore_n 2, 1) := D_61 W_prog_1_method_38_code_0 10 rfl rfl
theorem d_1_38_11 : decode prog_1_method_38_code 11 = .ok (.iload_n 0, 1) := D_26 W_prog_1_method_38_code_0 11 rfl rfl
theorem d_1_38_12 : decode prog_1_method_38_code 12 = .ok (.ifCond .le 14, 3) := D_158 W_prog_1_method_38_code_0 12 rfl rfl rfl
theorem d_1_38_26 : decode prog_1_method_38_code 26 = .ok (.bipush 6, 2) := D_16 W_prog_1_method_38_code_0 26 rfl rfl rfl
theorem d_1_38_28 : decode prog_1_method_38_code 28 = .ok (.iload_n 2, 1) := D_28 W_prog_1_method_38_code_0 28 rfl rfl
theorem d_1_38_29 : decode prog_1_method_38_code 29 = .ok (.isub, 1) := D_100 W_prog_1_method_38_code_0 29 rfl rfl
theorem d_1_38_30 : decode prog_1_method_38_code 30 = .ok (.iload_n 0, 1) := D_26 W_prog_1_method_38_code_0 30 rfl rfl
theorem d_1_38_31 : decode prog_1_method_38_code 31 = .ok (.ineg, 1) := D_116 W_prog_1_method_38_code_0 31 rfl rfl
theorem W_prog_1_method_38_code_32 : chW prog_1_method_38_code 32 [162, 0, 7, 2, 167, 0, 4, 3, 172] := chW_of (by decide +kernel)
theorem d_1_38_32 : decode prog_1_method_38_code 32 = .ok (.if_icmp .ge 7, 3) := D_162 W_prog_1_method_38_code_32 0 rfl rfl rfl
theorem d_1_38_39 : decode prog_1_method_38_code 39 = .ok (.iconst 0, 1) := D_3 W_prog_1_method_38_code_32 7 rfl rfl
theorem d_1_38_35 : decode prog_1_method_38_code 35 = .ok (.iconst (-1), 1) := D_2 W_prog_1_method_38_code_32 3 rfl rfl
theorem d_1_38_36 : decode prog_1_method_38_code 36 = .ok (.goto 4, 3) := D_167 W_prog_1_method_38_code_32 4 rfl rfl rfl
theorem d_1_38_15 : decode prog_1_method_38_code 15 = .ok (.iload_n 2, 1) := D_28 W_prog_1_method_38_code_0 15 rfl rfl
theorem d_1_38_16 : decode prog_1_method_38_code 16 = .ok (.iload_n 0, 1) := D_26 W_prog_1_method_38_code_0 16 rfl rfl
theorem d_1_38_17 : decode prog_1_method_38_code 17 = .ok (.if_icmp .ge 7, 3) := D_162 W_prog_1_method_38_code_0 17 rfl rfl rfl
theorem d_1_38_24 : decode prog_1_method_38_code 24 = .ok (.iconst 0, 1) := D_3 W_prog_1_method_38_code_0 24 rfl rfl
theorem d_1_38_20 : decode prog_1_method_38_code 20 = .ok (.iconst 1, 1) := D_4 W_prog_1_method_38_code_0 20 rfl rfl
theorem d_1_38_21 : decode prog_1_method_38_code 21 = .ok (.goto 4, 3) := D_167 W_prog_1_method_38_code_0 21 rfl rfl rfl
theorem d_1_38_25 : decode prog_1_method_38_code 25 = .ok (.ireturn, 1) := D_172 W_prog_1_method_38_code_0 25 rfl rfl
theorem d_1_38_40 : decode prog_1_method_38_code 40 = .ok (.ireturn, 1) := D_172 W_prog_1_method_38_code_32 8 rfl rfl
theorem W_prog_6_method_8_code_0 : chW prog_6_method_8_code 0 [42, 180, 0, 11, 27, 50, 78, 27, 158, 0, 48, 42, 180, 0, 11, 27, 4, 100, 50, 4, 182, 0, 45, 153, 0, 33, 42, 180, 0, 11, 27, 4, 100, 50, 45, 180] := chW_of (by decide +kernel)
theorem d_6_8_0 : decode prog_6_method_8_code 0 = .ok (.aload_n 0, 1) := D_42 W_prog_6_method_8_code_0 0 rfl rfl
theorem d_6_8_1 : decode prog_6_method_8_code 1 = .ok (.getfield 11, 3) := D_180 W_prog_6_method_8_code_0 1 rfl rfl rfl
theorem d_6_8_4 : decode prog_6_method_8_code 4 = .ok (.iload_n 1, 1) := D_27 W_prog_6_method_8_code_0 4 rfl rfl
theorem d_6_8_5 : decode prog_6_method_8_code 5 = .ok (.aaload, 1) := D_50 W_prog_6_method_8_code_0 5 rfl rfl
theorem d_6_8_6 : decode prog_6_method_8_code 6 = .ok (.astore_n 3, 1) := D_78 W_prog_6_method_8_code_0 6 rfl rfl
theorem d_6_8_7 : decode prog_6_method_8_code 7 = .ok (.iload_n 1, 1) := D_27 W_prog_6_method_8_code_0 7 rfl rfl
theorem d_6_8_8 : decode prog_6_method_8_code 8 = .ok (.ifCond .le 48, 3) := D_158 W_prog_6_method_8_code_0 8 rfl rfl rfl
theorem d_6_8_11 : decode prog_6_method_8_code 11 = .ok (.aload_n 0, 1) := D_42 W_prog_6_method_8_code_0 11 rfl rfl
theorem d_6_8_12 : decode prog_6_method_8_code 12 = .ok (.getfield 11, 3) := D_180 W_prog_6_method_8_code_0 12 rfl rfl rfl
theorem d_6_8_15 : decode prog_6_method_8_code 15 = .ok (.iload_n 1, 1) := D_27 W_prog_6_method_8_code_0 15 rfl rfl
theorem d_6_8_16 : decode prog_6_method_8_code 16 = .ok (.iconst 1, 1) := D_4 W_prog_6_method_8_code_0 16 rfl rfl
theorem d_6_8_17 : decode prog_6_method_8_code 17 = .ok (.isub, 1) := D_100 W_prog_6_method_8_code_0 17 rfl rfl
theorem d_6_8_18 : decode prog_6_method_8_code 18 = .ok (.aaload, 1) := D_50 W_prog_6_method_8_code_0 18 rfl rfl
theorem d_6_8_19 : decode prog_6_method_8_code 19 = .ok (.iconst 1, 1) := D_4 W_prog_6_method_8_code_0 19 rfl rfl
theorem d_6_8_20 : decode prog_6_method_8_code 20 = .ok (.invokevirtual 45, 3) := D_182 W_prog_6_method_8_code_0 20 rfl rfl rfl
theorem d_6_8_23 : decode prog_6_method_8_code 23 = .ok (.ifCond .eq 33, 3) := D_153 W_prog_6_method_8_code_0 23 rfl rfl rfl
theorem d_6_8_26 : decode prog_6_method_8_code 26 = .ok (.aload_n 0, 1) := D_42 W_prog_6_method_8_code_0 26 rfl rfl
theorem d_6_8_27 : decode prog_6_method_8_code 27 = .ok (.getfield 11, 3) := D_180 W_prog_6_method_8_code_0 27 rfl rfl rfl
theorem d_6_8_30 : decode prog_6_method_8_code 30 = .ok (.iload_n 1, 1) := D_27 W_prog_6_method_8_code_0 30 rfl rfl
theorem d_6_8_31 : decode prog_6_method_8_code 31 = .ok (.iconst 1, 1) := D_4 W_prog_6_method_8_code_0 31 rfl rfl
theorem W_prog_6_method_8_code_32 : chW prog_6_method_8_code 32 [100, 50, 45, 180, 0, 99, 28, 46, 45, 180, 0, 102, 28, 46, 182, 0, 105, 153, 0, 7, 4, 167, 0, 4, 3, 172] := chW_of (by decide +kernel)
theorem d_6_8_32 : decode prog_6_method_8_code 32 = .ok (.isub, 1) := D_100 W_prog_6_method_8_code_32 0 rfl rfl
theorem d_6_8_33 : decode prog_6_method_8_code 33 = .ok (.aaload, 1) := D_50 W_prog_6_method_8_code_32 1 rfl rfl
theorem d_6_8_34 : decode prog_6_method_8_code 34 = .ok (.aload_n 3, 1) := D_45 W_prog_6_method_8_code_32 2 rfl rfl
theorem d_6_8_35 : decode prog_6_method_8_code 35 = .ok (.getfield 99, 3) := D_180 W_prog_6_method_8_code_32 3 rfl rfl rfl
theorem d_6_8_38 : decode prog_6_method_8_code 38 = .ok (.iload_n 2, 1) := D_28 W_prog_6_method_8_code_32 6 rfl rfl
theorem d_6_8_39 : decode prog_6_method_8_code 39 = .ok (.iaload, 1) := D_46 W_prog_6_method_8_code_32 7 rfl rfl
theorem d_6_8_40 : decode prog_6_method_8_code 40 = .ok (.aload_n 3, 1) := D_45 W_prog_6_method_8_code_32 8 rfl rfl
theorem d_6_8_41 : decode prog_6_method_8_code 41 = .ok (.getfield 102, 3) := D_180 W_prog_6_method_8_code_32 9 rfl rfl rfl
theorem d_6_8_44 : decode prog_6_method_8_code 44 = .ok (.iload_n 2, 1) := D_28 W_prog_6_method_8_code_32 12 rfl rfl
theorem d_6_8_45 : decode prog_6_method_8_code 45 = .ok (.iaload, 1) := D_46 W_prog_6_method_8_code_32 13 rfl rfl
theorem d_6_8_46 : decode prog_6_method_8_code 46 = .ok (.invokevirtual 105, 3) := D_182 W_prog_6_method_8_code_32 14 rfl rfl rfl
theorem d_6_8_49 : decode prog_6_method_8_code 49 = .ok (.ifCond .eq 7, 3) := D_153 W_prog_6_method_8_code_32 17 rfl rfl rfl
theorem d_6_8_52 : decode prog_6_method_8_code 52 = .ok (.iconst 1, 1) := D_4 W_prog_6_method_8_code_32 20 rfl rfl
theorem d_6_8_53 : decode prog_6_method_8_code 53 = .ok (.goto 4, 3) := D_167 W_prog_6_method_8_code_32 21 rfl rfl rfl
theorem d_6_8_57 : decode prog_6_method_8_code 57 = .ok (.ireturn, 1) := D_172 W_prog_6_method_8_code_32 25 rfl rfl
theorem d_6_8_56 : decode prog_6_method_8_code 56 = .ok (.iconst 0, 1) := D_3 W_prog_6_method_8_code_32 24 rfl rfl
theorem W_prog_6_method_20_code_0 : chW prog_6_method_20_code 0 [42, 180, 0, 11, 42, 180, 0, 19, 3, 50, 27, 46, 50, 77, 44, 180, 0, 99, 44, 180, 0, 188, 4, 100, 3, 184, 0, 181, 46, 178, 0, 206, 42, 180, 0, 209] := chW_of (by decide +kernel)
theorem d_6_20_0 : decode prog_6_method_20_code 0 = .ok (.aload_n 0, 1) := D_42 W_prog_6_method_20_code_0 0 rfl rfl
theorem d_6_20_1 : decode prog_6_method_20_code 1 = .ok (.getfield 11, 3) := D_180 W_prog_6_method_20_code_0 1 rfl rfl rfl
theorem d_6_20_4 : decode prog_6_method_20_code 4 = .ok (.aload_n 0, 1) := D_42 W_prog_6_method_20_code_0 4 rfl rfl
theorem d_6_20_5 : decode prog_6_method_20_code 5 = .ok (.getfield 19, 3) := D_180 W_prog_6_method_20_code_0 5 rfl rfl rfl
theorem d_6_20_8 : decode prog_6_method_20_code 8 = .ok (.iconst 0, 1) := D_3 W_prog_6_method_20_code_0 8 rfl rfl
theorem d_6_20_9 : decode prog_6_method_20_code 9 = .ok (.aaload, 1) := D_50 W_prog_6_method_20_code_0 9 rfl rfl
theorem d_6_20_10 : decode prog_6_method_20_code 10 = .ok (.iload_n 1, 1) := D_27 W_prog_6_method_20_code_0 10 rfl rfl
theorem d_6_20_11 : decode prog_6_method_20_code 11 = .ok (.iaload, 1) := D_46 W_prog_6_method_20_code_0 11 rfl rfl
theorem d_6_20_12 : decode prog_6_method_20_code 12 = .ok (.aaload, 1) := D_50 W_prog_6_method_20_code_0 12 rfl rfl
theorem d_6_20_13 : decode prog_6_method_20_code 13 = .ok (.astore_n 2, 1) := D_77 W_prog_6_method_20_code_0 13 rfl rfl
theorem d_6_20_14 : decode prog_6_method_20_code 14 = .ok (.aload_n 2, 1) := D_44 W_prog_6_method_20_code_0 14 rfl rfl
theorem d_6_20_15 : decode prog_6_method_20_code 15 = .ok (.getfield 99, 3) := D_180 W_prog_6_method_20_code_0 15 rfl rfl rfl
theorem d_6_20_18 : decode prog_6_method_20_code 18 = .ok (.aload_n 2, 1) := D_44 W_prog_6_method_20_code_0 18 rfl rfl
theorem d_6_20_19 : decode prog_6_method_20_code 19 = .ok (.getfield 188, 3) := D_180 W_prog_6_method_20_code_0 19 rfl rfl rfl
theorem d_6_20_22 : decode prog_6_method_20_code 22 = .ok (.iconst 1, 1) := D_4 W_prog_6_method_20_code_0 22 rfl rfl
theorem d_6_20_23 : decode prog_6_method_20_code 23 = .ok (.isub, 1) := D_100 W_prog_6_method_20_code_0 23 rfl rfl
theorem d_6_20_24 : decode prog_6_method_20_code 24 = .ok (.iconst 0, 1) := D_3 W_prog_6_method_20_code_0 24 rfl rfl
theorem d_6_20_25 : decode prog_6_method_20_code 25 = .ok (.invokestatic 181, 3) := D_184 W_prog_6_method_20_code_0 25 rfl rfl rfl
theorem d_6_20_28 : decode prog_6_method_20_code 28 = .ok (.iaload, 1) := D_46 W_prog_6_method_20_code_0 28 rfl rfl
theorem d_6_20_29 : decode prog_6_method_20_code 29 = .ok (.getstatic 206, 3) := D_178 W_prog_6_method_20_code_0 29 rfl rfl rfl
theorem W_prog_6_method_20_code_32 : chW prog_6_method_20_code 32 [42, 180, 0, 209, 46, 100, 172] := chW_of (by decide +kernel)
theorem d_6_20_32 : decode prog_6_method_20_code 32 = .ok (.aload_n 0, 1) := D_42 W_prog_6_method_20_code_32 0 rfl rfl
theorem d_6_20_33 : decode prog_6_method_20_code 33 = .ok (.getfield 209, 3) := D_180 W_prog_6_method_20_code_32 1 rfl rfl rfl
theorem d_6_20_36 : decode prog_6_method_20_code 36 = .ok (.iaload, 1) := D_46 W_prog_6_method_20_code_32 4 rfl rfl
theorem d_6_20_37 : decode prog_6_method_20_code 37 = .ok (.isub, 1) := D_100 W_prog_6_method_20_code_32 5 rfl rfl
theorem d_6_20_38 : decode prog_6_method_20_code 38 = .ok (.ireturn, 1) := D_172 W_prog_6_method_20_code_32 6 rfl rfl
theorem W_prog_6_method_19_code_0 : chW prog_6_method_19_code 0 [42, 180, 0, 11, 42, 180, 0, 19, 3, 50, 27, 46, 50, 180, 0, 99, 3, 46, 178, 0, 206, 42, 180, 0, 209, 46, 100, 172] := chW_of (by decide +kernel)
theorem d_6_19_0 : decode prog_6_method_19_code 0 = .ok (.aload_n 0, 1) := D_42 W_prog_6_method_19_code_0 0 rfl rfl
theorem d_6_19_1 : decode prog_6_method_19_code 1 = .ok (.getfield 11, 3) := D_180 W_prog_6_method_19_code_0 1 rfl rfl rfl
theorem d_6_19_4 : decode prog_6_method_19_code 4 = .ok (.aload_n 0, 1) := D_42 W_prog_6_method_19_code_0 4 rfl rfl
theorem d_6_19_5 : decode prog_6_method_19_code 5 = .ok (.getfield 19, 3) := D_180 W_prog_6_method_19_code_0 5 rfl rfl rfl
theorem d_6_19_8 : decode prog_6_method_19_code 8 = .ok (.iconst 0, 1) := D_3 W_prog_6_method_19_code_0 8 rfl rfl
theorem d_6_19_9 : decode prog_6_method_19_code 9 = .ok (.aaload, 1) := D_50 W_prog_6_method_19_code_0 9 rfl rfl
theorem d_6_19_10 : decode prog_6_method_19_code 10 = .ok (.iload_n 1, 1) := D_27 W_prog_6_method_19_code_0 10 rfl rfl
theorem d_6_19_11 : decode prog_6_method_19_code 11 = .ok (.iaload, 1) := D_46 W_prog_6_method_19_code_0 11 rfl rfl
theorem d_6_19_12 : decode prog_6_method_19_code 12 = .ok (.aaload, 1) := D_50 W_prog_6_method_19_code_0 12 rfl rfl
theorem d_6_19_13 : decode prog_6_method_19_code 13 = .ok (.getfield 99, 3) := D_180 W_prog_6_method_19_code_0 13 rfl rfl rfl
theorem d_6_19_16 : decode prog_6_method_19_code 16 = .ok (.iconst 0, 1) := D_3 W_prog_6_method_19_code_0 16 rfl rfl
theorem d_6_19_17 : decode prog_6_method_19_code 17 = .ok (.iaload, 1) := D_46 W_prog_6_method_19_code_0 17 rfl rfl
theorem d_6_19_18 : decode prog_6_method_19_code 18 = .ok (.getstatic 206, 3) := D_178 W_prog_6_method_19_code_0 18 rfl rfl rfl
theorem d_6_19_21 : decode prog_6_method_19_code 21 = .ok (.aload_n 0, 1) := D_42 W_prog_6_method_19_code_0 21 rfl rfl
theorem d_6_19_22 : decode prog_6_method_19_code 22 = .ok (.getfield 209, 3) := D_180 W_prog_6_method_19_code_0 22 rfl rfl rfl
theorem d_6_19_25 : decode prog_6_method_19_code 25 = .ok (.iaload, 1) := D_46 W_prog_6_method_19_code_0 25 rfl rfl
theorem d_6_19_26 : decode prog_6_method_19_code 26 = .ok (.isub, 1) := D_100 W_prog_6_method_19_code_0 26 rfl rfl
theorem d_6_19_27 : decode prog_6_method_19_code 27 = .ok (.ireturn, 1) := D_172 W_prog_6_method_19_code_0 27 rfl rfl
theorem W_prog_8_method_6_code_0 : chW prog_8_method_6_code 0 [20, 0, 72, 42, 180, 0, 30, 4, 184, 0, 74, 133, 109, 42, 180, 0, 27, 42, 180, 0, 30, 184, 0, 77, 133, 105, 173] := chW_of (by decide +kernel)
theorem d_8_6_0 : decode prog_8_method_6_code 0 = .ok (.ldc2_w 72, 3) := D_20 W_prog_8_method_6_code_0 0 rfl rfl rfl
theorem d_8_6_3 : decode prog_8_method_6_code 3 = .ok (.aload_n 0, 1) := D_42 W_prog_8_method_6_code_0 3 rfl rfl
theorem d_8_6_4 : decode prog_8_method_6_code 4 = .ok (.getfield 30, 3) := D_180 W_prog_8_method_6_code_0 4 rfl rfl rfl
theorem d_8_6_7 : decode prog_8_method_6_code 7 = .ok (.iconst 1, 1) := D_4 W_prog_8_method_6_code_0 7 rfl rfl
theorem d_8_6_8 : decode prog_8_method_6_code 8 = .ok (.invokestatic 74, 3) := D_184 W_prog_8_method_6_code_0 8 rfl rfl rfl
theorem d_8_6_11 : decode prog_8_method_6_code 11 = .ok (.i2l, 1) := D_133 W_prog_8_method_6_code_0 11 rfl rfl
theorem d_8_6_12 : decode prog_8_method_6_code 12 = .ok (.ldiv, 1) := D_109 W_prog_8_method_6_code_0 12 rfl rfl
theorem d_8_6_13 : decode prog_8_method_6_code 13 = .ok (.aload_n 0, 1) := D_42 W_prog_8_method_6_code_0 13 rfl rfl
theorem d_8_6_14 : decode prog_8_method_6_code 14 = .ok (.getfield 27, 3) := D_180 W_prog_8_method_6_code_0 14 rfl rfl rfl
theorem d_8_6_17 : decode prog_8_method_6_code 17 = .ok (.aload_n 0, 1) := D_42 W_prog_8_method_6_code_0 17 rfl rfl
theorem d_8_6_18 : decode prog_8_method_6_code 18 = .ok (.getfield 30, 3) := D_180 W_prog_8_method_6_code_0 18 rfl rfl rfl
theorem d_8_6_21 : decode prog_8_method_6_code 21 = .ok (.invokestatic 77, 3) := D_184 W_prog_8_method_6_code_0 21 rfl rfl rfl
theorem d_8_6_24 : decode prog_8_method_6_code 24 = .ok (.i2l, 1) := D_133 W_prog_8_method_6_code_0 24 rfl rfl
theorem d_8_6_25 : decode prog_8_method_6_code 25 = .ok (.lmul, 1) := D_105 W_prog_8_method_6_code_0 25 rfl rfl
theorem d_8_6_26 : decode prog_8_method_6_code 26 = .ok (.lreturn, 1) := D_173 W_prog_8_method_6_code_0 26 rfl rfl
theorem W_prog_6_method_22_code_0 : chW prog_6_method_22_code 0 [42, 27, 182, 0, 191, 154, 0, 19, 42, 180, 0, 19, 7, 50, 27, 46, 6, 161, 0, 7, 4, 167, 0, 4, 3, 172] := chW_of (by decide +kernel)
theorem d_6_22_0 : decode prog_6_method_22_code 0 = .ok (.aload_n 0, 1) := D_42 W_prog_6_method_22_code_0 0 rfl rfl
theorem d_6_22_1 : decode prog_6_method_22_code 1 = .ok (.iload_n 1, 1) := D_27 W_prog_6_method_22_code_0 1 rfl rfl
theorem d_6_22_2 : decode prog_6_method_22_code 2 = .ok (.invokevirtual 191, 3) := D_182 W_prog_6_method_22_code_0 2 rfl rfl rfl
theorem d_6_22_5 : decode prog_6_method_22_code 5 = .ok (.ifCond .ne 19, 3) := D_154 W_prog_6_method_22_code_0 5 rfl rfl rfl
theorem d_6_22_8 : decode prog_6_method_22_code 8 = .ok (.aload_n 0, 1) := D_42 W_prog_6_method_22_code_0 8 rfl rfl
theorem d_6_22_9 : decode prog_6_method_22_code 9 = .ok (.getfield 19, 3) := D_180 W_prog_6_method_22_code_0 9 rfl rfl rfl
theorem d_6_22_12 : decode prog_6_method_22_code 12 = .ok (.iconst 4, 1) := D_7 W_prog_6_method_22_code_0 12 rfl rfl
theorem d_6_22_13 : decode prog_6_method_22_code 13 = .ok (.aaload, 1) := D_50 W_prog_6_method_22_code_0 13 rfl rfl
theorem d_6_22_14 : decode prog_6_method_22_code 14 = .ok (.iload_n 1, 1) := D_27 W_prog_6_method_22_code_0 14 rfl rfl
theorem d_6_22_15 : decode prog_6_method_22_code 15 = .ok (.iaload, 1) := D_46 W_prog_6_method_22_code_0 15 rfl rfl
theorem d_6_22_16 : decode prog_6_method_22_code 16 = .ok (.iconst 3, 1) := D_6 W_prog_6_method_22_code_0 16 rfl rfl
theorem d_6_22_17 : decode prog_6_method_22_code 17 = .ok (.if_icmp .lt 7, 3) := D_161 W_prog_6_method_22_code_0 17 rfl rfl rfl
theorem d_6_22_20 : decode prog_6_method_22_code 20 = .ok (.iconst 1, 1) := D_4 W_prog_6_method_22_code_0 20 rfl rfl
theorem d_6_22_21 : decode prog_6_method_22_code 21 = .ok (.goto 4, 3) := D_167 W_prog_6_method_22_code_0 21 rfl rfl rfl
theorem d_6_22_25 : decode prog_6_method_22_code 25 = .ok (.ireturn, 1) := D_172 W_prog_6_method_22_code_0 25 rfl rfl
theorem d_6_22_24 : decode prog_6_method_22_code 24 = .ok (.iconst 0, 1) := D_3 W_prog_6_method_22_code_0 24 rfl rfl
theorem W_prog_6_method_23_code_0 : chW prog_6_method_23_code 0 [28, 42, 180, 0, 35, 162, 0, 54, 42, 28, 182, 0, 218, 153, 0, 46, 42, 180, 0, 19, 4, 50, 27, 46, 42, 180, 0, 19, 4, 50, 28, 46, 160, 0, 27, 42] := chW_of (by decide +kernel)
theorem d_6_23_0 : decode prog_6_method_23_code 0 = .ok (.iload_n 2, 1) := D_28 W_prog_6_method_23_code_0 0 rfl rfl
theorem d_6_23_1 : decode prog_6_method_23_code 1 = .ok (.aload_n 0, 1) := D_42 W_prog_6_method_23_code_0 1 rfl rfl
theorem d_6_23_2 : decode prog_6_method_23_code 2 = .ok (.getfield 35, 3) := D_180 W_prog_6_method_23_code_0 2 rfl rfl rfl
theorem d_6_23_5 : decode prog_6_method_23_code 5 = .ok (.if_icmp .ge 54, 3) := D_162 W_prog_6_method_23_code_0 5 rfl rfl rfl
theorem d_6_23_8 : decode prog_6_method_23_code 8 = .ok (.aload_n 0, 1) := D_42 W_prog_6_method_23_code_0 8 rfl rfl
theorem d_6_23_9 : decode prog_6_method_23_code 9 = .ok (.iload_n 2, 1) := D_28 W_prog_6_method_23_code_0 9 rfl rfl
theorem d_6_23_10 : decode prog_6_method_23_code 10 = .ok (.invokevirtual 218, 3) := D_182 W_prog_6_method_23_code_0 10 rfl rfl rfl
theorem d_6_23_13 : decode prog_6_method_23_code 13 = .ok (.ifCond .eq 46, 3) := D_153 W_prog_6_method_23_code_0 13 rfl rfl rfl
theorem d_6_23_16 : decode prog_6_method_23_code 16 = .ok (.aload_n 0, 1) := D_42 W_prog_6_method_23_code_0 16 rfl rfl
theorem d_6_23_17 : decode prog_6_method_23_code 17 = .ok (.getfield 19, 3) := D_180 W_prog_6_method_23_code_0 17 rfl rfl rfl
theorem d_6_23_20 : decode prog_6_method_23_code 20 = .ok (.iconst 1, 1) := D_4 W_prog_6_method_23_code_0 20 rfl rfl
theorem d_6_23_21 : decode prog_6_method_23_code 21 = .ok (.aaload, 1) := D_50 W_prog_6_method_23_code_0 21 rfl rfl
theorem d_6_23_22 : decode prog_6_method_23_code 22 = .ok (.iload_n 1, 1) := D_27 W_prog_6_method_23_code_0 22 rfl rfl
theorem d_6_23_23 : decode prog_6_method_23_code 23 = .ok (.iaload, 1) := D_46 W_prog_6_method_23_code_0 23 rfl rfl
theorem d_6_23_24 : decode prog_6_method_23_code 24 = .ok (.aload_n 0, 1) := D_42 W_prog_6_method_23_code_0 24 rfl rfl
theorem d_6_23_25 : decode prog_6_method_23_code 25 = .ok (.getfield 19, 3) := D_180 W_prog_6_method_23_code_0 25 rfl rfl rfl
theorem d_6_23_28 : decode prog_6_method_23_code 28 = .ok (.iconst 1, 1) := D_4 W_prog_6_method_23_code_0 28 rfl rfl
