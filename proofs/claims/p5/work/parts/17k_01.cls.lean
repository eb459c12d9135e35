theorem d_12_2_77 : decode prog_12_method_2_code 77 = .ok (.ifCond .eq 15, 3) := D_153 W_prog_12_method_2_code_64 13 rfl rfl rfl
theorem d_12_2_92 : decode prog_12_method_2_code 92 = .ok (.aload_n 0, 1) := D_42 W_prog_12_method_2_code_64 28 rfl rfl
theorem d_12_2_93 : decode prog_12_method_2_code 93 = .ok (.getfield 9, 3) := D_180 W_prog_12_method_2_code_64 29 rfl rfl rfl
theorem W_prog_12_method_2_code_96 : chW prog_12_method_2_code 96 [29, 18, 47, 21, 5, 146, 182, 0, 49, 155, 0, 7, 8, 167, 0, 4, 4, 79, 42, 180, 0, 18, 29, 21, 5, 133, 80, 21, 6, 61, 132, 3, 1, 132, 4, 1] := chW_of (by decide +kernel)
theorem d_12_2_96 : decode prog_12_method_2_code 96 = .ok (.iload_n 3, 1) := D_29 W_prog_12_method_2_code_96 0 rfl rfl
theorem d_12_2_97 : decode prog_12_method_2_code 97 = .ok (.ldc 47, 2) := D_18 W_prog_12_method_2_code_96 1 rfl rfl
theorem d_12_2_99 : decode prog_12_method_2_code 99 = .ok (.iload 5, 2) := D_21 W_prog_12_method_2_code_96 3 rfl rfl
theorem d_12_2_101 : decode prog_12_method_2_code 101 = .ok (.i2c, 1) := D_146 W_prog_12_method_2_code_96 5 rfl rfl
theorem d_12_2_102 : decode prog_12_method_2_code 102 = .ok (.invokevirtual 49, 3) := D_182 W_prog_12_method_2_code_96 6 rfl rfl rfl
theorem W_prog_5_method_23_code_64 : chW prog_5_method_23_code 64 [25, 154, 0, 5, 3, 172, 42, 180, 0, 48, 16, 58, 182, 0, 153, 153, 0, 12, 42, 182, 1, 28, 154, 0, 5, 3, 172, 42, 180, 0, 18, 27, 42, 180, 0, 181] := chW_of (by decide +kernel)
theorem d_5_23_65 : decode prog_5_method_23_code 65 = .ok (.ifCond .ne 5, 3) := D_154 W_prog_5_method_23_code_64 1 rfl rfl rfl
theorem d_5_23_68 : decode prog_5_method_23_code 68 = .ok (.iconst 0, 1) := D_3 W_prog_5_method_23_code_64 4 rfl rfl
theorem d_5_23_69 : decode prog_5_method_23_code 69 = .ok (.ireturn, 1) := D_172 W_prog_5_method_23_code_64 5 rfl rfl
theorem d_5_23_52 : decode prog_5_method_23_code 52 = .ok (.aload_n 0, 1) := D_42 W_prog_5_method_23_code_32 20 rfl rfl
theorem d_5_23_53 : decode prog_5_method_23_code 53 = .ok (.iload_n 1, 1) := D_27 W_prog_5_method_23_code_32 21 rfl rfl
theorem d_5_23_54 : decode prog_5_method_23_code 54 = .ok (.invokevirtual 277, 3) := D_182 W_prog_5_method_23_code_32 22 rfl rfl rfl
theorem d_5_23_57 : decode prog_5_method_23_code 57 = .ok (.goto 13, 3) := D_167 W_prog_5_method_23_code_32 25 rfl rfl rfl
theorem d_5_23_31 : decode prog_5_method_23_code 31 = .ok (.aload_n 0, 1) := D_42 W_prog_5_method_23_code_0 31 rfl rfl
theorem d_5_23_32 : decode prog_5_method_23_code 32 = .ok (.getfield 48, 3) := D_180 W_prog_5_method_23_code_32 0 rfl rfl rfl
theorem d_5_23_35 : decode prog_5_method_23_code 35 = .ok (.invokevirtual 122, 3) := D_182 W_prog_5_method_23_code_32 3 rfl rfl rfl
theorem d_5_23_38 : decode prog_5_method_23_code 38 = .ok (.goto 32, 3) := D_167 W_prog_5_method_23_code_32 6 rfl rfl rfl
theorem d_5_23_70 : decode prog_5_method_23_code 70 = .ok (.aload_n 0, 1) := D_42 W_prog_5_method_23_code_64 6 rfl rfl
theorem d_5_23_71 : decode prog_5_method_23_code 71 = .ok (.getfield 48, 3) := D_180 W_prog_5_method_23_code_64 7 rfl rfl rfl
theorem d_5_23_74 : decode prog_5_method_23_code 74 = .ok (.bipush 58, 2) := D_16 W_prog_5_method_23_code_64 10 rfl rfl rfl
theorem d_5_23_76 : decode prog_5_method_23_code 76 = .ok (.invokevirtual 153, 3) := D_182 W_prog_5_method_23_code_64 12 rfl rfl rfl
theorem d_5_23_79 : decode prog_5_method_23_code 79 = .ok (.ifCond .eq 12, 3) := D_153 W_prog_5_method_23_code_64 15 rfl rfl rfl
theorem d_5_23_82 : decode prog_5_method_23_code 82 = .ok (.aload_n 0, 1) := D_42 W_prog_5_method_23_code_64 18 rfl rfl
theorem d_5_23_83 : decode prog_5_method_23_code 83 = .ok (.invokevirtual 284, 3) := D_182 W_prog_5_method_23_code_64 19 rfl rfl rfl
theorem d_10_14_9 : decode prog_10_method_14_code 9 = .ok (.i2l, 1) := D_133 W_prog_10_method_14_code_0 9 rfl rfl
theorem d_10_14_10 : decode prog_10_method_14_code 10 = .ok (.ladd, 1) := D_97 W_prog_10_method_14_code_0 10 rfl rfl
theorem d_10_14_11 : decode prog_10_method_14_code 11 = .ok (.putfield 123, 3) := D_181 W_prog_10_method_14_code_0 11 rfl rfl rfl
theorem d_10_14_14 : decode prog_10_method_14_code 14 = .ok (.aload_n 0, 1) := D_42 W_prog_10_method_14_code_0 14 rfl rfl
theorem d_10_14_15 : decode prog_10_method_14_code 15 = .ok (.getfield 27, 3) := D_180 W_prog_10_method_14_code_0 15 rfl rfl rfl
theorem d_10_14_18 : decode prog_10_method_14_code 18 = .ok (.istore_n 2, 1) := D_61 W_prog_10_method_14_code_0 18 rfl rfl
theorem d_10_14_19 : decode prog_10_method_14_code 19 = .ok (.aload_n 0, 1) := D_42 W_prog_10_method_14_code_0 19 rfl rfl
theorem d_10_14_20 : decode prog_10_method_14_code 20 = .ok (.invokevirtual 90, 3) := D_182 W_prog_10_method_14_code_0 20 rfl rfl rfl
theorem d_10_14_23 : decode prog_10_method_14_code 23 = .ok (.istore_n 3, 1) := D_62 W_prog_10_method_14_code_0 23 rfl rfl
theorem d_10_14_24 : decode prog_10_method_14_code 24 = .ok (.aload_n 0, 1) := D_42 W_prog_10_method_14_code_0 24 rfl rfl
theorem d_10_14_25 : decode prog_10_method_14_code 25 = .ok (.getfield 39, 3) := D_180 W_prog_10_method_14_code_0 25 rfl rfl rfl
theorem d_10_14_28 : decode prog_10_method_14_code 28 = .ok (.ifCond .eq 4, 3) := D_153 W_prog_10_method_14_code_0 28 rfl rfl rfl
theorem W_prog_10_method_14_code_32 : chW prog_10_method_14_code 32 [29, 17, 0, 255, 160, 0, 15, 42, 3, 181, 0, 120, 42, 182, 0, 139, 167, 0, 93, 29, 17, 0, 240, 159, 0, 10, 29, 17, 0, 247, 160, 0, 20, 42, 3, 181] := chW_of (by decide +kernel)
theorem d_10_14_32 : decode prog_10_method_14_code 32 = .ok (.iload_n 3, 1) := D_29 W_prog_10_method_14_code_32 0 rfl rfl
theorem d_10_14_33 : decode prog_10_method_14_code 33 = .ok (.sipush 255, 3) := D_17 W_prog_10_method_14_code_32 1 rfl rfl rfl
theorem d_10_14_36 : decode prog_10_method_14_code 36 = .ok (.if_icmp .ne 15, 3) := D_160 W_prog_10_method_14_code_32 4 rfl rfl rfl
theorem d_10_14_51 : decode prog_10_method_14_code 51 = .ok (.iload_n 3, 1) := D_29 W_prog_10_method_14_code_32 19 rfl rfl
theorem d_10_14_52 : decode prog_10_method_14_code 52 = .ok (.sipush 240, 3) := D_17 W_prog_10_method_14_code_32 20 rfl rfl rfl
theorem d_10_14_55 : decode prog_10_method_14_code 55 = .ok (.if_icmp .eq 10, 3) := D_159 W_prog_10_method_14_code_32 23 rfl rfl rfl
theorem d_10_14_58 : decode prog_10_method_14_code 58 = .ok (.iload_n 3, 1) := D_29 W_prog_10_method_14_code_32 26 rfl rfl
theorem d_10_14_59 : decode prog_10_method_14_code 59 = .ok (.sipush 247, 3) := D_17 W_prog_10_method_14_code_32 27 rfl rfl rfl
theorem d_10_14_62 : decode prog_10_method_14_code 62 = .ok (.if_icmp .ne 20, 3) := D_160 W_prog_10_method_14_code_32 30 rfl rfl rfl
theorem W_prog_10_method_14_code_64 : chW prog_10_method_14_code 64 [20, 42, 3, 181, 0, 120, 42, 42, 182, 0, 136, 133, 182, 0, 70, 167, 0, 62, 29, 17, 0, 240, 162, 0, 17, 29, 17, 0, 128, 162, 0, 19, 42, 180, 0, 120] := chW_of (by decide +kernel)
theorem d_10_14_82 : decode prog_10_method_14_code 82 = .ok (.iload_n 3, 1) := D_29 W_prog_10_method_14_code_64 18 rfl rfl
theorem d_10_14_83 : decode prog_10_method_14_code 83 = .ok (.sipush 240, 3) := D_17 W_prog_10_method_14_code_64 19 rfl rfl rfl
theorem d_10_14_86 : decode prog_10_method_14_code 86 = .ok (.if_icmp .ge 17, 3) := D_162 W_prog_10_method_14_code_64 22 rfl rfl rfl
theorem d_10_14_89 : decode prog_10_method_14_code 89 = .ok (.iload_n 3, 1) := D_29 W_prog_10_method_14_code_64 25 rfl rfl
theorem d_10_14_90 : decode prog_10_method_14_code 90 = .ok (.sipush 128, 3) := D_17 W_prog_10_method_14_code_64 26 rfl rfl rfl
theorem d_10_14_93 : decode prog_10_method_14_code 93 = .ok (.if_icmp .ge 19, 3) := D_162 W_prog_10_method_14_code_64 29 rfl rfl rfl
theorem W_prog_10_method_14_code_96 : chW prog_10_method_14_code 96 [42, 180, 0, 120, 154, 0, 12, 42, 4, 28, 182, 0, 83, 167, 0, 32, 29, 54, 4, 29, 17, 0, 128, 161, 0, 14, 42, 29, 181, 0, 120, 42, 182, 0, 142, 54] := chW_of (by decide +kernel)
theorem d_10_14_96 : decode prog_10_method_14_code 96 = .ok (.aload_n 0, 1) := D_42 W_prog_10_method_14_code_96 0 rfl rfl
theorem d_10_14_97 : decode prog_10_method_14_code 97 = .ok (.getfield 120, 3) := D_180 W_prog_10_method_14_code_96 1 rfl rfl rfl
theorem d_10_14_100 : decode prog_10_method_14_code 100 = .ok (.ifCond .ne 12, 3) := D_154 W_prog_10_method_14_code_96 4 rfl rfl rfl
theorem d_10_14_39 : decode prog_10_method_14_code 39 = .ok (.aload_n 0, 1) := D_42 W_prog_10_method_14_code_32 7 rfl rfl
theorem d_10_14_40 : decode prog_10_method_14_code 40 = .ok (.iconst 0, 1) := D_3 W_prog_10_method_14_code_32 8 rfl rfl
theorem d_10_14_41 : decode prog_10_method_14_code 41 = .ok (.putfield 120, 3) := D_181 W_prog_10_method_14_code_32 9 rfl rfl rfl
theorem d_10_14_44 : decode prog_10_method_14_code 44 = .ok (.aload_n 0, 1) := D_42 W_prog_10_method_14_code_32 12 rfl rfl
theorem d_10_14_45 : decode prog_10_method_14_code 45 = .ok (.invokevirtual 139, 3) := D_182 W_prog_10_method_14_code_32 13 rfl rfl rfl
theorem d_5_23_86 : decode prog_5_method_23_code 86 = .ok (.ifCond .ne 5, 3) := D_154 W_prog_5_method_23_code_64 22 rfl rfl rfl
theorem d_5_23_89 : decode prog_5_method_23_code 89 = .ok (.iconst 0, 1) := D_3 W_prog_5_method_23_code_64 25 rfl rfl
theorem d_5_23_90 : decode prog_5_method_23_code 90 = .ok (.ireturn, 1) := D_172 W_prog_5_method_23_code_64 26 rfl rfl
theorem d_5_23_91 : decode prog_5_method_23_code 91 = .ok (.aload_n 0, 1) := D_42 W_prog_5_method_23_code_64 27 rfl rfl
theorem d_5_23_92 : decode prog_5_method_23_code 92 = .ok (.getfield 18, 3) := D_180 W_prog_5_method_23_code_64 28 rfl rfl rfl
theorem d_5_23_95 : decode prog_5_method_23_code 95 = .ok (.iload_n 1, 1) := D_27 W_prog_5_method_23_code_64 31 rfl rfl
theorem W_prog_5_method_23_code_96 : chW prog_5_method_23_code 96 [42, 180, 0, 181, 79, 28, 154, 0, 8, 42, 27, 182, 1, 31, 4, 172] := chW_of (by decide +kernel)
theorem d_5_23_96 : decode prog_5_method_23_code 96 = .ok (.aload_n 0, 1) := D_42 W_prog_5_method_23_code_96 0 rfl rfl
theorem d_5_23_97 : decode prog_5_method_23_code 97 = .ok (.getfield 181, 3) := D_180 W_prog_5_method_23_code_96 1 rfl rfl rfl
theorem d_5_23_100 : decode prog_5_method_23_code 100 = .ok (.iastore, 1) := D_79 W_prog_5_method_23_code_96 4 rfl rfl
theorem d_5_23_101 : decode prog_5_method_23_code 101 = .ok (.iload_n 2, 1) := D_28 W_prog_5_method_23_code_96 5 rfl rfl
theorem d_5_23_102 : decode prog_5_method_23_code 102 = .ok (.ifCond .ne 8, 3) := D_154 W_prog_5_method_23_code_96 6 rfl rfl rfl
theorem d_5_23_105 : decode prog_5_method_23_code 105 = .ok (.aload_n 0, 1) := D_42 W_prog_5_method_23_code_96 9 rfl rfl
theorem d_5_23_106 : decode prog_5_method_23_code 106 = .ok (.iload_n 1, 1) := D_27 W_prog_5_method_23_code_96 10 rfl rfl
theorem d_5_23_107 : decode prog_5_method_23_code 107 = .ok (.invokevirtual 287, 3) := D_182 W_prog_5_method_23_code_96 11 rfl rfl rfl
theorem d_10_14_48 : decode prog_10_method_14_code 48 = .ok (.goto 93, 3) := D_167 W_prog_10_method_14_code_32 16 rfl rfl rfl
theorem d_10_14_31 : decode prog_10_method_14_code 31 = .ok (.return_, 1) := D_177 W_prog_10_method_14_code_0 31 rfl rfl
theorem W_prog_10_method_14_code_128 : chW prog_10_method_14_code 128 [182, 0, 142, 54, 4, 42, 21, 4, 28, 27, 182, 0, 145, 177] := chW_of (by decide +kernel)
theorem d_10_14_141 : decode prog_10_method_14_code 141 = .ok (.return_, 1) := D_177 W_prog_10_method_14_code_128 13 rfl rfl
theorem d_10_14_65 : decode prog_10_method_14_code 65 = .ok (.aload_n 0, 1) := D_42 W_prog_10_method_14_code_64 1 rfl rfl
theorem d_10_14_66 : decode prog_10_method_14_code 66 = .ok (.iconst 0, 1) := D_3 W_prog_10_method_14_code_64 2 rfl rfl
theorem d_10_14_67 : decode prog_10_method_14_code 67 = .ok (.putfield 120, 3) := D_181 W_prog_10_method_14_code_64 3 rfl rfl rfl
theorem d_10_14_70 : decode prog_10_method_14_code 70 = .ok (.aload_n 0, 1) := D_42 W_prog_10_method_14_code_64 6 rfl rfl
theorem d_10_14_71 : decode prog_10_method_14_code 71 = .ok (.aload_n 0, 1) := D_42 W_prog_10_method_14_code_64 7 rfl rfl
theorem d_10_14_72 : decode prog_10_method_14_code 72 = .ok (.invokevirtual 136, 3) := D_182 W_prog_10_method_14_code_64 8 rfl rfl rfl
theorem d_10_14_75 : decode prog_10_method_14_code 75 = .ok (.i2l, 1) := D_133 W_prog_10_method_14_code_64 11 rfl rfl
theorem d_10_14_76 : decode prog_10_method_14_code 76 = .ok (.invokevirtual 70, 3) := D_182 W_prog_10_method_14_code_64 12 rfl rfl rfl
theorem d_10_14_79 : decode prog_10_method_14_code 79 = .ok (.goto 62, 3) := D_167 W_prog_10_method_14_code_64 15 rfl rfl rfl
theorem d_10_14_103 : decode prog_10_method_14_code 103 = .ok (.aload_n 0, 1) := D_42 W_prog_10_method_14_code_96 7 rfl rfl
theorem d_10_14_104 : decode prog_10_method_14_code 104 = .ok (.iconst 1, 1) := D_4 W_prog_10_method_14_code_96 8 rfl rfl
theorem d_10_14_105 : decode prog_10_method_14_code 105 = .ok (.iload_n 2, 1) := D_28 W_prog_10_method_14_code_96 9 rfl rfl
theorem d_10_14_106 : decode prog_10_method_14_code 106 = .ok (.invokevirtual 83, 3) := D_182 W_prog_10_method_14_code_96 10 rfl rfl rfl
theorem d_10_14_109 : decode prog_10_method_14_code 109 = .ok (.goto 32, 3) := D_167 W_prog_10_method_14_code_96 13 rfl rfl rfl
theorem d_10_14_112 : decode prog_10_method_14_code 112 = .ok (.iload_n 3, 1) := D_29 W_prog_10_method_14_code_96 16 rfl rfl
theorem d_10_14_113 : decode prog_10_method_14_code 113 = .ok (.istore 4, 2) := D_54 W_prog_10_method_14_code_96 17 rfl rfl
theorem d_10_14_115 : decode prog_10_method_14_code 115 = .ok (.iload_n 3, 1) := D_29 W_prog_10_method_14_code_96 19 rfl rfl
theorem d_10_14_116 : decode prog_10_method_14_code 116 = .ok (.sipush 128, 3) := D_17 W_prog_10_method_14_code_96 20 rfl rfl rfl
theorem d_10_14_119 : decode prog_10_method_14_code 119 = .ok (.if_icmp .lt 14, 3) := D_161 W_prog_10_method_14_code_96 23 rfl rfl rfl
theorem d_10_14_122 : decode prog_10_method_14_code 122 = .ok (.aload_n 0, 1) := D_42 W_prog_10_method_14_code_96 26 rfl rfl
theorem d_10_14_123 : decode prog_10_method_14_code 123 = .ok (.iload_n 3, 1) := D_29 W_prog_10_method_14_code_96 27 rfl rfl
theorem d_10_14_124 : decode prog_10_method_14_code 124 = .ok (.putfield 120, 3) := D_181 W_prog_10_method_14_code_96 28 rfl rfl rfl
theorem d_10_14_127 : decode prog_10_method_14_code 127 = .ok (.aload_n 0, 1) := D_42 W_prog_10_method_14_code_96 31 rfl rfl
theorem d_10_14_128 : decode prog_10_method_14_code 128 = .ok (.invokevirtual 142, 3) := D_182 W_prog_10_method_14_code_128 0 rfl rfl rfl
theorem d_10_14_131 : decode prog_10_method_14_code 131 = .ok (.istore 4, 2) := D_54 W_prog_10_method_14_code_128 3 rfl rfl
theorem d_10_14_133 : decode prog_10_method_14_code 133 = .ok (.aload_n 0, 1) := D_42 W_prog_10_method_14_code_128 5 rfl rfl
theorem d_10_14_134 : decode prog_10_method_14_code 134 = .ok (.iload 4, 2) := D_21 W_prog_10_method_14_code_128 6 rfl rfl
theorem d_10_14_136 : decode prog_10_method_14_code 136 = .ok (.iload_n 2, 1) := D_28 W_prog_10_method_14_code_128 8 rfl rfl
theorem d_10_14_137 : decode prog_10_method_14_code 137 = .ok (.iload_n 1, 1) := D_27 W_prog_10_method_14_code_128 9 rfl rfl
theorem d_10_14_138 : decode prog_10_method_14_code 138 = .ok (.invokevirtual 145, 3) := D_182 W_prog_10_method_14_code_128 10 rfl rfl rfl
theorem d_9_9_28 : decode prog_9_method_9_code 28 = .ok (.aload_n 0, 1) := D_42 W_prog_9_method_9_code_0 28 rfl rfl
theorem d_9_9_29 : decode prog_9_method_9_code 29 = .ok (.getfield 26, 3) := D_180 W_prog_9_method_9_code_0 29 rfl rfl rfl
theorem W_prog_9_method_9_code_32 : chW prog_9_method_9_code 32 [27, 184, 0, 141, 182, 0, 144, 42, 180, 0, 26, 42, 180, 0, 22, 180, 0, 40, 6, 46, 4, 160, 0, 8, 18, 147, 167, 0, 5, 18, 149, 182, 0, 137, 42, 180] := chW_of (by decide +kernel)
theorem d_9_9_32 : decode prog_9_method_9_code 32 = .ok (.iload_n 1, 1) := D_27 W_prog_9_method_9_code_32 0 rfl rfl
theorem d_9_9_33 : decode prog_9_method_9_code 33 = .ok (.invokestatic 141, 3) := D_184 W_prog_9_method_9_code_32 1 rfl rfl rfl
theorem d_9_9_36 : decode prog_9_method_9_code 36 = .ok (.invokevirtual 144, 3) := D_182 W_prog_9_method_9_code_32 4 rfl rfl rfl
theorem d_9_9_39 : decode prog_9_method_9_code 39 = .ok (.aload_n 0, 1) := D_42 W_prog_9_method_9_code_32 7 rfl rfl
theorem d_9_9_40 : decode prog_9_method_9_code 40 = .ok (.getfield 26, 3) := D_180 W_prog_9_method_9_code_32 8 rfl rfl rfl
theorem d_9_9_43 : decode prog_9_method_9_code 43 = .ok (.aload_n 0, 1) := D_42 W_prog_9_method_9_code_32 11 rfl rfl
theorem d_9_9_44 : decode prog_9_method_9_code 44 = .ok (.getfield 22, 3) := D_180 W_prog_9_method_9_code_32 12 rfl rfl rfl
theorem d_9_9_47 : decode prog_9_method_9_code 47 = .ok (.getfield 40, 3) := D_180 W_prog_9_method_9_code_32 15 rfl rfl rfl
theorem d_9_9_50 : decode prog_9_method_9_code 50 = .ok (.iconst 3, 1) := D_6 W_prog_9_method_9_code_32 18 rfl rfl
theorem d_9_9_51 : decode prog_9_method_9_code 51 = .ok (.iaload, 1) := D_46 W_prog_9_method_9_code_32 19 rfl rfl
theorem d_9_9_52 : decode prog_9_method_9_code 52 = .ok (.iconst 1, 1) := D_4 W_prog_9_method_9_code_32 20 rfl rfl
theorem d_9_9_53 : decode prog_9_method_9_code 53 = .ok (.if_icmp .ne 8, 3) := D_160 W_prog_9_method_9_code_32 21 rfl rfl rfl
theorem d_9_9_61 : decode prog_9_method_9_code 61 = .ok (.ldc 149, 2) := D_18 W_prog_9_method_9_code_32 29 rfl rfl
theorem d_9_9_56 : decode prog_9_method_9_code 56 = .ok (.ldc 147, 2) := D_18 W_prog_9_method_9_code_32 24 rfl rfl
theorem d_9_9_58 : decode prog_9_method_9_code 58 = .ok (.goto 5, 3) := D_167 W_prog_9_method_9_code_32 26 rfl rfl rfl
theorem d_9_9_63 : decode prog_9_method_9_code 63 = .ok (.invokevirtual 137, 3) := D_182 W_prog_9_method_9_code_32 31 rfl rfl rfl
theorem W_prog_9_method_9_code_64 : chW prog_9_method_9_code 64 [0, 137, 42, 180, 0, 26, 42, 180, 0, 22, 180, 0, 40, 7, 46, 182, 0, 144, 42, 180, 0, 26, 16, 47, 182, 0, 151, 42, 180, 0, 26, 42, 180, 0, 22, 180] := chW_of (by decide +kernel)
theorem d_9_9_66 : decode prog_9_method_9_code 66 = .ok (.aload_n 0, 1) := D_42 W_prog_9_method_9_code_64 2 rfl rfl
theorem d_9_9_67 : decode prog_9_method_9_code 67 = .ok (.getfield 26, 3) := D_180 W_prog_9_method_9_code_64 3 rfl rfl rfl
theorem d_9_9_70 : decode prog_9_method_9_code 70 = .ok (.aload_n 0, 1) := D_42 W_prog_9_method_9_code_64 6 rfl rfl
theorem d_9_9_71 : decode prog_9_method_9_code 71 = .ok (.getfield 22, 3) := D_180 W_prog_9_method_9_code_64 7 rfl rfl rfl
theorem d_9_9_74 : decode prog_9_method_9_code 74 = .ok (.getfield 40, 3) := D_180 W_prog_9_method_9_code_64 10 rfl rfl rfl
theorem d_9_9_77 : decode prog_9_method_9_code 77 = .ok (.iconst 4, 1) := D_7 W_prog_9_method_9_code_64 13 rfl rfl
theorem d_9_9_78 : decode prog_9_method_9_code 78 = .ok (.iaload, 1) := D_46 W_prog_9_method_9_code_64 14 rfl rfl
theorem d_9_9_79 : decode prog_9_method_9_code 79 = .ok (.invokevirtual 144, 3) := D_182 W_prog_9_method_9_code_64 15 rfl rfl rfl
theorem d_9_9_82 : decode prog_9_method_9_code 82 = .ok (.aload_n 0, 1) := D_42 W_prog_9_method_9_code_64 18 rfl rfl
theorem d_9_9_83 : decode prog_9_method_9_code 83 = .ok (.getfield 26, 3) := D_180 W_prog_9_method_9_code_64 19 rfl rfl rfl
theorem d_9_9_86 : decode prog_9_method_9_code 86 = .ok (.bipush 47, 2) := D_16 W_prog_9_method_9_code_64 22 rfl rfl rfl
theorem d_9_9_88 : decode prog_9_method_9_code 88 = .ok (.invokevirtual 151, 3) := D_182 W_prog_9_method_9_code_64 24 rfl rfl rfl
theorem d_9_9_91 : decode prog_9_method_9_code 91 = .ok (.aload_n 0, 1) := D_42 W_prog_9_method_9_code_64 27 rfl rfl
theorem d_9_9_92 : decode prog_9_method_9_code 92 = .ok (.getfield 26, 3) := D_180 W_prog_9_method_9_code_64 28 rfl rfl rfl
theorem d_9_9_95 : decode prog_9_method_9_code 95 = .ok (.aload_n 0, 1) := D_42 W_prog_9_method_9_code_64 31 rfl rfl
theorem W_prog_9_method_9_code_96 : chW prog_9_method_9_code 96 [180, 0, 22, 180, 0, 40, 8, 46, 182, 0, 144, 42, 180, 0, 26, 18, 154, 182, 0, 137, 42, 180, 0, 26, 42, 180, 0, 22, 180, 0, 40, 16, 6, 46, 182, 0] := chW_of (by decide +kernel)
theorem d_9_9_96 : decode prog_9_method_9_code 96 = .ok (.getfield 22, 3) := D_180 W_prog_9_method_9_code_96 0 rfl rfl rfl
theorem d_9_9_99 : decode prog_9_method_9_code 99 = .ok (.getfield 40, 3) := D_180 W_prog_9_method_9_code_96 3 rfl rfl rfl
theorem d_9_9_102 : decode prog_9_method_9_code 102 = .ok (.iconst 5, 1) := D_8 W_prog_9_method_9_code_96 6 rfl rfl
theorem d_9_9_103 : decode prog_9_method_9_code 103 = .ok (.iaload, 1) := D_46 W_prog_9_method_9_code_96 7 rfl rfl
theorem d_9_9_104 : decode prog_9_method_9_code 104 = .ok (.invokevirtual 144, 3) := D_182 W_prog_9_method_9_code_96 8 rfl rfl rfl
theorem d_9_9_107 : decode prog_9_method_9_code 107 = .ok (.aload_n 0, 1) := D_42 W_prog_9_method_9_code_96 11 rfl rfl
theorem d_9_9_108 : decode prog_9_method_9_code 108 = .ok (.getfield 26, 3) := D_180 W_prog_9_method_9_code_96 12 rfl rfl rfl
theorem d_9_9_111 : decode prog_9_method_9_code 111 = .ok (.ldc 154, 2) := D_18 W_prog_9_method_9_code_96 15 rfl rfl
theorem d_9_9_113 : decode prog_9_method_9_code 113 = .ok (.invokevirtual 137, 3) := D_182 W_prog_9_method_9_code_96 17 rfl rfl rfl
theorem d_9_9_116 : decode prog_9_method_9_code 116 = .ok (.aload_n 0, 1) := D_42 W_prog_9_method_9_code_96 20 rfl rfl
theorem d_9_9_117 : decode prog_9_method_9_code 117 = .ok (.getfield 26, 3) := D_180 W_prog_9_method_9_code_96 21 rfl rfl rfl
theorem d_9_9_120 : decode prog_9_method_9_code 120 = .ok (.aload_n 0, 1) := D_42 W_prog_9_method_9_code_96 24 rfl rfl
theorem d_9_9_121 : decode prog_9_method_9_code 121 = .ok (.getfield 22, 3) := D_180 W_prog_9_method_9_code_96 25 rfl rfl rfl
theorem d_9_9_124 : decode prog_9_method_9_code 124 = .ok (.getfield 40, 3) := D_180 W_prog_9_method_9_code_96 28 rfl rfl rfl
theorem d_9_9_127 : decode prog_9_method_9_code 127 = .ok (.bipush 6, 2) := D_16 W_prog_9_method_9_code_96 31 rfl rfl rfl
theorem W_prog_9_method_9_code_128 : chW prog_9_method_9_code 128 [6, 46, 182, 0, 144, 42, 180, 0, 26, 16, 10, 182, 0, 151, 177] := chW_of (by decide +kernel)
theorem d_9_9_129 : decode prog_9_method_9_code 129 = .ok (.iaload, 1) := D_46 W_prog_9_method_9_code_128 1 rfl rfl
theorem d_9_9_130 : decode prog_9_method_9_code 130 = .ok (.invokevirtual 144, 3) := D_182 W_prog_9_method_9_code_128 2 rfl rfl rfl
theorem d_9_9_133 : decode prog_9_method_9_code 133 = .ok (.aload_n 0, 1) := D_42 W_prog_9_method_9_code_128 5 rfl rfl
theorem d_9_9_134 : decode prog_9_method_9_code 134 = .ok (.getfield 26, 3) := D_180 W_prog_9_method_9_code_128 6 rfl rfl rfl
theorem d_9_9_137 : decode prog_9_method_9_code 137 = .ok (.bipush 10, 2) := D_16 W_prog_9_method_9_code_128 9 rfl rfl rfl
theorem d_9_9_139 : decode prog_9_method_9_code 139 = .ok (.invokevirtual 151, 3) := D_182 W_prog_9_method_9_code_128 11 rfl rfl rfl
theorem d_9_9_142 : decode prog_9_method_9_code 142 = .ok (.return_, 1) := D_177 W_prog_9_method_9_code_128 14 rfl rfl
theorem d_9_13_44 : decode prog_9_method_13_code 44 = .ok (.iconst 0, 1) := D_3 W_prog_9_method_13_code_32 12 rfl rfl
theorem d_9_13_45 : decode prog_9_method_13_code 45 = .ok (.istore_n 3, 1) := D_62 W_prog_9_method_13_code_32 13 rfl rfl
theorem d_9_13_46 : decode prog_9_method_13_code 46 = .ok (.iload_n 3, 1) := D_29 W_prog_9_method_13_code_32 14 rfl rfl
theorem d_9_13_47 : decode prog_9_method_13_code 47 = .ok (.aload_n 0, 1) := D_42 W_prog_9_method_13_code_32 15 rfl rfl
theorem d_9_13_48 : decode prog_9_method_13_code 48 = .ok (.getfield 12, 3) := D_180 W_prog_9_method_13_code_32 16 rfl rfl rfl
theorem d_9_13_51 : decode prog_9_method_13_code 51 = .ok (.getfield 115, 3) := D_180 W_prog_9_method_13_code_32 19 rfl rfl rfl
theorem d_9_13_54 : decode prog_9_method_13_code 54 = .ok (.if_icmp .ge 49, 3) := D_162 W_prog_9_method_13_code_32 22 rfl rfl rfl
theorem W_prog_9_method_13_code_96 : chW prog_9_method_13_code 96 [212, 132, 3, 1, 167, 255, 202, 42, 180, 0, 26, 42, 180, 0, 12, 180, 0, 115, 4, 164, 0, 8, 18, 215, 167, 0, 5, 18, 217, 182, 0, 137, 42, 180, 0, 26] := chW_of (by decide +kernel)
theorem d_9_13_103 : decode prog_9_method_13_code 103 = .ok (.aload_n 0, 1) := D_42 W_prog_9_method_13_code_96 7 rfl rfl
theorem d_9_13_104 : decode prog_9_method_13_code 104 = .ok (.getfield 26, 3) := D_180 W_prog_9_method_13_code_96 8 rfl rfl rfl
theorem d_9_13_107 : decode prog_9_method_13_code 107 = .ok (.aload_n 0, 1) := D_42 W_prog_9_method_13_code_96 11 rfl rfl
theorem d_9_13_108 : decode prog_9_method_13_code 108 = .ok (.getfield 12, 3) := D_180 W_prog_9_method_13_code_96 12 rfl rfl rfl
theorem d_9_13_111 : decode prog_9_method_13_code 111 = .ok (.getfield 115, 3) := D_180 W_prog_9_method_13_code_96 15 rfl rfl rfl
theorem d_9_13_114 : decode prog_9_method_13_code 114 = .ok (.iconst 1, 1) := D_4 W_prog_9_method_13_code_96 18 rfl rfl
theorem d_9_13_115 : decode prog_9_method_13_code 115 = .ok (.if_icmp .le 8, 3) := D_164 W_prog_9_method_13_code_96 19 rfl rfl rfl
theorem d_9_13_123 : decode prog_9_method_13_code 123 = .ok (.ldc 217, 2) := D_18 W_prog_9_method_13_code_96 27 rfl rfl
theorem d_9_13_118 : decode prog_9_method_13_code 118 = .ok (.ldc 215, 2) := D_18 W_prog_9_method_13_code_96 22 rfl rfl
theorem d_9_13_120 : decode prog_9_method_13_code 120 = .ok (.goto 5, 3) := D_167 W_prog_9_method_13_code_96 24 rfl rfl rfl
theorem d_9_13_57 : decode prog_9_method_13_code 57 = .ok (.aload_n 0, 1) := D_42 W_prog_9_method_13_code_32 25 rfl rfl
theorem d_9_13_58 : decode prog_9_method_13_code 58 = .ok (.getfield 26, 3) := D_180 W_prog_9_method_13_code_32 26 rfl rfl rfl
theorem d_9_13_61 : decode prog_9_method_13_code 61 = .ok (.iload_n 3, 1) := D_29 W_prog_9_method_13_code_32 29 rfl rfl
theorem d_9_13_62 : decode prog_9_method_13_code 62 = .ok (.ifCond .le 8, 3) := D_158 W_prog_9_method_13_code_32 30 rfl rfl rfl
theorem W_prog_9_method_13_code_64 : chW prog_9_method_13_code 64 [8, 18, 204, 167, 0, 5, 18, 202, 182, 0, 137, 42, 42, 180, 0, 12, 180, 0, 206, 29, 46, 42, 180, 0, 12, 180, 0, 209, 29, 46, 182, 0, 212, 132, 3, 1] := chW_of (by decide +kernel)
theorem d_9_13_70 : decode prog_9_method_13_code 70 = .ok (.ldc 202, 2) := D_18 W_prog_9_method_13_code_64 6 rfl rfl
theorem d_9_13_65 : decode prog_9_method_13_code 65 = .ok (.ldc 204, 2) := D_18 W_prog_9_method_13_code_64 1 rfl rfl
theorem d_9_13_67 : decode prog_9_method_13_code 67 = .ok (.goto 5, 3) := D_167 W_prog_9_method_13_code_64 3 rfl rfl rfl
theorem d_9_13_72 : decode prog_9_method_13_code 72 = .ok (.invokevirtual 137, 3) := D_182 W_prog_9_method_13_code_64 8 rfl rfl rfl
theorem d_9_13_75 : decode prog_9_method_13_code 75 = .ok (.aload_n 0, 1) := D_42 W_prog_9_method_13_code_64 11 rfl rfl
theorem d_9_13_76 : decode prog_9_method_13_code 76 = .ok (.aload_n 0, 1) := D_42 W_prog_9_method_13_code_64 12 rfl rfl
theorem d_9_13_77 : decode prog_9_method_13_code 77 = .ok (.getfield 12, 3) := D_180 W_prog_9_method_13_code_64 13 rfl rfl rfl
theorem d_9_13_80 : decode prog_9_method_13_code 80 = .ok (.getfield 206, 3) := D_180 W_prog_9_method_13_code_64 16 rfl rfl rfl
theorem d_9_13_83 : decode prog_9_method_13_code 83 = .ok (.iload_n 3, 1) := D_29 W_prog_9_method_13_code_64 19 rfl rfl
theorem d_9_13_84 : decode prog_9_method_13_code 84 = .ok (.iaload, 1) := D_46 W_prog_9_method_13_code_64 20 rfl rfl
theorem d_9_13_85 : decode prog_9_method_13_code 85 = .ok (.aload_n 0, 1) := D_42 W_prog_9_method_13_code_64 21 rfl rfl
theorem d_9_13_86 : decode prog_9_method_13_code 86 = .ok (.getfield 12, 3) := D_180 W_prog_9_method_13_code_64 22 rfl rfl rfl
theorem d_9_13_89 : decode prog_9_method_13_code 89 = .ok (.getfield 209, 3) := D_180 W_prog_9_method_13_code_64 25 rfl rfl rfl
theorem d_9_13_92 : decode prog_9_method_13_code 92 = .ok (.iload_n 3, 1) := D_29 W_prog_9_method_13_code_64 28 rfl rfl
theorem d_9_13_93 : decode prog_9_method_13_code 93 = .ok (.iaload, 1) := D_46 W_prog_9_method_13_code_64 29 rfl rfl
theorem d_9_13_94 : decode prog_9_method_13_code 94 = .ok (.invokevirtual 212, 3) := D_182 W_prog_9_method_13_code_64 30 rfl rfl rfl
theorem d_9_13_97 : decode prog_9_method_13_code 97 = .ok (.iinc 3 1, 3) := D_132 W_prog_9_method_13_code_96 1 rfl rfl rfl
theorem d_9_13_100 : decode prog_9_method_13_code 100 = .ok (.goto (-54), 3) := D_167 W_prog_9_method_13_code_96 4 rfl rfl rfl
theorem d_9_13_125 : decode prog_9_method_13_code 125 = .ok (.invokevirtual 137, 3) := D_182 W_prog_9_method_13_code_96 29 rfl rfl rfl
theorem W_prog_9_method_13_code_128 : chW prog_9_method_13_code 128 [42, 180, 0, 26, 4, 27, 6, 108, 120, 182, 0, 144, 3, 62, 29, 5, 27, 6, 112, 100, 162, 0, 18, 42, 180, 0, 26, 16, 46, 182, 0, 151, 132, 3, 1, 167] := chW_of (by decide +kernel)
theorem d_9_13_128 : decode prog_9_method_13_code 128 = .ok (.aload_n 0, 1) := D_42 W_prog_9_method_13_code_128 0 rfl rfl
theorem d_9_13_129 : decode prog_9_method_13_code 129 = .ok (.getfield 26, 3) := D_180 W_prog_9_method_13_code_128 1 rfl rfl rfl
theorem d_9_13_132 : decode prog_9_method_13_code 132 = .ok (.iconst 1, 1) := D_4 W_prog_9_method_13_code_128 4 rfl rfl
theorem d_9_13_133 : decode prog_9_method_13_code 133 = .ok (.iload_n 1, 1) := D_27 W_prog_9_method_13_code_128 5 rfl rfl
theorem d_9_13_134 : decode prog_9_method_13_code 134 = .ok (.iconst 3, 1) := D_6 W_prog_9_method_13_code_128 6 rfl rfl
theorem d_9_13_135 : decode prog_9_method_13_code 135 = .ok (.idiv, 1) := D_108 W_prog_9_method_13_code_128 7 rfl rfl
theorem d_9_13_136 : decode prog_9_method_13_code 136 = .ok (.ishl, 1) := D_120 W_prog_9_method_13_code_128 8 rfl rfl
theorem d_9_13_137 : decode prog_9_method_13_code 137 = .ok (.invokevirtual 144, 3) := D_182 W_prog_9_method_13_code_128 9 rfl rfl rfl
theorem d_9_13_140 : decode prog_9_method_13_code 140 = .ok (.iconst 0, 1) := D_3 W_prog_9_method_13_code_128 12 rfl rfl
theorem d_9_13_141 : decode prog_9_method_13_code 141 = .ok (.istore_n 3, 1) := D_62 W_prog_9_method_13_code_128 13 rfl rfl
theorem d_9_13_142 : decode prog_9_method_13_code 142 = .ok (.iload_n 3, 1) := D_29 W_prog_9_method_13_code_128 14 rfl rfl
theorem d_9_13_143 : decode prog_9_method_13_code 143 = .ok (.iconst 2, 1) := D_5 W_prog_9_method_13_code_128 15 rfl rfl
theorem d_9_13_144 : decode prog_9_method_13_code 144 = .ok (.iload_n 1, 1) := D_27 W_prog_9_method_13_code_128 16 rfl rfl
theorem d_9_13_145 : decode prog_9_method_13_code 145 = .ok (.iconst 3, 1) := D_6 W_prog_9_method_13_code_128 17 rfl rfl
theorem d_9_13_146 : decode prog_9_method_13_code 146 = .ok (.irem, 1) := D_112 W_prog_9_method_13_code_128 18 rfl rfl
theorem d_9_13_147 : decode prog_9_method_13_code 147 = .ok (.isub, 1) := D_100 W_prog_9_method_13_code_128 19 rfl rfl
theorem d_9_13_148 : decode prog_9_method_13_code 148 = .ok (.if_icmp .ge 18, 3) := D_162 W_prog_9_method_13_code_128 20 rfl rfl rfl
theorem W_prog_9_method_13_code_160 : chW prog_9_method_13_code 160 [132, 3, 1, 167, 255, 235, 42, 180, 0, 26, 28, 153, 0, 18, 42, 180, 0, 12, 182, 0, 196, 154, 0, 8, 18, 219, 167, 0, 5, 18, 204, 182, 0, 137, 177] := chW_of (by decide +kernel)
theorem d_9_13_166 : decode prog_9_method_13_code 166 = .ok (.aload_n 0, 1) := D_42 W_prog_9_method_13_code_160 6 rfl rfl
theorem d_9_13_167 : decode prog_9_method_13_code 167 = .ok (.getfield 26, 3) := D_180 W_prog_9_method_13_code_160 7 rfl rfl rfl
theorem d_9_13_170 : decode prog_9_method_13_code 170 = .ok (.iload_n 2, 1) := D_28 W_prog_9_method_13_code_160 10 rfl rfl
theorem d_9_13_171 : decode prog_9_method_13_code 171 = .ok (.ifCond .eq 18, 3) := D_153 W_prog_9_method_13_code_160 11 rfl rfl rfl
theorem d_9_13_174 : decode prog_9_method_13_code 174 = .ok (.aload_n 0, 1) := D_42 W_prog_9_method_13_code_160 14 rfl rfl
theorem d_9_13_175 : decode prog_9_method_13_code 175 = .ok (.getfield 12, 3) := D_180 W_prog_9_method_13_code_160 15 rfl rfl rfl
theorem d_9_13_178 : decode prog_9_method_13_code 178 = .ok (.invokevirtual 196, 3) := D_182 W_prog_9_method_13_code_160 18 rfl rfl rfl
theorem d_9_13_181 : decode prog_9_method_13_code 181 = .ok (.ifCond .ne 8, 3) := D_154 W_prog_9_method_13_code_160 21 rfl rfl rfl
theorem d_9_13_184 : decode prog_9_method_13_code 184 = .ok (.ldc 219, 2) := D_18 W_prog_9_method_13_code_160 24 rfl rfl
theorem d_9_13_186 : decode prog_9_method_13_code 186 = .ok (.goto 5, 3) := D_167 W_prog_9_method_13_code_160 26 rfl rfl rfl
theorem d_9_13_151 : decode prog_9_method_13_code 151 = .ok (.aload_n 0, 1) := D_42 W_prog_9_method_13_code_128 23 rfl rfl
theorem d_9_13_152 : decode prog_9_method_13_code 152 = .ok (.getfield 26, 3) := D_180 W_prog_9_method_13_code_128 24 rfl rfl rfl
theorem d_9_13_155 : decode prog_9_method_13_code 155 = .ok (.bipush 46, 2) := D_16 W_prog_9_method_13_code_128 27 rfl rfl rfl
theorem d_9_13_157 : decode prog_9_method_13_code 157 = .ok (.invokevirtual 151, 3) := D_182 W_prog_9_method_13_code_128 29 rfl rfl rfl
theorem d_9_13_160 : decode prog_9_method_13_code 160 = .ok (.iinc 3 1, 3) := D_132 W_prog_9_method_13_code_160 0 rfl rfl rfl
theorem d_9_13_163 : decode prog_9_method_13_code 163 = .ok (.goto (-21), 3) := D_167 W_prog_9_method_13_code_160 3 rfl rfl rfl
theorem d_9_13_191 : decode prog_9_method_13_code 191 = .ok (.invokevirtual 137, 3) := D_182 W_prog_9_method_13_code_160 31 rfl rfl rfl
theorem W_prog_9_method_13_code_192 : chW prog_9_method_13_code 192 [0, 137, 177] := chW_of (by decide +kernel)
theorem d_9_13_194 : decode prog_9_method_13_code 194 = .ok (.return_, 1) := D_177 W_prog_9_method_13_code_192 2 rfl rfl
theorem d_9_13_189 : decode prog_9_method_13_code 189 = .ok (.ldc 204, 2) := D_18 W_prog_9_method_13_code_160 29 rfl rfl
theorem d_7_24_37 : decode prog_7_method_24_code 37 = .ok (.iinc 3 1, 3) := D_132 W_prog_7_method_24_code_32 5 rfl rfl rfl
theorem d_7_24_40 : decode prog_7_method_24_code 40 = .ok (.goto (-18), 3) := D_167 W_prog_7_method_24_code_32 8 rfl rfl rfl
theorem d_7_24_45 : decode prog_7_method_24_code 45 = .ok (.iload_n 3, 1) := D_29 W_prog_7_method_24_code_32 13 rfl rfl
theorem d_7_24_46 : decode prog_7_method_24_code 46 = .ok (.iload_n 2, 1) := D_28 W_prog_7_method_24_code_32 14 rfl rfl
theorem d_7_24_47 : decode prog_7_method_24_code 47 = .ok (.if_icmp .ge 67, 3) := D_162 W_prog_7_method_24_code_32 15 rfl rfl rfl
theorem W_prog_7_method_24_code_96 : chW prog_7_method_24_code 96 [162, 79, 42, 180, 0, 15, 29, 42, 182, 1, 26, 79, 132, 3, 1, 167, 255, 190, 42, 28, 181, 0, 44, 42, 89, 180, 0, 159, 28, 96, 181, 0, 159, 42, 180, 0] := chW_of (by decide +kernel)
theorem d_7_24_114 : decode prog_7_method_24_code 114 = .ok (.aload_n 0, 1) := D_42 W_prog_7_method_24_code_96 18 rfl rfl
theorem d_7_24_115 : decode prog_7_method_24_code 115 = .ok (.iload_n 2, 1) := D_28 W_prog_7_method_24_code_96 19 rfl rfl
theorem d_7_24_116 : decode prog_7_method_24_code 116 = .ok (.putfield 44, 3) := D_181 W_prog_7_method_24_code_96 20 rfl rfl rfl
theorem d_7_24_119 : decode prog_7_method_24_code 119 = .ok (.aload_n 0, 1) := D_42 W_prog_7_method_24_code_96 23 rfl rfl
theorem d_7_24_120 : decode prog_7_method_24_code 120 = .ok (.dup, 1) := D_89 W_prog_7_method_24_code_96 24 rfl rfl
theorem d_7_24_121 : decode prog_7_method_24_code 121 = .ok (.getfield 159, 3) := D_180 W_prog_7_method_24_code_96 25 rfl rfl rfl
theorem d_7_24_124 : decode prog_7_method_24_code 124 = .ok (.iload_n 2, 1) := D_28 W_prog_7_method_24_code_96 28 rfl rfl
theorem d_7_24_125 : decode prog_7_method_24_code 125 = .ok (.iadd, 1) := D_96 W_prog_7_method_24_code_96 29 rfl rfl
theorem d_7_24_126 : decode prog_7_method_24_code 126 = .ok (.putfield 159, 3) := D_181 W_prog_7_method_24_code_96 30 rfl rfl rfl
theorem W_prog_7_method_24_code_128 : chW prog_7_method_24_code 128 [159, 42, 180, 0, 159, 172] := chW_of (by decide +kernel)
theorem d_7_24_129 : decode prog_7_method_24_code 129 = .ok (.aload_n 0, 1) := D_42 W_prog_7_method_24_code_128 1 rfl rfl
theorem d_7_24_130 : decode prog_7_method_24_code 130 = .ok (.getfield 159, 3) := D_180 W_prog_7_method_24_code_128 2 rfl rfl rfl
theorem d_7_24_133 : decode prog_7_method_24_code 133 = .ok (.ireturn, 1) := D_172 W_prog_7_method_24_code_128 5 rfl rfl
theorem d_7_24_50 : decode prog_7_method_24_code 50 = .ok (.sipush (-32768), 3) := D_17 W_prog_7_method_24_code_32 18 rfl rfl rfl
theorem d_7_24_53 : decode prog_7_method_24_code 53 = .ok (.sipush 32767, 3) := D_17 W_prog_7_method_24_code_32 21 rfl rfl rfl
theorem d_7_24_56 : decode prog_7_method_24_code 56 = .ok (.aload_n 0, 1) := D_42 W_prog_7_method_24_code_32 24 rfl rfl
theorem d_7_24_57 : decode prog_7_method_24_code 57 = .ok (.getfield 18, 3) := D_180 W_prog_7_method_24_code_32 25 rfl rfl rfl
theorem d_7_24_60 : decode prog_7_method_24_code 60 = .ok (.iload_n 3, 1) := D_29 W_prog_7_method_24_code_32 28 rfl rfl
theorem d_7_24_61 : decode prog_7_method_24_code 61 = .ok (.iaload, 1) := D_46 W_prog_7_method_24_code_32 29 rfl rfl
theorem d_7_24_62 : decode prog_7_method_24_code 62 = .ok (.invokestatic 99, 3) := D_184 W_prog_7_method_24_code_32 30 rfl rfl rfl
theorem W_prog_7_method_24_code_64 : chW prog_7_method_24_code 64 [99, 184, 0, 144, 54, 4, 42, 89, 180, 0, 162, 21, 4, 42, 180, 0, 162, 100, 5, 108, 96, 181, 0, 162, 42, 180, 0, 11, 29, 42, 180, 0, 162, 79, 42, 180] := chW_of (by decide +kernel)
theorem d_7_24_65 : decode prog_7_method_24_code 65 = .ok (.invokestatic 144, 3) := D_184 W_prog_7_method_24_code_64 1 rfl rfl rfl
theorem d_7_24_68 : decode prog_7_method_24_code 68 = .ok (.istore 4, 2) := D_54 W_prog_7_method_24_code_64 4 rfl rfl
theorem d_7_24_70 : decode prog_7_method_24_code 70 = .ok (.aload_n 0, 1) := D_42 W_prog_7_method_24_code_64 6 rfl rfl
theorem d_7_24_71 : decode prog_7_method_24_code 71 = .ok (.dup, 1) := D_89 W_prog_7_method_24_code_64 7 rfl rfl
theorem d_7_24_72 : decode prog_7_method_24_code 72 = .ok (.getfield 162, 3) := D_180 W_prog_7_method_24_code_64 8 rfl rfl rfl
theorem d_7_24_75 : decode prog_7_method_24_code 75 = .ok (.iload 4, 2) := D_21 W_prog_7_method_24_code_64 11 rfl rfl
theorem d_7_24_77 : decode prog_7_method_24_code 77 = .ok (.aload_n 0, 1) := D_42 W_prog_7_method_24_code_64 13 rfl rfl
theorem d_7_24_78 : decode prog_7_method_24_code 78 = .ok (.getfield 162, 3) := D_180 W_prog_7_method_24_code_64 14 rfl rfl rfl
theorem d_7_24_81 : decode prog_7_method_24_code 81 = .ok (.isub, 1) := D_100 W_prog_7_method_24_code_64 17 rfl rfl
theorem d_7_24_82 : decode prog_7_method_24_code 82 = .ok (.iconst 2, 1) := D_5 W_prog_7_method_24_code_64 18 rfl rfl
theorem d_7_24_83 : decode prog_7_method_24_code 83 = .ok (.idiv, 1) := D_108 W_prog_7_method_24_code_64 19 rfl rfl
theorem d_7_24_84 : decode prog_7_method_24_code 84 = .ok (.iadd, 1) := D_96 W_prog_7_method_24_code_64 20 rfl rfl
theorem d_7_24_85 : decode prog_7_method_24_code 85 = .ok (.putfield 162, 3) := D_181 W_prog_7_method_24_code_64 21 rfl rfl rfl
theorem d_7_24_88 : decode prog_7_method_24_code 88 = .ok (.aload_n 0, 1) := D_42 W_prog_7_method_24_code_64 24 rfl rfl
theorem d_7_24_89 : decode prog_7_method_24_code 89 = .ok (.getfield 11, 3) := D_180 W_prog_7_method_24_code_64 25 rfl rfl rfl
theorem d_7_24_92 : decode prog_7_method_24_code 92 = .ok (.iload_n 3, 1) := D_29 W_prog_7_method_24_code_64 28 rfl rfl
theorem d_7_24_93 : decode prog_7_method_24_code 93 = .ok (.aload_n 0, 1) := D_42 W_prog_7_method_24_code_64 29 rfl rfl
theorem d_7_24_94 : decode prog_7_method_24_code 94 = .ok (.getfield 162, 3) := D_180 W_prog_7_method_24_code_64 30 rfl rfl rfl
theorem d_7_24_97 : decode prog_7_method_24_code 97 = .ok (.iastore, 1) := D_79 W_prog_7_method_24_code_96 1 rfl rfl
theorem d_7_24_98 : decode prog_7_method_24_code 98 = .ok (.aload_n 0, 1) := D_42 W_prog_7_method_24_code_96 2 rfl rfl
theorem d_7_24_99 : decode prog_7_method_24_code 99 = .ok (.getfield 15, 3) := D_180 W_prog_7_method_24_code_96 3 rfl rfl rfl
theorem d_7_24_102 : decode prog_7_method_24_code 102 = .ok (.iload_n 3, 1) := D_29 W_prog_7_method_24_code_96 6 rfl rfl
theorem d_7_24_103 : decode prog_7_method_24_code 103 = .ok (.aload_n 0, 1) := D_42 W_prog_7_method_24_code_96 7 rfl rfl
theorem d_7_24_104 : decode prog_7_method_24_code 104 = .ok (.invokevirtual 282, 3) := D_182 W_prog_7_method_24_code_96 8 rfl rfl rfl
theorem d_7_24_107 : decode prog_7_method_24_code 107 = .ok (.iastore, 1) := D_79 W_prog_7_method_24_code_96 11 rfl rfl
theorem d_7_24_108 : decode prog_7_method_24_code 108 = .ok (.iinc 3 1, 3) := D_132 W_prog_7_method_24_code_96 12 rfl rfl rfl
theorem d_7_24_111 : decode prog_7_method_24_code 111 = .ok (.goto (-66), 3) := D_167 W_prog_7_method_24_code_96 15 rfl rfl rfl
theorem W_prog_11_method_12_code_128 : chW prog_11_method_12_code 128 [0, 147, 133, 173, 21, 5, 133, 173, 42, 21, 5, 182, 0, 150, 133, 173, 42, 43, 28, 182, 0, 153, 21, 5, 100, 16, 7, 184, 0, 130, 5, 108, 133, 173, 21, 5] := chW_of (by decide +kernel)
theorem d_11_12_130 : decode prog_11_method_12_code 130 = .ok (.i2l, 1) := D_133 W_prog_11_method_12_code_128 2 rfl rfl
theorem d_11_12_131 : decode prog_11_method_12_code 131 = .ok (.lreturn, 1) := D_173 W_prog_11_method_12_code_128 3 rfl rfl
theorem d_11_12_132 : decode prog_11_method_12_code 132 = .ok (.iload 5, 2) := D_21 W_prog_11_method_12_code_128 4 rfl rfl
theorem d_11_12_134 : decode prog_11_method_12_code 134 = .ok (.i2l, 1) := D_133 W_prog_11_method_12_code_128 6 rfl rfl
theorem d_11_12_135 : decode prog_11_method_12_code 135 = .ok (.lreturn, 1) := D_173 W_prog_11_method_12_code_128 7 rfl rfl
theorem d_11_12_136 : decode prog_11_method_12_code 136 = .ok (.aload_n 0, 1) := D_42 W_prog_11_method_12_code_128 8 rfl rfl
theorem d_11_12_137 : decode prog_11_method_12_code 137 = .ok (.iload 5, 2) := D_21 W_prog_11_method_12_code_128 9 rfl rfl
theorem d_11_12_139 : decode prog_11_method_12_code 139 = .ok (.invokevirtual 150, 3) := D_182 W_prog_11_method_12_code_128 11 rfl rfl rfl
theorem d_11_12_142 : decode prog_11_method_12_code 142 = .ok (.i2l, 1) := D_133 W_prog_11_method_12_code_128 14 rfl rfl
theorem d_11_12_143 : decode prog_11_method_12_code 143 = .ok (.lreturn, 1) := D_173 W_prog_11_method_12_code_128 15 rfl rfl
theorem d_11_12_144 : decode prog_11_method_12_code 144 = .ok (.aload_n 0, 1) := D_42 W_prog_11_method_12_code_128 16 rfl rfl
theorem d_11_12_145 : decode prog_11_method_12_code 145 = .ok (.aload_n 1, 1) := D_43 W_prog_11_method_12_code_128 17 rfl rfl
theorem d_11_12_146 : decode prog_11_method_12_code 146 = .ok (.iload_n 2, 1) := D_28 W_prog_11_method_12_code_128 18 rfl rfl
theorem d_11_12_147 : decode prog_11_method_12_code 147 = .ok (.invokevirtual 153, 3) := D_182 W_prog_11_method_12_code_128 19 rfl rfl rfl
theorem d_11_12_150 : decode prog_11_method_12_code 150 = .ok (.iload 5, 2) := D_21 W_prog_11_method_12_code_128 22 rfl rfl
theorem d_11_12_152 : decode prog_11_method_12_code 152 = .ok (.isub, 1) := D_100 W_prog_11_method_12_code_128 24 rfl rfl
theorem d_11_12_153 : decode prog_11_method_12_code 153 = .ok (.bipush 7, 2) := D_16 W_prog_11_method_12_code_128 25 rfl rfl rfl
theorem d_11_12_155 : decode prog_11_method_12_code 155 = .ok (.invokestatic 130, 3) := D_184 W_prog_11_method_12_code_128 27 rfl rfl rfl
theorem d_11_12_158 : decode prog_11_method_12_code 158 = .ok (.iconst 2, 1) := D_5 W_prog_11_method_12_code_128 30 rfl rfl
theorem d_11_12_159 : decode prog_11_method_12_code 159 = .ok (.idiv, 1) := D_108 W_prog_11_method_12_code_128 31 rfl rfl
theorem W_prog_11_method_12_code_160 : chW prog_11_method_12_code 160 [133, 173, 21, 5, 43, 184, 0, 157, 100, 16, 7, 184, 0, 130, 133, 173, 42, 43, 182, 0, 161, 153, 0, 7, 10, 167, 0, 4, 9, 173] := chW_of (by decide +kernel)
theorem d_11_12_160 : decode prog_11_method_12_code 160 = .ok (.i2l, 1) := D_133 W_prog_11_method_12_code_160 0 rfl rfl
theorem d_11_12_161 : decode prog_11_method_12_code 161 = .ok (.lreturn, 1) := D_173 W_prog_11_method_12_code_160 1 rfl rfl
theorem d_11_12_162 : decode prog_11_method_12_code 162 = .ok (.iload 5, 2) := D_21 W_prog_11_method_12_code_160 2 rfl rfl
theorem d_11_12_164 : decode prog_11_method_12_code 164 = .ok (.aload_n 1, 1) := D_43 W_prog_11_method_12_code_160 4 rfl rfl
theorem d_11_12_165 : decode prog_11_method_12_code 165 = .ok (.invokestatic 157, 3) := D_184 W_prog_11_method_12_code_160 5 rfl rfl rfl
theorem d_11_12_168 : decode prog_11_method_12_code 168 = .ok (.isub, 1) := D_100 W_prog_11_method_12_code_160 8 rfl rfl
theorem d_11_12_169 : decode prog_11_method_12_code 169 = .ok (.bipush 7, 2) := D_16 W_prog_11_method_12_code_160 9 rfl rfl rfl
theorem d_11_12_171 : decode prog_11_method_12_code 171 = .ok (.invokestatic 130, 3) := D_184 W_prog_11_method_12_code_160 11 rfl rfl rfl
theorem d_11_12_174 : decode prog_11_method_12_code 174 = .ok (.i2l, 1) := D_133 W_prog_11_method_12_code_160 14 rfl rfl
theorem d_11_12_175 : decode prog_11_method_12_code 175 = .ok (.lreturn, 1) := D_173 W_prog_11_method_12_code_160 15 rfl rfl
theorem d_11_12_176 : decode prog_11_method_12_code 176 = .ok (.aload_n 0, 1) := D_42 W_prog_11_method_12_code_160 16 rfl rfl
theorem d_11_12_177 : decode prog_11_method_12_code 177 = .ok (.aload_n 1, 1) := D_43 W_prog_11_method_12_code_160 17 rfl rfl
theorem d_11_12_178 : decode prog_11_method_12_code 178 = .ok (.invokevirtual 161, 3) := D_182 W_prog_11_method_12_code_160 18 rfl rfl rfl
theorem d_11_12_181 : decode prog_11_method_12_code 181 = .ok (.ifCond .eq 7, 3) := D_153 W_prog_11_method_12_code_160 21 rfl rfl rfl
theorem d_11_12_188 : decode prog_11_method_12_code 188 = .ok (.lconst 0, 1) := D_9 W_prog_11_method_12_code_160 28 rfl rfl
theorem d_11_12_184 : decode prog_11_method_12_code 184 = .ok (.lconst 1, 1) := D_10 W_prog_11_method_12_code_160 24 rfl rfl
theorem d_11_12_185 : decode prog_11_method_12_code 185 = .ok (.goto 4, 3) := D_167 W_prog_11_method_12_code_160 25 rfl rfl rfl
theorem d_11_12_77 : decode prog_11_method_12_code 77 = .ok (.iload_n 3, 1) := D_29 W_prog_11_method_12_code_64 13 rfl rfl
theorem d_11_12_78 : decode prog_11_method_12_code 78 = .ok (.iconst 3, 1) := D_6 W_prog_11_method_12_code_64 14 rfl rfl
theorem d_11_12_79 : decode prog_11_method_12_code 79 = .ok (.if_icmp .ne 9, 3) := D_160 W_prog_11_method_12_code_64 15 rfl rfl rfl
theorem d_11_12_88 : decode prog_11_method_12_code 88 = .ok (.lconst 0, 1) := D_9 W_prog_11_method_12_code_64 24 rfl rfl
theorem d_11_12_82 : decode prog_11_method_12_code 82 = .ok (.ldc2_w 96, 3) := D_20 W_prog_11_method_12_code_64 18 rfl rfl rfl
theorem d_11_12_85 : decode prog_11_method_12_code 85 = .ok (.goto 4, 3) := D_167 W_prog_11_method_12_code_64 21 rfl rfl rfl
theorem d_11_12_67 : decode prog_11_method_12_code 67 = .ok (.iload 4, 2) := D_21 W_prog_11_method_12_code_64 3 rfl rfl
theorem d_11_12_69 : decode prog_11_method_12_code 69 = .ok (.i2l, 1) := D_133 W_prog_11_method_12_code_64 5 rfl rfl
theorem d_11_12_70 : decode prog_11_method_12_code 70 = .ok (.lreturn, 1) := D_173 W_prog_11_method_12_code_64 6 rfl rfl
theorem d_11_12_22 : decode prog_11_method_12_code 22 = .ok (.iload 4, 2) := D_21 W_prog_11_method_12_code_0 22 rfl rfl
theorem d_11_12_24 : decode prog_11_method_12_code 24 = .ok (.aload_n 0, 1) := D_42 W_prog_11_method_12_code_0 24 rfl rfl
theorem d_11_12_25 : decode prog_11_method_12_code 25 = .ok (.getfield 40, 3) := D_180 W_prog_11_method_12_code_0 25 rfl rfl rfl
theorem d_11_12_28 : decode prog_11_method_12_code 28 = .ok (.iload 6, 2) := D_21 W_prog_11_method_12_code_0 28 rfl rfl
theorem d_11_12_30 : decode prog_11_method_12_code 30 = .ok (.iaload, 1) := D_46 W_prog_11_method_12_code_0 30 rfl rfl
theorem d_11_12_31 : decode prog_11_method_12_code 31 = .ok (.invokestatic 142, 3) := D_184 W_prog_11_method_12_code_0 31 rfl rfl rfl
theorem d_11_12_34 : decode prog_11_method_12_code 34 = .ok (.iadd, 1) := D_96 W_prog_11_method_12_code_32 2 rfl rfl
theorem d_11_12_35 : decode prog_11_method_12_code 35 = .ok (.istore 4, 2) := D_54 W_prog_11_method_12_code_32 3 rfl rfl
theorem d_11_12_37 : decode prog_11_method_12_code 37 = .ok (.aload_n 0, 1) := D_42 W_prog_11_method_12_code_32 5 rfl rfl
theorem d_11_12_38 : decode prog_11_method_12_code 38 = .ok (.iload 6, 2) := D_21 W_prog_11_method_12_code_32 6 rfl rfl
theorem d_11_12_40 : decode prog_11_method_12_code 40 = .ok (.invokevirtual 147, 3) := D_182 W_prog_11_method_12_code_32 8 rfl rfl rfl
theorem d_11_12_43 : decode prog_11_method_12_code 43 = .ok (.iconst (-1), 1) := D_2 W_prog_11_method_12_code_32 11 rfl rfl
theorem d_11_12_44 : decode prog_11_method_12_code 44 = .ok (.if_icmp .eq 8, 3) := D_159 W_prog_11_method_12_code_32 12 rfl rfl rfl
theorem d_11_12_52 : decode prog_11_method_12_code 52 = .ok (.iload 5, 2) := D_21 W_prog_11_method_12_code_32 20 rfl rfl
theorem d_11_12_47 : decode prog_11_method_12_code 47 = .ok (.iload 6, 2) := D_21 W_prog_11_method_12_code_32 15 rfl rfl
theorem d_11_12_49 : decode prog_11_method_12_code 49 = .ok (.goto 5, 3) := D_167 W_prog_11_method_12_code_32 17 rfl rfl rfl
theorem d_11_12_54 : decode prog_11_method_12_code 54 = .ok (.istore 5, 2) := D_54 W_prog_11_method_12_code_32 22 rfl rfl
theorem d_11_12_56 : decode prog_11_method_12_code 56 = .ok (.iinc 6 1, 3) := D_132 W_prog_11_method_12_code_32 24 rfl rfl rfl
theorem d_11_12_59 : decode prog_11_method_12_code 59 = .ok (.goto (-44), 3) := D_167 W_prog_11_method_12_code_32 27 rfl rfl rfl
theorem d_11_12_89 : decode prog_11_method_12_code 89 = .ok (.lreturn, 1) := D_173 W_prog_11_method_12_code_64 25 rfl rfl
theorem d_11_12_189 : decode prog_11_method_12_code 189 = .ok (.lreturn, 1) := D_173 W_prog_11_method_12_code_160 29 rfl rfl
theorem W_prog_6_method_27_code_32 : chW prog_6_method_27_code 32 [227, 43, 180, 0, 11, 28, 50, 182, 0, 227, 100, 54, 4, 3, 54, 5, 28, 21, 5, 96, 43, 180, 0, 31, 162, 0, 108, 29, 21, 5, 96, 42, 180, 0, 31, 162] := chW_of (by decide +kernel)
theorem d_6_27_33 : decode prog_6_method_27_code 33 = .ok (.aload_n 1, 1) := D_43 W_prog_6_method_27_code_32 1 rfl rfl
theorem d_6_27_34 : decode prog_6_method_27_code 34 = .ok (.getfield 11, 3) := D_180 W_prog_6_method_27_code_32 2 rfl rfl rfl
theorem d_6_27_37 : decode prog_6_method_27_code 37 = .ok (.iload_n 2, 1) := D_28 W_prog_6_method_27_code_32 5 rfl rfl
theorem d_6_27_38 : decode prog_6_method_27_code 38 = .ok (.aaload, 1) := D_50 W_prog_6_method_27_code_32 6 rfl rfl
theorem d_6_27_39 : decode prog_6_method_27_code 39 = .ok (.invokevirtual 227, 3) := D_182 W_prog_6_method_27_code_32 7 rfl rfl rfl
theorem d_6_27_42 : decode prog_6_method_27_code 42 = .ok (.isub, 1) := D_100 W_prog_6_method_27_code_32 10 rfl rfl
theorem d_6_27_43 : decode prog_6_method_27_code 43 = .ok (.istore 4, 2) := D_54 W_prog_6_method_27_code_32 11 rfl rfl
theorem d_6_27_45 : decode prog_6_method_27_code 45 = .ok (.iconst 0, 1) := D_3 W_prog_6_method_27_code_32 13 rfl rfl
theorem d_6_27_46 : decode prog_6_method_27_code 46 = .ok (.istore 5, 2) := D_54 W_prog_6_method_27_code_32 14 rfl rfl
theorem d_6_27_22 : decode prog_6_method_27_code 22 = .ok (.iconst 0, 1) := D_3 W_prog_6_method_27_code_0 22 rfl rfl
theorem d_6_27_23 : decode prog_6_method_27_code 23 = .ok (.ireturn, 1) := D_172 W_prog_6_method_27_code_0 23 rfl rfl
theorem d_6_27_48 : decode prog_6_method_27_code 48 = .ok (.iload_n 2, 1) := D_28 W_prog_6_method_27_code_32 16 rfl rfl
theorem d_6_27_49 : decode prog_6_method_27_code 49 = .ok (.iload 5, 2) := D_21 W_prog_6_method_27_code_32 17 rfl rfl
theorem d_6_27_51 : decode prog_6_method_27_code 51 = .ok (.iadd, 1) := D_96 W_prog_6_method_27_code_32 19 rfl rfl
theorem d_6_27_52 : decode prog_6_method_27_code 52 = .ok (.aload_n 1, 1) := D_43 W_prog_6_method_27_code_32 20 rfl rfl
theorem d_6_27_53 : decode prog_6_method_27_code 53 = .ok (.getfield 31, 3) := D_180 W_prog_6_method_27_code_32 21 rfl rfl rfl
theorem d_6_27_56 : decode prog_6_method_27_code 56 = .ok (.if_icmp .ge 108, 3) := D_162 W_prog_6_method_27_code_32 24 rfl rfl rfl
theorem d_6_27_59 : decode prog_6_method_27_code 59 = .ok (.iload_n 3, 1) := D_29 W_prog_6_method_27_code_32 27 rfl rfl
theorem d_6_27_60 : decode prog_6_method_27_code 60 = .ok (.iload 5, 2) := D_21 W_prog_6_method_27_code_32 28 rfl rfl
theorem d_6_27_62 : decode prog_6_method_27_code 62 = .ok (.iadd, 1) := D_96 W_prog_6_method_27_code_32 30 rfl rfl
theorem d_6_27_63 : decode prog_6_method_27_code 63 = .ok (.aload_n 0, 1) := D_42 W_prog_6_method_27_code_32 31 rfl rfl
theorem W_prog_6_method_27_code_64 : chW prog_6_method_27_code 64 [180, 0, 31, 162, 0, 97, 43, 180, 0, 11, 28, 21, 5, 96, 50, 58, 6, 42, 180, 0, 11, 29, 21, 5, 96, 50, 58, 7, 25, 6, 182, 0, 146, 25, 7, 182] := chW_of (by decide +kernel)
theorem d_6_27_64 : decode prog_6_method_27_code 64 = .ok (.getfield 31, 3) := D_180 W_prog_6_method_27_code_64 0 rfl rfl rfl
theorem d_6_27_67 : decode prog_6_method_27_code 67 = .ok (.if_icmp .ge 97, 3) := D_162 W_prog_6_method_27_code_64 3 rfl rfl rfl
theorem d_6_27_70 : decode prog_6_method_27_code 70 = .ok (.aload_n 1, 1) := D_43 W_prog_6_method_27_code_64 6 rfl rfl
theorem d_6_27_71 : decode prog_6_method_27_code 71 = .ok (.getfield 11, 3) := D_180 W_prog_6_method_27_code_64 7 rfl rfl rfl
theorem d_6_27_74 : decode prog_6_method_27_code 74 = .ok (.iload_n 2, 1) := D_28 W_prog_6_method_27_code_64 10 rfl rfl
theorem d_6_27_75 : decode prog_6_method_27_code 75 = .ok (.iload 5, 2) := D_21 W_prog_6_method_27_code_64 11 rfl rfl
theorem d_6_27_77 : decode prog_6_method_27_code 77 = .ok (.iadd, 1) := D_96 W_prog_6_method_27_code_64 13 rfl rfl
theorem d_6_27_78 : decode prog_6_method_27_code 78 = .ok (.aaload, 1) := D_50 W_prog_6_method_27_code_64 14 rfl rfl
theorem d_6_27_79 : decode prog_6_method_27_code 79 = .ok (.astore 6, 2) := D_58 W_prog_6_method_27_code_64 15 rfl rfl
theorem d_6_27_81 : decode prog_6_method_27_code 81 = .ok (.aload_n 0, 1) := D_42 W_prog_6_method_27_code_64 17 rfl rfl
theorem d_6_27_82 : decode prog_6_method_27_code 82 = .ok (.getfield 11, 3) := D_180 W_prog_6_method_27_code_64 18 rfl rfl rfl
theorem d_6_27_85 : decode prog_6_method_27_code 85 = .ok (.iload_n 3, 1) := D_29 W_prog_6_method_27_code_64 21 rfl rfl
theorem d_6_27_86 : decode prog_6_method_27_code 86 = .ok (.iload 5, 2) := D_21 W_prog_6_method_27_code_64 22 rfl rfl
theorem d_6_27_88 : decode prog_6_method_27_code 88 = .ok (.iadd, 1) := D_96 W_prog_6_method_27_code_64 24 rfl rfl
theorem d_6_27_89 : decode prog_6_method_27_code 89 = .ok (.aaload, 1) := D_50 W_prog_6_method_27_code_64 25 rfl rfl
theorem d_6_27_90 : decode prog_6_method_27_code 90 = .ok (.astore 7, 2) := D_58 W_prog_6_method_27_code_64 26 rfl rfl
theorem d_6_27_92 : decode prog_6_method_27_code 92 = .ok (.aload 6, 2) := D_25 W_prog_6_method_27_code_64 28 rfl rfl
theorem d_6_27_94 : decode prog_6_method_27_code 94 = .ok (.invokevirtual 146, 3) := D_182 W_prog_6_method_27_code_64 30 rfl rfl rfl
theorem W_prog_6_method_27_code_96 : chW prog_6_method_27_code 96 [146, 25, 7, 182, 0, 146, 160, 0, 21, 25, 6, 180, 0, 87, 25, 7, 180, 0, 87, 148, 154, 0, 7, 4, 167, 0, 4, 3, 54, 8, 21, 8, 153, 0, 27, 25] := chW_of (by decide +kernel)
theorem d_6_27_97 : decode prog_6_method_27_code 97 = .ok (.aload 7, 2) := D_25 W_prog_6_method_27_code_96 1 rfl rfl
theorem d_6_27_99 : decode prog_6_method_27_code 99 = .ok (.invokevirtual 146, 3) := D_182 W_prog_6_method_27_code_96 3 rfl rfl rfl
theorem d_6_27_102 : decode prog_6_method_27_code 102 = .ok (.if_icmp .ne 21, 3) := D_160 W_prog_6_method_27_code_96 6 rfl rfl rfl
theorem d_6_27_105 : decode prog_6_method_27_code 105 = .ok (.aload 6, 2) := D_25 W_prog_6_method_27_code_96 9 rfl rfl
theorem d_6_27_107 : decode prog_6_method_27_code 107 = .ok (.getfield 87, 3) := D_180 W_prog_6_method_27_code_96 11 rfl rfl rfl
theorem d_6_27_110 : decode prog_6_method_27_code 110 = .ok (.aload 7, 2) := D_25 W_prog_6_method_27_code_96 14 rfl rfl
theorem d_6_27_112 : decode prog_6_method_27_code 112 = .ok (.getfield 87, 3) := D_180 W_prog_6_method_27_code_96 16 rfl rfl rfl
theorem d_6_27_115 : decode prog_6_method_27_code 115 = .ok (.lcmp, 1) := D_148 W_prog_6_method_27_code_96 19 rfl rfl
theorem d_6_27_116 : decode prog_6_method_27_code 116 = .ok (.ifCond .ne 7, 3) := D_154 W_prog_6_method_27_code_96 20 rfl rfl rfl
theorem d_6_27_119 : decode prog_6_method_27_code 119 = .ok (.iconst 1, 1) := D_4 W_prog_6_method_27_code_96 23 rfl rfl
theorem d_6_27_120 : decode prog_6_method_27_code 120 = .ok (.goto 4, 3) := D_167 W_prog_6_method_27_code_96 24 rfl rfl rfl
theorem d_6_27_124 : decode prog_6_method_27_code 124 = .ok (.istore 8, 2) := D_54 W_prog_6_method_27_code_96 28 rfl rfl
theorem d_6_27_126 : decode prog_6_method_27_code 126 = .ok (.iload 8, 2) := D_21 W_prog_6_method_27_code_96 30 rfl rfl
theorem W_prog_6_method_27_code_128 : chW prog_6_method_27_code 128 [153, 0, 27, 25, 6, 182, 0, 146, 154, 0, 22, 25, 7, 182, 0, 227, 25, 6, 182, 0, 227, 100, 21, 4, 159, 0, 6, 21, 5, 172, 132, 5, 1, 167, 255, 143] := chW_of (by decide +kernel)
theorem d_6_27_128 : decode prog_6_method_27_code 128 = .ok (.ifCond .eq 27, 3) := D_153 W_prog_6_method_27_code_128 0 rfl rfl rfl
theorem d_6_27_131 : decode prog_6_method_27_code 131 = .ok (.aload 6, 2) := D_25 W_prog_6_method_27_code_128 3 rfl rfl
theorem d_6_27_133 : decode prog_6_method_27_code 133 = .ok (.invokevirtual 146, 3) := D_182 W_prog_6_method_27_code_128 5 rfl rfl rfl
theorem d_6_27_136 : decode prog_6_method_27_code 136 = .ok (.ifCond .ne 22, 3) := D_154 W_prog_6_method_27_code_128 8 rfl rfl rfl
theorem d_6_27_139 : decode prog_6_method_27_code 139 = .ok (.aload 7, 2) := D_25 W_prog_6_method_27_code_128 11 rfl rfl
theorem d_6_27_141 : decode prog_6_method_27_code 141 = .ok (.invokevirtual 227, 3) := D_182 W_prog_6_method_27_code_128 13 rfl rfl rfl
theorem d_6_27_144 : decode prog_6_method_27_code 144 = .ok (.aload 6, 2) := D_25 W_prog_6_method_27_code_128 16 rfl rfl
theorem d_6_27_146 : decode prog_6_method_27_code 146 = .ok (.invokevirtual 227, 3) := D_182 W_prog_6_method_27_code_128 18 rfl rfl rfl
theorem d_6_27_149 : decode prog_6_method_27_code 149 = .ok (.isub, 1) := D_100 W_prog_6_method_27_code_128 21 rfl rfl
theorem d_6_27_150 : decode prog_6_method_27_code 150 = .ok (.iload 4, 2) := D_21 W_prog_6_method_27_code_128 22 rfl rfl
theorem d_6_27_152 : decode prog_6_method_27_code 152 = .ok (.if_icmp .eq 6, 3) := D_159 W_prog_6_method_27_code_128 24 rfl rfl rfl
theorem d_6_27_155 : decode prog_6_method_27_code 155 = .ok (.iload 5, 2) := D_21 W_prog_6_method_27_code_128 27 rfl rfl
theorem d_6_27_157 : decode prog_6_method_27_code 157 = .ok (.ireturn, 1) := D_172 W_prog_6_method_27_code_128 29 rfl rfl
theorem d_6_27_158 : decode prog_6_method_27_code 158 = .ok (.iinc 5 1, 3) := D_132 W_prog_6_method_27_code_128 30 rfl rfl rfl
theorem W_prog_6_method_27_code_160 : chW prog_6_method_27_code 160 [1, 167, 255, 143, 21, 5, 172] := chW_of (by decide +kernel)
theorem d_6_27_161 : decode prog_6_method_27_code 161 = .ok (.goto (-113), 3) := D_167 W_prog_6_method_27_code_160 1 rfl rfl rfl
theorem d_6_27_123 : decode prog_6_method_27_code 123 = .ok (.iconst 0, 1) := D_3 W_prog_6_method_27_code_96 27 rfl rfl
theorem d_6_27_164 : decode prog_6_method_27_code 164 = .ok (.iload 5, 2) := D_21 W_prog_6_method_27_code_160 4 rfl rfl
theorem d_6_27_166 : decode prog_6_method_27_code 166 = .ok (.ireturn, 1) := D_172 W_prog_6_method_27_code_160 6 rfl rfl
theorem d_1_33_122 : decode prog_1_method_33_code 122 = .ok (.ifCond .eq 14, 3) := D_153 W_prog_1_method_33_code_96 26 rfl rfl rfl
theorem d_1_33_125 : decode prog_1_method_33_code 125 = .ok (.iload 12, 2) := D_21 W_prog_1_method_33_code_96 29 rfl rfl
theorem d_1_33_127 : decode prog_1_method_33_code 127 = .ok (.ifCond .ne 6, 3) := D_154 W_prog_1_method_33_code_96 31 rfl rfl rfl
theorem d_1_33_133 : decode prog_1_method_33_code 133 = .ok (.iinc 12 (-1), 3) := D_132 W_prog_1_method_33_code_128 5 rfl rfl rfl
theorem d_1_33_130 : decode prog_1_method_33_code 130 = .ok (.iload 13, 2) := D_21 W_prog_1_method_33_code_128 2 rfl rfl
theorem d_1_33_132 : decode prog_1_method_33_code 132 = .ok (.ireturn, 1) := D_172 W_prog_1_method_33_code_128 4 rfl rfl
theorem d_1_33_136 : decode prog_1_method_33_code 136 = .ok (.iinc 13 1, 3) := D_132 W_prog_1_method_33_code_128 8 rfl rfl rfl
theorem d_1_33_139 : decode prog_1_method_33_code 139 = .ok (.goto (-44), 3) := D_167 W_prog_1_method_33_code_128 11 rfl rfl rfl
theorem d_12_2_105 : decode prog_12_method_2_code 105 = .ok (.ifCond .lt 7, 3) := D_155 W_prog_12_method_2_code_96 9 rfl rfl rfl
theorem d_12_2_112 : decode prog_12_method_2_code 112 = .ok (.iconst 1, 1) := D_4 W_prog_12_method_2_code_96 16 rfl rfl
theorem d_12_2_108 : decode prog_12_method_2_code 108 = .ok (.iconst 5, 1) := D_8 W_prog_12_method_2_code_96 12 rfl rfl
