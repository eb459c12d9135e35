theorem d_13_7_107 : decode prog_13_method_7_code 107 = .ok (.iadd, 1) := D_96 W_prog_13_method_7_code_96 11 rfl rfl
theorem d_13_7_108 : decode prog_13_method_7_code 108 = .ok (.invokevirtual 91, 3) := D_182 W_prog_13_method_7_code_96 12 rfl rfl rfl
theorem W_prog_13_method_8_code_0 : chW prog_13_method_8_code 0 [42, 180, 0, 24, 180, 0, 136, 27, 46, 62, 3, 54, 4, 21, 4, 42, 180, 0, 24, 180, 0, 117, 27, 46, 162, 0, 103, 42, 180, 0, 32, 154, 0, 96, 42, 42] := chW_of (by decide +kernel)
theorem d_13_8_0 : decode prog_13_method_8_code 0 = .ok (.aload_n 0, 1) := D_42 W_prog_13_method_8_code_0 0 rfl rfl
theorem d_13_8_1 : decode prog_13_method_8_code 1 = .ok (.getfield 24, 3) := D_180 W_prog_13_method_8_code_0 1 rfl rfl rfl
theorem d_13_8_4 : decode prog_13_method_8_code 4 = .ok (.getfield 136, 3) := D_180 W_prog_13_method_8_code_0 4 rfl rfl rfl
theorem d_13_8_7 : decode prog_13_method_8_code 7 = .ok (.iload_n 1, 1) := D_27 W_prog_13_method_8_code_0 7 rfl rfl
theorem d_13_8_8 : decode prog_13_method_8_code 8 = .ok (.iaload, 1) := D_46 W_prog_13_method_8_code_0 8 rfl rfl
theorem d_13_8_9 : decode prog_13_method_8_code 9 = .ok (.istore_n 3, 1) := D_62 W_prog_13_method_8_code_0 9 rfl rfl
theorem d_13_8_10 : decode prog_13_method_8_code 10 = .ok (.iconst 0, 1) := D_3 W_prog_13_method_8_code_0 10 rfl rfl
theorem d_13_8_11 : decode prog_13_method_8_code 11 = .ok (.istore 4, 2) := D_54 W_prog_13_method_8_code_0 11 rfl rfl
theorem d_13_8_13 : decode prog_13_method_8_code 13 = .ok (.iload 4, 2) := D_21 W_prog_13_method_8_code_0 13 rfl rfl
theorem d_13_8_15 : decode prog_13_method_8_code 15 = .ok (.aload_n 0, 1) := D_42 W_prog_13_method_8_code_0 15 rfl rfl
theorem d_13_8_16 : decode prog_13_method_8_code 16 = .ok (.getfield 24, 3) := D_180 W_prog_13_method_8_code_0 16 rfl rfl rfl
theorem d_13_8_19 : decode prog_13_method_8_code 19 = .ok (.getfield 117, 3) := D_180 W_prog_13_method_8_code_0 19 rfl rfl rfl
theorem d_13_8_22 : decode prog_13_method_8_code 22 = .ok (.iload_n 1, 1) := D_27 W_prog_13_method_8_code_0 22 rfl rfl
theorem d_13_8_23 : decode prog_13_method_8_code 23 = .ok (.iaload, 1) := D_46 W_prog_13_method_8_code_0 23 rfl rfl
theorem d_13_8_24 : decode prog_13_method_8_code 24 = .ok (.if_icmp .ge 103, 3) := D_162 W_prog_13_method_8_code_0 24 rfl rfl rfl
theorem d_13_8_27 : decode prog_13_method_8_code 27 = .ok (.aload_n 0, 1) := D_42 W_prog_13_method_8_code_0 27 rfl rfl
theorem d_13_8_28 : decode prog_13_method_8_code 28 = .ok (.getfield 32, 3) := D_180 W_prog_13_method_8_code_0 28 rfl rfl rfl
theorem d_13_8_31 : decode prog_13_method_8_code 31 = .ok (.ifCond .ne 96, 3) := D_154 W_prog_13_method_8_code_0 31 rfl rfl rfl
theorem W_prog_13_method_8_code_32 : chW prog_13_method_8_code 32 [0, 96, 42, 42, 180, 0, 24, 180, 0, 95, 27, 46, 182, 0, 98, 42, 42, 180, 0, 24, 180, 0, 81, 27, 46, 28, 4, 96, 182, 0, 91, 29, 2, 159, 0, 56] := chW_of (by decide +kernel)
theorem d_13_8_34 : decode prog_13_method_8_code 34 = .ok (.aload_n 0, 1) := D_42 W_prog_13_method_8_code_32 2 rfl rfl
theorem d_13_8_35 : decode prog_13_method_8_code 35 = .ok (.aload_n 0, 1) := D_42 W_prog_13_method_8_code_32 3 rfl rfl
theorem d_13_8_36 : decode prog_13_method_8_code 36 = .ok (.getfield 24, 3) := D_180 W_prog_13_method_8_code_32 4 rfl rfl rfl
theorem d_13_8_39 : decode prog_13_method_8_code 39 = .ok (.getfield 95, 3) := D_180 W_prog_13_method_8_code_32 7 rfl rfl rfl
theorem d_13_8_42 : decode prog_13_method_8_code 42 = .ok (.iload_n 1, 1) := D_27 W_prog_13_method_8_code_32 10 rfl rfl
theorem d_13_8_43 : decode prog_13_method_8_code 43 = .ok (.iaload, 1) := D_46 W_prog_13_method_8_code_32 11 rfl rfl
theorem d_13_8_44 : decode prog_13_method_8_code 44 = .ok (.invokevirtual 98, 3) := D_182 W_prog_13_method_8_code_32 12 rfl rfl rfl
theorem W_prog_13_method_9_code_0 : chW prog_13_method_9_code 0 [42, 180, 0, 78, 16, 64, 161, 0, 4, 177, 42, 180, 0, 15, 42, 180, 0, 78, 27, 79, 42, 180, 0, 18, 42, 180, 0, 78, 42, 180, 0, 24, 180, 0, 117, 28] := chW_of (by decide +kernel)
theorem d_13_9_0 : decode prog_13_method_9_code 0 = .ok (.aload_n 0, 1) := D_42 W_prog_13_method_9_code_0 0 rfl rfl
theorem d_13_9_1 : decode prog_13_method_9_code 1 = .ok (.getfield 78, 3) := D_180 W_prog_13_method_9_code_0 1 rfl rfl rfl
theorem d_13_9_4 : decode prog_13_method_9_code 4 = .ok (.bipush 64, 2) := D_16 W_prog_13_method_9_code_0 4 rfl rfl rfl
theorem d_13_9_6 : decode prog_13_method_9_code 6 = .ok (.if_icmp .lt 4, 3) := D_161 W_prog_13_method_9_code_0 6 rfl rfl rfl
theorem d_13_9_10 : decode prog_13_method_9_code 10 = .ok (.aload_n 0, 1) := D_42 W_prog_13_method_9_code_0 10 rfl rfl
theorem d_13_9_11 : decode prog_13_method_9_code 11 = .ok (.getfield 15, 3) := D_180 W_prog_13_method_9_code_0 11 rfl rfl rfl
theorem d_13_9_14 : decode prog_13_method_9_code 14 = .ok (.aload_n 0, 1) := D_42 W_prog_13_method_9_code_0 14 rfl rfl
theorem d_13_9_15 : decode prog_13_method_9_code 15 = .ok (.getfield 78, 3) := D_180 W_prog_13_method_9_code_0 15 rfl rfl rfl
theorem d_13_9_18 : decode prog_13_method_9_code 18 = .ok (.iload_n 1, 1) := D_27 W_prog_13_method_9_code_0 18 rfl rfl
theorem d_13_9_19 : decode prog_13_method_9_code 19 = .ok (.iastore, 1) := D_79 W_prog_13_method_9_code_0 19 rfl rfl
theorem d_13_9_20 : decode prog_13_method_9_code 20 = .ok (.aload_n 0, 1) := D_42 W_prog_13_method_9_code_0 20 rfl rfl
theorem d_13_9_21 : decode prog_13_method_9_code 21 = .ok (.getfield 18, 3) := D_180 W_prog_13_method_9_code_0 21 rfl rfl rfl
theorem d_13_9_24 : decode prog_13_method_9_code 24 = .ok (.aload_n 0, 1) := D_42 W_prog_13_method_9_code_0 24 rfl rfl
theorem d_13_9_25 : decode prog_13_method_9_code 25 = .ok (.getfield 78, 3) := D_180 W_prog_13_method_9_code_0 25 rfl rfl rfl
theorem d_13_9_28 : decode prog_13_method_9_code 28 = .ok (.aload_n 0, 1) := D_42 W_prog_13_method_9_code_0 28 rfl rfl
theorem d_13_9_29 : decode prog_13_method_9_code 29 = .ok (.getfield 24, 3) := D_180 W_prog_13_method_9_code_0 29 rfl rfl rfl
theorem W_prog_13_method_9_code_32 : chW prog_13_method_9_code 32 [180, 0, 117, 28, 46, 79, 42, 180, 0, 21, 42, 180, 0, 78, 42, 180, 0, 24, 180, 0, 136, 28, 46, 79, 42, 89, 180, 0, 78, 4, 96, 181, 0, 78, 42, 42] := chW_of (by decide +kernel)
theorem d_13_9_32 : decode prog_13_method_9_code 32 = .ok (.getfield 117, 3) := D_180 W_prog_13_method_9_code_32 0 rfl rfl rfl
theorem d_13_9_35 : decode prog_13_method_9_code 35 = .ok (.iload_n 2, 1) := D_28 W_prog_13_method_9_code_32 3 rfl rfl
theorem d_13_9_36 : decode prog_13_method_9_code 36 = .ok (.iaload, 1) := D_46 W_prog_13_method_9_code_32 4 rfl rfl
theorem d_13_9_37 : decode prog_13_method_9_code 37 = .ok (.iastore, 1) := D_79 W_prog_13_method_9_code_32 5 rfl rfl
theorem d_13_9_38 : decode prog_13_method_9_code 38 = .ok (.aload_n 0, 1) := D_42 W_prog_13_method_9_code_32 6 rfl rfl
theorem d_13_9_39 : decode prog_13_method_9_code 39 = .ok (.getfield 21, 3) := D_180 W_prog_13_method_9_code_32 7 rfl rfl rfl
theorem d_13_9_42 : decode prog_13_method_9_code 42 = .ok (.aload_n 0, 1) := D_42 W_prog_13_method_9_code_32 10 rfl rfl
theorem d_13_9_43 : decode prog_13_method_9_code 43 = .ok (.getfield 78, 3) := D_180 W_prog_13_method_9_code_32 11 rfl rfl rfl
theorem d_13_9_46 : decode prog_13_method_9_code 46 = .ok (.aload_n 0, 1) := D_42 W_prog_13_method_9_code_32 14 rfl rfl
theorem d_13_9_47 : decode prog_13_method_9_code 47 = .ok (.getfield 24, 3) := D_180 W_prog_13_method_9_code_32 15 rfl rfl rfl
theorem d_13_9_50 : decode prog_13_method_9_code 50 = .ok (.getfield 136, 3) := D_180 W_prog_13_method_9_code_32 18 rfl rfl rfl
theorem d_13_9_53 : decode prog_13_method_9_code 53 = .ok (.iload_n 2, 1) := D_28 W_prog_13_method_9_code_32 21 rfl rfl
theorem d_13_9_54 : decode prog_13_method_9_code 54 = .ok (.iaload, 1) := D_46 W_prog_13_method_9_code_32 22 rfl rfl
theorem d_13_9_55 : decode prog_13_method_9_code 55 = .ok (.iastore, 1) := D_79 W_prog_13_method_9_code_32 23 rfl rfl
theorem d_13_9_56 : decode prog_13_method_9_code 56 = .ok (.aload_n 0, 1) := D_42 W_prog_13_method_9_code_32 24 rfl rfl
theorem d_13_9_57 : decode prog_13_method_9_code 57 = .ok (.dup, 1) := D_89 W_prog_13_method_9_code_32 25 rfl rfl
theorem d_13_9_58 : decode prog_13_method_9_code 58 = .ok (.getfield 78, 3) := D_180 W_prog_13_method_9_code_32 26 rfl rfl rfl
theorem d_13_9_61 : decode prog_13_method_9_code 61 = .ok (.iconst 1, 1) := D_4 W_prog_13_method_9_code_32 29 rfl rfl
theorem d_13_9_62 : decode prog_13_method_9_code 62 = .ok (.iadd, 1) := D_96 W_prog_13_method_9_code_32 30 rfl rfl
theorem d_13_9_63 : decode prog_13_method_9_code 63 = .ok (.putfield 78, 3) := D_181 W_prog_13_method_9_code_32 31 rfl rfl rfl
theorem W_prog_13_method_9_code_64 : chW prog_13_method_9_code 64 [0, 78, 42, 42, 180, 0, 24, 180, 0, 81, 28, 46, 29, 4, 96, 182, 0, 91, 42, 89, 180, 0, 78, 4, 100, 181, 0, 78, 177] := chW_of (by decide +kernel)
theorem d_13_9_66 : decode prog_13_method_9_code 66 = .ok (.aload_n 0, 1) := D_42 W_prog_13_method_9_code_64 2 rfl rfl
theorem d_13_9_67 : decode prog_13_method_9_code 67 = .ok (.aload_n 0, 1) := D_42 W_prog_13_method_9_code_64 3 rfl rfl
theorem d_13_9_68 : decode prog_13_method_9_code 68 = .ok (.getfield 24, 3) := D_180 W_prog_13_method_9_code_64 4 rfl rfl rfl
theorem d_13_9_71 : decode prog_13_method_9_code 71 = .ok (.getfield 81, 3) := D_180 W_prog_13_method_9_code_64 7 rfl rfl rfl
theorem d_13_9_74 : decode prog_13_method_9_code 74 = .ok (.iload_n 2, 1) := D_28 W_prog_13_method_9_code_64 10 rfl rfl
theorem d_13_9_75 : decode prog_13_method_9_code 75 = .ok (.iaload, 1) := D_46 W_prog_13_method_9_code_64 11 rfl rfl
theorem d_13_9_76 : decode prog_13_method_9_code 76 = .ok (.iload_n 3, 1) := D_29 W_prog_13_method_9_code_64 12 rfl rfl
theorem d_13_9_77 : decode prog_13_method_9_code 77 = .ok (.iconst 1, 1) := D_4 W_prog_13_method_9_code_64 13 rfl rfl
theorem d_13_9_78 : decode prog_13_method_9_code 78 = .ok (.iadd, 1) := D_96 W_prog_13_method_9_code_64 14 rfl rfl
theorem d_13_9_79 : decode prog_13_method_9_code 79 = .ok (.invokevirtual 91, 3) := D_182 W_prog_13_method_9_code_64 15 rfl rfl rfl
theorem W_prog_13_method_10_code_0 : chW prog_13_method_10_code 0 [42, 180, 0, 28, 180, 0, 139, 62, 42, 89, 180, 0, 42, 4, 96, 181, 0, 42, 42, 27, 28, 4, 96, 182, 0, 91, 42, 89, 180, 0, 42, 4, 100, 181, 0, 42] := chW_of (by decide +kernel)
theorem d_13_10_0 : decode prog_13_method_10_code 0 = .ok (.aload_n 0, 1) := D_42 W_prog_13_method_10_code_0 0 rfl rfl
theorem d_13_10_1 : decode prog_13_method_10_code 1 = .ok (.getfield 28, 3) := D_180 W_prog_13_method_10_code_0 1 rfl rfl rfl
theorem d_13_10_4 : decode prog_13_method_10_code 4 = .ok (.getfield 139, 3) := D_180 W_prog_13_method_10_code_0 4 rfl rfl rfl
theorem d_13_10_7 : decode prog_13_method_10_code 7 = .ok (.istore_n 3, 1) := D_62 W_prog_13_method_10_code_0 7 rfl rfl
theorem d_13_10_8 : decode prog_13_method_10_code 8 = .ok (.aload_n 0, 1) := D_42 W_prog_13_method_10_code_0 8 rfl rfl
theorem d_13_10_9 : decode prog_13_method_10_code 9 = .ok (.dup, 1) := D_89 W_prog_13_method_10_code_0 9 rfl rfl
theorem d_13_10_10 : decode prog_13_method_10_code 10 = .ok (.getfield 42, 3) := D_180 W_prog_13_method_10_code_0 10 rfl rfl rfl
theorem d_13_10_13 : decode prog_13_method_10_code 13 = .ok (.iconst 1, 1) := D_4 W_prog_13_method_10_code_0 13 rfl rfl
theorem d_13_10_14 : decode prog_13_method_10_code 14 = .ok (.iadd, 1) := D_96 W_prog_13_method_10_code_0 14 rfl rfl
theorem d_13_10_15 : decode prog_13_method_10_code 15 = .ok (.putfield 42, 3) := D_181 W_prog_13_method_10_code_0 15 rfl rfl rfl
theorem d_13_10_18 : decode prog_13_method_10_code 18 = .ok (.aload_n 0, 1) := D_42 W_prog_13_method_10_code_0 18 rfl rfl
theorem d_13_10_19 : decode prog_13_method_10_code 19 = .ok (.iload_n 1, 1) := D_27 W_prog_13_method_10_code_0 19 rfl rfl
theorem d_13_10_20 : decode prog_13_method_10_code 20 = .ok (.iload_n 2, 1) := D_28 W_prog_13_method_10_code_0 20 rfl rfl
theorem d_13_10_21 : decode prog_13_method_10_code 21 = .ok (.iconst 1, 1) := D_4 W_prog_13_method_10_code_0 21 rfl rfl
theorem d_13_10_22 : decode prog_13_method_10_code 22 = .ok (.iadd, 1) := D_96 W_prog_13_method_10_code_0 22 rfl rfl
theorem d_13_10_23 : decode prog_13_method_10_code 23 = .ok (.invokevirtual 91, 3) := D_182 W_prog_13_method_10_code_0 23 rfl rfl rfl
theorem W_prog_1_method_27_code_0 : chW prog_1_method_27_code 0 [27, 7, 159, 0, 21, 27, 16, 8, 159, 0, 15, 27, 16, 16, 159, 0, 9, 27, 16, 32, 160, 0, 7, 4, 167, 0, 4, 3, 61, 42, 180, 1, 26, 198, 0, 17] := chW_of (by decide +kernel)
theorem d_1_27_0 : decode prog_1_method_27_code 0 = .ok (.iload_n 1, 1) := D_27 W_prog_1_method_27_code_0 0 rfl rfl
theorem d_1_27_1 : decode prog_1_method_27_code 1 = .ok (.iconst 4, 1) := D_7 W_prog_1_method_27_code_0 1 rfl rfl
theorem d_1_27_2 : decode prog_1_method_27_code 2 = .ok (.if_icmp .eq 21, 3) := D_159 W_prog_1_method_27_code_0 2 rfl rfl rfl
theorem d_1_27_5 : decode prog_1_method_27_code 5 = .ok (.iload_n 1, 1) := D_27 W_prog_1_method_27_code_0 5 rfl rfl
theorem d_1_27_6 : decode prog_1_method_27_code 6 = .ok (.bipush 8, 2) := D_16 W_prog_1_method_27_code_0 6 rfl rfl rfl
theorem d_1_27_8 : decode prog_1_method_27_code 8 = .ok (.if_icmp .eq 15, 3) := D_159 W_prog_1_method_27_code_0 8 rfl rfl rfl
theorem d_1_27_11 : decode prog_1_method_27_code 11 = .ok (.iload_n 1, 1) := D_27 W_prog_1_method_27_code_0 11 rfl rfl
theorem d_1_27_12 : decode prog_1_method_27_code 12 = .ok (.bipush 16, 2) := D_16 W_prog_1_method_27_code_0 12 rfl rfl rfl
theorem d_1_27_14 : decode prog_1_method_27_code 14 = .ok (.if_icmp .eq 9, 3) := D_159 W_prog_1_method_27_code_0 14 rfl rfl rfl
theorem d_1_27_17 : decode prog_1_method_27_code 17 = .ok (.iload_n 1, 1) := D_27 W_prog_1_method_27_code_0 17 rfl rfl
theorem d_1_27_18 : decode prog_1_method_27_code 18 = .ok (.bipush 32, 2) := D_16 W_prog_1_method_27_code_0 18 rfl rfl rfl
theorem d_1_27_20 : decode prog_1_method_27_code 20 = .ok (.if_icmp .ne 7, 3) := D_160 W_prog_1_method_27_code_0 20 rfl rfl rfl
theorem d_1_27_27 : decode prog_1_method_27_code 27 = .ok (.iconst 0, 1) := D_3 W_prog_1_method_27_code_0 27 rfl rfl
theorem d_1_27_23 : decode prog_1_method_27_code 23 = .ok (.iconst 1, 1) := D_4 W_prog_1_method_27_code_0 23 rfl rfl
theorem d_1_27_24 : decode prog_1_method_27_code 24 = .ok (.goto 4, 3) := D_167 W_prog_1_method_27_code_0 24 rfl rfl rfl
theorem d_1_27_28 : decode prog_1_method_27_code 28 = .ok (.istore_n 2, 1) := D_61 W_prog_1_method_27_code_0 28 rfl rfl
theorem d_1_27_29 : decode prog_1_method_27_code 29 = .ok (.aload_n 0, 1) := D_42 W_prog_1_method_27_code_0 29 rfl rfl
theorem d_1_27_30 : decode prog_1_method_27_code 30 = .ok (.getfield 282, 3) := D_180 W_prog_1_method_27_code_0 30 rfl rfl rfl
theorem W_prog_1_method_27_code_32 : chW prog_1_method_27_code 32 [26, 198, 0, 17, 42, 180, 1, 26, 180, 1, 29, 153, 0, 7, 28, 154, 0, 5, 2, 172, 42, 180, 0, 48, 42, 180, 1, 26, 27, 42, 180, 0, 22, 182, 1, 37] := chW_of (by decide +kernel)
theorem d_1_27_33 : decode prog_1_method_27_code 33 = .ok (.ifnull 17, 3) := D_198 W_prog_1_method_27_code_32 1 rfl rfl rfl
theorem d_1_27_36 : decode prog_1_method_27_code 36 = .ok (.aload_n 0, 1) := D_42 W_prog_1_method_27_code_32 4 rfl rfl
theorem d_1_27_37 : decode prog_1_method_27_code 37 = .ok (.getfield 282, 3) := D_180 W_prog_1_method_27_code_32 5 rfl rfl rfl
theorem d_1_27_40 : decode prog_1_method_27_code 40 = .ok (.getfield 285, 3) := D_180 W_prog_1_method_27_code_32 8 rfl rfl rfl
theorem d_1_27_43 : decode prog_1_method_27_code 43 = .ok (.ifCond .eq 7, 3) := D_153 W_prog_1_method_27_code_32 11 rfl rfl rfl
theorem d_1_27_46 : decode prog_1_method_27_code 46 = .ok (.iload_n 2, 1) := D_28 W_prog_1_method_27_code_32 14 rfl rfl
theorem d_1_27_47 : decode prog_1_method_27_code 47 = .ok (.ifCond .ne 5, 3) := D_154 W_prog_1_method_27_code_32 15 rfl rfl rfl
theorem d_1_27_52 : decode prog_1_method_27_code 52 = .ok (.aload_n 0, 1) := D_42 W_prog_1_method_27_code_32 20 rfl rfl
theorem d_1_27_53 : decode prog_1_method_27_code 53 = .ok (.getfield 48, 3) := D_180 W_prog_1_method_27_code_32 21 rfl rfl rfl
theorem d_1_27_56 : decode prog_1_method_27_code 56 = .ok (.aload_n 0, 1) := D_42 W_prog_1_method_27_code_32 24 rfl rfl
theorem d_1_27_57 : decode prog_1_method_27_code 57 = .ok (.getfield 282, 3) := D_180 W_prog_1_method_27_code_32 25 rfl rfl rfl
theorem d_1_27_60 : decode prog_1_method_27_code 60 = .ok (.iload_n 1, 1) := D_27 W_prog_1_method_27_code_32 28 rfl rfl
theorem d_1_27_61 : decode prog_1_method_27_code 61 = .ok (.aload_n 0, 1) := D_42 W_prog_1_method_27_code_32 29 rfl rfl
theorem d_1_27_62 : decode prog_1_method_27_code 62 = .ok (.getfield 22, 3) := D_180 W_prog_1_method_27_code_32 30 rfl rfl rfl
theorem W_prog_1_method_27_code_64 : chW prog_1_method_27_code 64 [22, 182, 1, 37, 172] := chW_of (by decide +kernel)
theorem d_1_27_65 : decode prog_1_method_27_code 65 = .ok (.invokevirtual 293, 3) := D_182 W_prog_1_method_27_code_64 1 rfl rfl rfl
theorem W_prog_9_method_2_code_0 : chW prog_9_method_2_code 0 [42, 43, 181, 0, 22, 42, 45, 181, 0, 26, 42, 28, 4, 184, 0, 30, 181, 0, 36, 42, 17, 2, 0, 43, 180, 0, 40, 8, 46, 4, 184, 0, 30, 108, 43, 180] := chW_of (by decide +kernel)
theorem d_9_2_0 : decode prog_9_method_2_code 0 = .ok (.aload_n 0, 1) := D_42 W_prog_9_method_2_code_0 0 rfl rfl
theorem d_9_2_1 : decode prog_9_method_2_code 1 = .ok (.aload_n 1, 1) := D_43 W_prog_9_method_2_code_0 1 rfl rfl
theorem d_9_2_2 : decode prog_9_method_2_code 2 = .ok (.putfield 22, 3) := D_181 W_prog_9_method_2_code_0 2 rfl rfl rfl
theorem d_9_2_5 : decode prog_9_method_2_code 5 = .ok (.aload_n 0, 1) := D_42 W_prog_9_method_2_code_0 5 rfl rfl
theorem d_9_2_6 : decode prog_9_method_2_code 6 = .ok (.aload_n 3, 1) := D_45 W_prog_9_method_2_code_0 6 rfl rfl
theorem d_9_2_7 : decode prog_9_method_2_code 7 = .ok (.putfield 26, 3) := D_181 W_prog_9_method_2_code_0 7 rfl rfl rfl
theorem d_9_2_10 : decode prog_9_method_2_code 10 = .ok (.aload_n 0, 1) := D_42 W_prog_9_method_2_code_0 10 rfl rfl
theorem d_9_2_11 : decode prog_9_method_2_code 11 = .ok (.iload_n 2, 1) := D_28 W_prog_9_method_2_code_0 11 rfl rfl
theorem d_9_2_12 : decode prog_9_method_2_code 12 = .ok (.iconst 1, 1) := D_4 W_prog_9_method_2_code_0 12 rfl rfl
theorem d_9_2_13 : decode prog_9_method_2_code 13 = .ok (.invokestatic 30, 3) := D_184 W_prog_9_method_2_code_0 13 rfl rfl rfl
theorem d_9_2_16 : decode prog_9_method_2_code 16 = .ok (.putfield 36, 3) := D_181 W_prog_9_method_2_code_0 16 rfl rfl rfl
theorem d_9_2_19 : decode prog_9_method_2_code 19 = .ok (.aload_n 0, 1) := D_42 W_prog_9_method_2_code_0 19 rfl rfl
theorem d_9_2_20 : decode prog_9_method_2_code 20 = .ok (.sipush 512, 3) := D_17 W_prog_9_method_2_code_0 20 rfl rfl rfl
theorem d_9_2_23 : decode prog_9_method_2_code 23 = .ok (.aload_n 1, 1) := D_43 W_prog_9_method_2_code_0 23 rfl rfl
theorem d_9_2_24 : decode prog_9_method_2_code 24 = .ok (.getfield 40, 3) := D_180 W_prog_9_method_2_code_0 24 rfl rfl rfl
theorem d_9_2_27 : decode prog_9_method_2_code 27 = .ok (.iconst 5, 1) := D_8 W_prog_9_method_2_code_0 27 rfl rfl
theorem d_9_2_28 : decode prog_9_method_2_code 28 = .ok (.iaload, 1) := D_46 W_prog_9_method_2_code_0 28 rfl rfl
theorem d_9_2_29 : decode prog_9_method_2_code 29 = .ok (.iconst 1, 1) := D_4 W_prog_9_method_2_code_0 29 rfl rfl
theorem d_9_2_30 : decode prog_9_method_2_code 30 = .ok (.invokestatic 30, 3) := D_184 W_prog_9_method_2_code_0 30 rfl rfl rfl
theorem W_prog_9_method_2_code_32 : chW prog_9_method_2_code 32 [30, 108, 43, 180, 0, 40, 7, 46, 104, 181, 0, 46, 42, 180, 0, 26, 182, 0, 49, 42, 182, 0, 54, 17, 2, 0, 42, 180, 0, 36, 108, 133, 105, 55, 4, 22] := chW_of (by decide +kernel)
theorem d_9_2_33 : decode prog_9_method_2_code 33 = .ok (.idiv, 1) := D_108 W_prog_9_method_2_code_32 1 rfl rfl
theorem d_9_2_34 : decode prog_9_method_2_code 34 = .ok (.aload_n 1, 1) := D_43 W_prog_9_method_2_code_32 2 rfl rfl
theorem d_9_2_35 : decode prog_9_method_2_code 35 = .ok (.getfield 40, 3) := D_180 W_prog_9_method_2_code_32 3 rfl rfl rfl
theorem d_9_2_38 : decode prog_9_method_2_code 38 = .ok (.iconst 4, 1) := D_7 W_prog_9_method_2_code_32 6 rfl rfl
theorem d_9_2_39 : decode prog_9_method_2_code 39 = .ok (.iaload, 1) := D_46 W_prog_9_method_2_code_32 7 rfl rfl
theorem d_9_2_40 : decode prog_9_method_2_code 40 = .ok (.imul, 1) := D_104 W_prog_9_method_2_code_32 8 rfl rfl
theorem d_9_2_41 : decode prog_9_method_2_code 41 = .ok (.putfield 46, 3) := D_181 W_prog_9_method_2_code_32 9 rfl rfl rfl
theorem d_9_2_44 : decode prog_9_method_2_code 44 = .ok (.aload_n 0, 1) := D_42 W_prog_9_method_2_code_32 12 rfl rfl
theorem d_9_2_45 : decode prog_9_method_2_code 45 = .ok (.getfield 26, 3) := D_180 W_prog_9_method_2_code_32 13 rfl rfl rfl
theorem d_9_2_48 : decode prog_9_method_2_code 48 = .ok (.invokevirtual 49, 3) := D_182 W_prog_9_method_2_code_32 16 rfl rfl rfl
theorem d_9_2_51 : decode prog_9_method_2_code 51 = .ok (.aload_n 0, 1) := D_42 W_prog_9_method_2_code_32 19 rfl rfl
theorem d_9_2_52 : decode prog_9_method_2_code 52 = .ok (.invokevirtual 54, 3) := D_182 W_prog_9_method_2_code_32 20 rfl rfl rfl
theorem d_5_9_6 : decode prog_5_method_9_code 6 = .ok (.istore_n 1, 1) := D_60 W_prog_5_method_9_code_0 6 rfl rfl
theorem d_5_9_7 : decode prog_5_method_9_code 7 = .ok (.aload_n 0, 1) := D_42 W_prog_5_method_9_code_0 7 rfl rfl
theorem d_5_9_8 : decode prog_5_method_9_code 8 = .ok (.getfield 48, 3) := D_180 W_prog_5_method_9_code_0 8 rfl rfl rfl
theorem d_5_9_11 : decode prog_5_method_9_code 11 = .ok (.invokevirtual 122, 3) := D_182 W_prog_5_method_9_code_0 11 rfl rfl rfl
theorem d_5_9_14 : decode prog_5_method_9_code 14 = .ok (.aload_n 0, 1) := D_42 W_prog_5_method_9_code_0 14 rfl rfl
theorem d_5_9_15 : decode prog_5_method_9_code 15 = .ok (.invokevirtual 170, 3) := D_182 W_prog_5_method_9_code_0 15 rfl rfl rfl
theorem d_5_19_6 : decode prog_5_method_19_code 6 = .ok (.ifCond .eq 24, 3) := D_153 W_prog_5_method_19_code_0 6 rfl rfl rfl
theorem d_5_19_9 : decode prog_5_method_19_code 9 = .ok (.aload_n 0, 1) := D_42 W_prog_5_method_19_code_0 9 rfl rfl
theorem d_5_19_10 : decode prog_5_method_19_code 10 = .ok (.iload_n 1, 1) := D_27 W_prog_5_method_19_code_0 10 rfl rfl
theorem d_5_19_11 : decode prog_5_method_19_code 11 = .ok (.invokevirtual 238, 3) := D_182 W_prog_5_method_19_code_0 11 rfl rfl rfl
theorem d_5_20_15 : decode prog_5_method_20_code 15 = .ok (.istore 4, 2) := D_54 W_prog_5_method_20_code_0 15 rfl rfl
theorem d_5_20_17 : decode prog_5_method_20_code 17 = .ok (.iload 4, 2) := D_21 W_prog_5_method_20_code_0 17 rfl rfl
theorem d_5_20_19 : decode prog_5_method_20_code 19 = .ok (.iconst (-1), 1) := D_2 W_prog_5_method_20_code_0 19 rfl rfl
theorem d_5_20_20 : decode prog_5_method_20_code 20 = .ok (.if_icmp .ne 5, 3) := D_160 W_prog_5_method_20_code_0 20 rfl rfl rfl
theorem d_5_20_25 : decode prog_5_method_20_code 25 = .ok (.aload_n 0, 1) := D_42 W_prog_5_method_20_code_0 25 rfl rfl
theorem d_5_20_26 : decode prog_5_method_20_code 26 = .ok (.iload 4, 2) := D_21 W_prog_5_method_20_code_0 26 rfl rfl
theorem d_5_20_28 : decode prog_5_method_20_code 28 = .ok (.invokevirtual 166, 3) := D_182 W_prog_5_method_20_code_0 28 rfl rfl rfl
theorem d_5_20_31 : decode prog_5_method_20_code 31 = .ok (.istore 5, 2) := D_54 W_prog_5_method_20_code_0 31 rfl rfl
theorem W_prog_5_method_20_code_32 : chW prog_5_method_20_code 32 [5, 28, 2, 160, 0, 14, 42, 180, 0, 24, 27, 21, 5, 79, 167, 0, 11, 42, 180, 0, 27, 28, 21, 5, 79, 21, 5, 61, 42, 21, 5, 182, 0, 247, 154, 0] := chW_of (by decide +kernel)
theorem d_5_20_33 : decode prog_5_method_20_code 33 = .ok (.iload_n 2, 1) := D_28 W_prog_5_method_20_code_32 1 rfl rfl
theorem d_5_20_34 : decode prog_5_method_20_code 34 = .ok (.iconst (-1), 1) := D_2 W_prog_5_method_20_code_32 2 rfl rfl
theorem d_5_20_35 : decode prog_5_method_20_code 35 = .ok (.if_icmp .ne 14, 3) := D_160 W_prog_5_method_20_code_32 3 rfl rfl rfl
theorem d_5_20_49 : decode prog_5_method_20_code 49 = .ok (.aload_n 0, 1) := D_42 W_prog_5_method_20_code_32 17 rfl rfl
theorem d_5_20_50 : decode prog_5_method_20_code 50 = .ok (.getfield 27, 3) := D_180 W_prog_5_method_20_code_32 18 rfl rfl rfl
theorem d_5_20_53 : decode prog_5_method_20_code 53 = .ok (.iload_n 2, 1) := D_28 W_prog_5_method_20_code_32 21 rfl rfl
theorem d_5_20_54 : decode prog_5_method_20_code 54 = .ok (.iload 5, 2) := D_21 W_prog_5_method_20_code_32 22 rfl rfl
theorem d_5_20_56 : decode prog_5_method_20_code 56 = .ok (.iastore, 1) := D_79 W_prog_5_method_20_code_32 24 rfl rfl
theorem d_5_20_38 : decode prog_5_method_20_code 38 = .ok (.aload_n 0, 1) := D_42 W_prog_5_method_20_code_32 6 rfl rfl
theorem d_5_20_39 : decode prog_5_method_20_code 39 = .ok (.getfield 24, 3) := D_180 W_prog_5_method_20_code_32 7 rfl rfl rfl
theorem d_5_20_42 : decode prog_5_method_20_code 42 = .ok (.iload_n 1, 1) := D_27 W_prog_5_method_20_code_32 10 rfl rfl
theorem d_5_20_43 : decode prog_5_method_20_code 43 = .ok (.iload 5, 2) := D_21 W_prog_5_method_20_code_32 11 rfl rfl
theorem d_5_20_45 : decode prog_5_method_20_code 45 = .ok (.iastore, 1) := D_79 W_prog_5_method_20_code_32 13 rfl rfl
theorem d_5_20_46 : decode prog_5_method_20_code 46 = .ok (.goto 11, 3) := D_167 W_prog_5_method_20_code_32 14 rfl rfl rfl
theorem d_5_20_23 : decode prog_5_method_20_code 23 = .ok (.iconst 1, 1) := D_4 W_prog_5_method_20_code_0 23 rfl rfl
theorem d_5_20_24 : decode prog_5_method_20_code 24 = .ok (.ireturn, 1) := D_172 W_prog_5_method_20_code_0 24 rfl rfl
theorem d_5_20_57 : decode prog_5_method_20_code 57 = .ok (.iload 5, 2) := D_21 W_prog_5_method_20_code_32 25 rfl rfl
theorem d_5_20_59 : decode prog_5_method_20_code 59 = .ok (.istore_n 2, 1) := D_61 W_prog_5_method_20_code_32 27 rfl rfl
theorem d_5_20_60 : decode prog_5_method_20_code 60 = .ok (.aload_n 0, 1) := D_42 W_prog_5_method_20_code_32 28 rfl rfl
theorem d_5_20_61 : decode prog_5_method_20_code 61 = .ok (.iload 5, 2) := D_21 W_prog_5_method_20_code_32 29 rfl rfl
theorem d_5_20_63 : decode prog_5_method_20_code 63 = .ok (.invokevirtual 247, 3) := D_182 W_prog_5_method_20_code_32 31 rfl rfl rfl
theorem W_prog_5_method_22_code_96 : chW prog_5_method_22_code 96 [2, 172, 42, 27, 182, 1, 5, 172, 42, 27, 182, 1, 8, 172, 42, 27, 182, 1, 11, 172, 42, 27, 182, 1, 14, 172, 42, 27, 182, 0, 184, 172, 42, 27, 4, 16] := chW_of (by decide +kernel)
theorem d_5_22_97 : decode prog_5_method_22_code 97 = .ok (.ireturn, 1) := D_172 W_prog_5_method_22_code_96 1 rfl rfl
theorem W_prog_5_method_22_code_128 : chW prog_5_method_22_code 128 [42, 27, 4, 16, 8, 182, 1, 17, 153, 0, 15, 42, 27, 182, 0, 184, 153, 0, 7, 4, 167, 0, 4, 3, 172, 4, 172] := chW_of (by decide +kernel)
theorem d_5_22_153 : decode prog_5_method_22_code 153 = .ok (.iconst 1, 1) := D_4 W_prog_5_method_22_code_128 25 rfl rfl
theorem d_5_22_154 : decode prog_5_method_22_code 154 = .ok (.ireturn, 1) := D_172 W_prog_5_method_22_code_128 26 rfl rfl
theorem d_5_22_98 : decode prog_5_method_22_code 98 = .ok (.aload_n 0, 1) := D_42 W_prog_5_method_22_code_96 2 rfl rfl
theorem d_5_22_99 : decode prog_5_method_22_code 99 = .ok (.iload_n 1, 1) := D_27 W_prog_5_method_22_code_96 3 rfl rfl
theorem d_5_22_100 : decode prog_5_method_22_code 100 = .ok (.invokevirtual 261, 3) := D_182 W_prog_5_method_22_code_96 4 rfl rfl rfl
theorem d_5_31_7 : decode prog_5_method_31_code 7 = .ok (.ifCond .ne 5, 3) := D_154 W_prog_5_method_31_code_0 7 rfl rfl rfl
theorem d_5_31_12 : decode prog_5_method_31_code 12 = .ok (.aload_n 0, 1) := D_42 W_prog_5_method_31_code_0 12 rfl rfl
theorem d_5_31_13 : decode prog_5_method_31_code 13 = .ok (.getfield 18, 3) := D_180 W_prog_5_method_31_code_0 13 rfl rfl rfl
theorem d_5_31_16 : decode prog_5_method_31_code 16 = .ok (.iload_n 1, 1) := D_27 W_prog_5_method_31_code_0 16 rfl rfl
theorem d_5_31_17 : decode prog_5_method_31_code 17 = .ok (.aload_n 0, 1) := D_42 W_prog_5_method_31_code_0 17 rfl rfl
theorem d_5_31_18 : decode prog_5_method_31_code 18 = .ok (.getfield 135, 3) := D_180 W_prog_5_method_31_code_0 18 rfl rfl rfl
theorem d_5_31_21 : decode prog_5_method_31_code 21 = .ok (.iastore, 1) := D_79 W_prog_5_method_31_code_0 21 rfl rfl
theorem d_5_31_22 : decode prog_5_method_31_code 22 = .ok (.aload_n 0, 1) := D_42 W_prog_5_method_31_code_0 22 rfl rfl
theorem d_5_31_23 : decode prog_5_method_31_code 23 = .ok (.iload_n 1, 1) := D_27 W_prog_5_method_31_code_0 23 rfl rfl
theorem d_5_31_24 : decode prog_5_method_31_code 24 = .ok (.invokevirtual 184, 3) := D_182 W_prog_5_method_31_code_0 24 rfl rfl rfl
theorem d_5_35_48 : decode prog_5_method_35_code 48 = .ok (.aload_n 0, 1) := D_42 W_prog_5_method_35_code_32 16 rfl rfl
theorem d_5_35_49 : decode prog_5_method_35_code 49 = .ok (.getfield 48, 3) := D_180 W_prog_5_method_35_code_32 17 rfl rfl rfl
theorem d_5_35_52 : decode prog_5_method_35_code 52 = .ok (.getfield 293, 3) := D_180 W_prog_5_method_35_code_32 20 rfl rfl rfl
theorem d_5_35_55 : decode prog_5_method_35_code 55 = .ok (.iadd, 1) := D_96 W_prog_5_method_35_code_32 23 rfl rfl
theorem d_5_35_56 : decode prog_5_method_35_code 56 = .ok (.imul, 1) := D_104 W_prog_5_method_35_code_32 24 rfl rfl
theorem d_5_35_57 : decode prog_5_method_35_code 57 = .ok (.iastore, 1) := D_79 W_prog_5_method_35_code_32 25 rfl rfl
theorem d_5_35_58 : decode prog_5_method_35_code 58 = .ok (.aload_n 0, 1) := D_42 W_prog_5_method_35_code_32 26 rfl rfl
theorem d_5_35_59 : decode prog_5_method_35_code 59 = .ok (.getfield 48, 3) := D_180 W_prog_5_method_35_code_32 27 rfl rfl rfl
theorem d_5_35_62 : decode prog_5_method_35_code 62 = .ok (.invokevirtual 122, 3) := D_182 W_prog_5_method_35_code_32 30 rfl rfl rfl
theorem W_prog_5_method_35_code_64 : chW prog_5_method_35_code 64 [122, 42, 27, 182, 0, 184, 172] := chW_of (by decide +kernel)
theorem d_5_35_65 : decode prog_5_method_35_code 65 = .ok (.aload_n 0, 1) := D_42 W_prog_5_method_35_code_64 1 rfl rfl
theorem d_5_35_66 : decode prog_5_method_35_code 66 = .ok (.iload_n 1, 1) := D_27 W_prog_5_method_35_code_64 2 rfl rfl
theorem d_5_35_67 : decode prog_5_method_35_code 67 = .ok (.invokevirtual 184, 3) := D_182 W_prog_5_method_35_code_64 3 rfl rfl rfl
theorem d_13_8_47 : decode prog_13_method_8_code 47 = .ok (.aload_n 0, 1) := D_42 W_prog_13_method_8_code_32 15 rfl rfl
theorem d_13_8_48 : decode prog_13_method_8_code 48 = .ok (.aload_n 0, 1) := D_42 W_prog_13_method_8_code_32 16 rfl rfl
theorem d_13_8_49 : decode prog_13_method_8_code 49 = .ok (.getfield 24, 3) := D_180 W_prog_13_method_8_code_32 17 rfl rfl rfl
theorem d_13_8_52 : decode prog_13_method_8_code 52 = .ok (.getfield 81, 3) := D_180 W_prog_13_method_8_code_32 20 rfl rfl rfl
theorem d_13_8_55 : decode prog_13_method_8_code 55 = .ok (.iload_n 1, 1) := D_27 W_prog_13_method_8_code_32 23 rfl rfl
theorem d_13_8_56 : decode prog_13_method_8_code 56 = .ok (.iaload, 1) := D_46 W_prog_13_method_8_code_32 24 rfl rfl
theorem d_13_8_57 : decode prog_13_method_8_code 57 = .ok (.iload_n 2, 1) := D_28 W_prog_13_method_8_code_32 25 rfl rfl
theorem d_13_8_58 : decode prog_13_method_8_code 58 = .ok (.iconst 1, 1) := D_4 W_prog_13_method_8_code_32 26 rfl rfl
theorem d_13_8_59 : decode prog_13_method_8_code 59 = .ok (.iadd, 1) := D_96 W_prog_13_method_8_code_32 27 rfl rfl
theorem d_13_8_60 : decode prog_13_method_8_code 60 = .ok (.invokevirtual 91, 3) := D_182 W_prog_13_method_8_code_32 28 rfl rfl rfl
theorem d_5_9_18 : decode prog_5_method_9_code 18 = .ok (.ifCond .ne 9, 3) := D_154 W_prog_5_method_9_code_0 18 rfl rfl rfl
theorem d_5_9_27 : decode prog_5_method_9_code 27 = .ok (.aload_n 0, 1) := D_42 W_prog_5_method_9_code_0 27 rfl rfl
theorem d_5_9_28 : decode prog_5_method_9_code 28 = .ok (.getfield 48, 3) := D_180 W_prog_5_method_9_code_0 28 rfl rfl rfl
theorem d_5_9_31 : decode prog_5_method_9_code 31 = .ok (.getfield 173, 3) := D_180 W_prog_5_method_9_code_0 31 rfl rfl rfl
theorem W_prog_5_method_9_code_32 : chW prog_5_method_9_code 32 [0, 173, 65, 42, 32, 182, 0, 177, 2, 159, 0, 9, 42, 7, 182, 0, 101, 172, 42, 180, 0, 48, 182, 0, 122, 42, 16, 32, 181, 0, 181, 42, 16, 61, 182, 0] := chW_of (by decide +kernel)
theorem d_5_9_34 : decode prog_5_method_9_code 34 = .ok (.lstore_n 2, 1) := D_65 W_prog_5_method_9_code_32 2 rfl rfl
theorem d_5_9_35 : decode prog_5_method_9_code 35 = .ok (.aload_n 0, 1) := D_42 W_prog_5_method_9_code_32 3 rfl rfl
theorem d_5_9_36 : decode prog_5_method_9_code 36 = .ok (.lload_n 2, 1) := D_32 W_prog_5_method_9_code_32 4 rfl rfl
theorem d_5_9_37 : decode prog_5_method_9_code 37 = .ok (.invokevirtual 177, 3) := D_182 W_prog_5_method_9_code_32 5 rfl rfl rfl
theorem d_5_9_40 : decode prog_5_method_9_code 40 = .ok (.iconst (-1), 1) := D_2 W_prog_5_method_9_code_32 8 rfl rfl
theorem d_5_9_41 : decode prog_5_method_9_code 41 = .ok (.if_icmp .eq 9, 3) := D_159 W_prog_5_method_9_code_32 9 rfl rfl rfl
theorem d_5_9_50 : decode prog_5_method_9_code 50 = .ok (.aload_n 0, 1) := D_42 W_prog_5_method_9_code_32 18 rfl rfl
theorem d_5_9_51 : decode prog_5_method_9_code 51 = .ok (.getfield 48, 3) := D_180 W_prog_5_method_9_code_32 19 rfl rfl rfl
theorem d_5_9_54 : decode prog_5_method_9_code 54 = .ok (.invokevirtual 122, 3) := D_182 W_prog_5_method_9_code_32 22 rfl rfl rfl
theorem d_5_9_57 : decode prog_5_method_9_code 57 = .ok (.aload_n 0, 1) := D_42 W_prog_5_method_9_code_32 25 rfl rfl
theorem d_5_9_58 : decode prog_5_method_9_code 58 = .ok (.bipush 32, 2) := D_16 W_prog_5_method_9_code_32 26 rfl rfl rfl
theorem d_5_9_60 : decode prog_5_method_9_code 60 = .ok (.putfield 181, 3) := D_181 W_prog_5_method_9_code_32 28 rfl rfl rfl
theorem d_5_9_63 : decode prog_5_method_9_code 63 = .ok (.aload_n 0, 1) := D_42 W_prog_5_method_9_code_32 31 rfl rfl
theorem W_prog_5_method_9_code_64 : chW prog_5_method_9_code 64 [16, 61, 182, 0, 146, 153, 0, 11, 42, 27, 182, 0, 184, 154, 0, 5, 3, 172, 42, 180, 0, 52, 42, 180, 0, 66, 32, 80, 42, 180, 0, 56, 42, 180, 0, 66] := chW_of (by decide +kernel)
theorem d_5_9_64 : decode prog_5_method_9_code 64 = .ok (.bipush 61, 2) := D_16 W_prog_5_method_9_code_64 0 rfl rfl rfl
theorem d_5_9_66 : decode prog_5_method_9_code 66 = .ok (.invokevirtual 146, 3) := D_182 W_prog_5_method_9_code_64 2 rfl rfl rfl
theorem d_5_9_69 : decode prog_5_method_9_code 69 = .ok (.ifCond .eq 11, 3) := D_153 W_prog_5_method_9_code_64 5 rfl rfl rfl
theorem d_5_9_72 : decode prog_5_method_9_code 72 = .ok (.aload_n 0, 1) := D_42 W_prog_5_method_9_code_64 8 rfl rfl
theorem d_5_9_73 : decode prog_5_method_9_code 73 = .ok (.iload_n 1, 1) := D_27 W_prog_5_method_9_code_64 9 rfl rfl
theorem d_5_9_74 : decode prog_5_method_9_code 74 = .ok (.invokevirtual 184, 3) := D_182 W_prog_5_method_9_code_64 10 rfl rfl rfl
theorem d_5_30_17 : decode prog_5_method_30_code 17 = .ok (.ifCond .eq 33, 3) := D_153 W_prog_5_method_30_code_0 17 rfl rfl rfl
theorem d_5_30_20 : decode prog_5_method_30_code 20 = .ok (.aload_n 0, 1) := D_42 W_prog_5_method_30_code_0 20 rfl rfl
theorem d_5_30_21 : decode prog_5_method_30_code 21 = .ok (.bipush 58, 2) := D_16 W_prog_5_method_30_code_0 21 rfl rfl rfl
theorem d_5_30_23 : decode prog_5_method_30_code 23 = .ok (.invokevirtual 146, 3) := D_182 W_prog_5_method_30_code_0 23 rfl rfl rfl
theorem d_5_30_26 : decode prog_5_method_30_code 26 = .ok (.ifCond .eq 24, 3) := D_153 W_prog_5_method_30_code_0 26 rfl rfl rfl
theorem d_5_30_29 : decode prog_5_method_30_code 29 = .ok (.aload_n 0, 1) := D_42 W_prog_5_method_30_code_0 29 rfl rfl
theorem d_5_30_30 : decode prog_5_method_30_code 30 = .ok (.iload_n 1, 1) := D_27 W_prog_5_method_30_code_0 30 rfl rfl
theorem d_5_30_31 : decode prog_5_method_30_code 31 = .ok (.invokevirtual 238, 3) := D_182 W_prog_5_method_30_code_0 31 rfl rfl rfl
theorem d_5_34_29 : decode prog_5_method_34_code 29 = .ok (.aload_n 0, 1) := D_42 W_prog_5_method_34_code_0 29 rfl rfl
theorem d_5_34_30 : decode prog_5_method_34_code 30 = .ok (.getfield 48, 3) := D_180 W_prog_5_method_34_code_0 30 rfl rfl rfl
theorem W_prog_5_method_34_code_32 : chW prog_5_method_34_code 32 [48, 180, 1, 37, 96, 62, 42, 180, 0, 48, 182, 0, 122, 42, 180, 0, 48, 180, 0, 108, 5, 159, 0, 9, 42, 5, 182, 0, 101, 172, 42, 180, 0, 18, 27, 42] := chW_of (by decide +kernel)
theorem d_5_34_33 : decode prog_5_method_34_code 33 = .ok (.getfield 293, 3) := D_180 W_prog_5_method_34_code_32 1 rfl rfl rfl
theorem d_5_34_36 : decode prog_5_method_34_code 36 = .ok (.iadd, 1) := D_96 W_prog_5_method_34_code_32 4 rfl rfl
theorem d_5_34_37 : decode prog_5_method_34_code 37 = .ok (.istore_n 3, 1) := D_62 W_prog_5_method_34_code_32 5 rfl rfl
theorem d_5_34_38 : decode prog_5_method_34_code 38 = .ok (.aload_n 0, 1) := D_42 W_prog_5_method_34_code_32 6 rfl rfl
theorem d_5_34_39 : decode prog_5_method_34_code 39 = .ok (.getfield 48, 3) := D_180 W_prog_5_method_34_code_32 7 rfl rfl rfl
theorem d_5_34_42 : decode prog_5_method_34_code 42 = .ok (.invokevirtual 122, 3) := D_182 W_prog_5_method_34_code_32 10 rfl rfl rfl
theorem d_5_34_45 : decode prog_5_method_34_code 45 = .ok (.aload_n 0, 1) := D_42 W_prog_5_method_34_code_32 13 rfl rfl
theorem d_5_34_46 : decode prog_5_method_34_code 46 = .ok (.getfield 48, 3) := D_180 W_prog_5_method_34_code_32 14 rfl rfl rfl
theorem d_5_34_49 : decode prog_5_method_34_code 49 = .ok (.getfield 108, 3) := D_180 W_prog_5_method_34_code_32 17 rfl rfl rfl
theorem d_5_34_52 : decode prog_5_method_34_code 52 = .ok (.iconst 2, 1) := D_5 W_prog_5_method_34_code_32 20 rfl rfl
theorem d_5_34_53 : decode prog_5_method_34_code 53 = .ok (.if_icmp .eq 9, 3) := D_159 W_prog_5_method_34_code_32 21 rfl rfl rfl
theorem d_5_34_62 : decode prog_5_method_34_code 62 = .ok (.aload_n 0, 1) := D_42 W_prog_5_method_34_code_32 30 rfl rfl
theorem d_5_34_63 : decode prog_5_method_34_code 63 = .ok (.getfield 18, 3) := D_180 W_prog_5_method_34_code_32 31 rfl rfl rfl
theorem W_prog_5_method_34_code_64 : chW prog_5_method_34_code 64 [0, 18, 27, 42, 180, 0, 48, 180, 1, 34, 28, 100, 79, 42, 180, 0, 21, 27, 42, 180, 0, 48, 180, 1, 34, 184, 1, 59, 42, 180, 0, 48, 180, 1, 37, 96] := chW_of (by decide +kernel)
theorem d_5_34_66 : decode prog_5_method_34_code 66 = .ok (.iload_n 1, 1) := D_27 W_prog_5_method_34_code_64 2 rfl rfl
theorem d_5_34_67 : decode prog_5_method_34_code 67 = .ok (.aload_n 0, 1) := D_42 W_prog_5_method_34_code_64 3 rfl rfl
theorem d_5_34_68 : decode prog_5_method_34_code 68 = .ok (.getfield 48, 3) := D_180 W_prog_5_method_34_code_64 4 rfl rfl rfl
theorem d_5_34_71 : decode prog_5_method_34_code 71 = .ok (.getfield 290, 3) := D_180 W_prog_5_method_34_code_64 7 rfl rfl rfl
theorem d_5_34_74 : decode prog_5_method_34_code 74 = .ok (.iload_n 2, 1) := D_28 W_prog_5_method_34_code_64 10 rfl rfl
theorem d_5_34_75 : decode prog_5_method_34_code 75 = .ok (.isub, 1) := D_100 W_prog_5_method_34_code_64 11 rfl rfl
theorem d_5_34_76 : decode prog_5_method_34_code 76 = .ok (.iastore, 1) := D_79 W_prog_5_method_34_code_64 12 rfl rfl
theorem d_5_34_77 : decode prog_5_method_34_code 77 = .ok (.aload_n 0, 1) := D_42 W_prog_5_method_34_code_64 13 rfl rfl
theorem d_5_34_78 : decode prog_5_method_34_code 78 = .ok (.getfield 21, 3) := D_180 W_prog_5_method_34_code_64 14 rfl rfl rfl
theorem d_5_34_81 : decode prog_5_method_34_code 81 = .ok (.iload_n 1, 1) := D_27 W_prog_5_method_34_code_64 17 rfl rfl
theorem d_5_34_82 : decode prog_5_method_34_code 82 = .ok (.aload_n 0, 1) := D_42 W_prog_5_method_34_code_64 18 rfl rfl
theorem d_5_34_83 : decode prog_5_method_34_code 83 = .ok (.getfield 48, 3) := D_180 W_prog_5_method_34_code_64 19 rfl rfl rfl
theorem d_5_34_86 : decode prog_5_method_34_code 86 = .ok (.getfield 290, 3) := D_180 W_prog_5_method_34_code_64 22 rfl rfl rfl
theorem d_5_34_89 : decode prog_5_method_34_code 89 = .ok (.invokestatic 315, 3) := D_184 W_prog_5_method_34_code_64 25 rfl rfl rfl
theorem d_5_34_92 : decode prog_5_method_34_code 92 = .ok (.aload_n 0, 1) := D_42 W_prog_5_method_34_code_64 28 rfl rfl
theorem d_5_34_93 : decode prog_5_method_34_code 93 = .ok (.getfield 48, 3) := D_180 W_prog_5_method_34_code_64 29 rfl rfl rfl
theorem W_prog_5_method_34_code_96 : chW prog_5_method_34_code 96 [180, 1, 37, 96, 29, 100, 79, 42, 180, 0, 48, 182, 0, 122, 42, 27, 182, 0, 184, 172] := chW_of (by decide +kernel)
theorem d_5_34_96 : decode prog_5_method_34_code 96 = .ok (.getfield 293, 3) := D_180 W_prog_5_method_34_code_96 0 rfl rfl rfl
theorem d_5_34_99 : decode prog_5_method_34_code 99 = .ok (.iadd, 1) := D_96 W_prog_5_method_34_code_96 3 rfl rfl
theorem d_5_34_100 : decode prog_5_method_34_code 100 = .ok (.iload_n 3, 1) := D_29 W_prog_5_method_34_code_96 4 rfl rfl
theorem d_5_34_101 : decode prog_5_method_34_code 101 = .ok (.isub, 1) := D_100 W_prog_5_method_34_code_96 5 rfl rfl
theorem d_5_34_102 : decode prog_5_method_34_code 102 = .ok (.iastore, 1) := D_79 W_prog_5_method_34_code_96 6 rfl rfl
theorem d_5_34_103 : decode prog_5_method_34_code 103 = .ok (.aload_n 0, 1) := D_42 W_prog_5_method_34_code_96 7 rfl rfl
theorem d_5_34_104 : decode prog_5_method_34_code 104 = .ok (.getfield 48, 3) := D_180 W_prog_5_method_34_code_96 8 rfl rfl rfl
theorem d_5_34_107 : decode prog_5_method_34_code 107 = .ok (.invokevirtual 122, 3) := D_182 W_prog_5_method_34_code_96 11 rfl rfl rfl
theorem d_5_34_110 : decode prog_5_method_34_code 110 = .ok (.aload_n 0, 1) := D_42 W_prog_5_method_34_code_96 14 rfl rfl
theorem d_5_34_111 : decode prog_5_method_34_code 111 = .ok (.iload_n 1, 1) := D_27 W_prog_5_method_34_code_96 15 rfl rfl
theorem d_5_34_112 : decode prog_5_method_34_code 112 = .ok (.invokevirtual 184, 3) := D_182 W_prog_5_method_34_code_96 16 rfl rfl rfl
theorem d_13_4_44 : decode prog_13_method_4_code 44 = .ok (.aload_n 0, 1) := D_42 W_prog_13_method_4_code_32 12 rfl rfl
theorem d_13_4_45 : decode prog_13_method_4_code 45 = .ok (.getfield 32, 3) := D_180 W_prog_13_method_4_code_32 13 rfl rfl rfl
theorem d_13_4_48 : decode prog_13_method_4_code 48 = .ok (.ifCond .ne 9, 3) := D_154 W_prog_13_method_4_code_32 16 rfl rfl rfl
theorem d_13_4_51 : decode prog_13_method_4_code 51 = .ok (.aload_n 0, 1) := D_42 W_prog_13_method_4_code_32 19 rfl rfl
theorem d_13_4_52 : decode prog_13_method_4_code 52 = .ok (.iload_n 3, 1) := D_29 W_prog_13_method_4_code_32 20 rfl rfl
theorem d_13_4_53 : decode prog_13_method_4_code 53 = .ok (.iload_n 2, 1) := D_28 W_prog_13_method_4_code_32 21 rfl rfl
theorem d_13_4_54 : decode prog_13_method_4_code 54 = .ok (.invokevirtual 102, 3) := D_182 W_prog_13_method_4_code_32 22 rfl rfl rfl
theorem d_13_6_77 : decode prog_13_method_6_code 77 = .ok (.goto 208, 3) := D_167 W_prog_13_method_6_code_64 13 rfl rfl rfl
theorem d_13_6_80 : decode prog_13_method_6_code 80 = .ok (.aload_n 0, 1) := D_42 W_prog_13_method_6_code_64 16 rfl rfl
theorem d_13_6_81 : decode prog_13_method_6_code 81 = .ok (.getfield 42, 3) := D_180 W_prog_13_method_6_code_64 17 rfl rfl rfl
theorem d_13_6_84 : decode prog_13_method_6_code 84 = .ok (.ifCond .ne 201, 3) := D_154 W_prog_13_method_6_code_64 20 rfl rfl rfl
theorem d_13_6_87 : decode prog_13_method_6_code 87 = .ok (.aload_n 0, 1) := D_42 W_prog_13_method_6_code_64 23 rfl rfl
theorem d_13_6_88 : decode prog_13_method_6_code 88 = .ok (.getfield 70, 3) := D_180 W_prog_13_method_6_code_64 24 rfl rfl rfl
theorem d_13_6_91 : decode prog_13_method_6_code 91 = .ok (.lconst 0, 1) := D_9 W_prog_13_method_6_code_64 27 rfl rfl
theorem d_13_6_92 : decode prog_13_method_6_code 92 = .ok (.lcmp, 1) := D_148 W_prog_13_method_6_code_64 28 rfl rfl
theorem d_13_6_93 : decode prog_13_method_6_code 93 = .ok (.ifCond .le 192, 3) := D_158 W_prog_13_method_6_code_64 29 rfl rfl rfl
theorem W_prog_13_method_6_code_96 : chW prog_13_method_6_code 96 [42, 180, 0, 60, 42, 180, 0, 70, 113, 9, 148, 153, 0, 178, 42, 16, 7, 42, 180, 0, 24, 180, 0, 95, 27, 46, 182, 0, 108, 167, 0, 160, 42, 42, 180, 0] := chW_of (by decide +kernel)
theorem d_13_6_96 : decode prog_13_method_6_code 96 = .ok (.aload_n 0, 1) := D_42 W_prog_13_method_6_code_96 0 rfl rfl
theorem d_13_6_97 : decode prog_13_method_6_code 97 = .ok (.getfield 60, 3) := D_180 W_prog_13_method_6_code_96 1 rfl rfl rfl
theorem d_13_6_100 : decode prog_13_method_6_code 100 = .ok (.aload_n 0, 1) := D_42 W_prog_13_method_6_code_96 4 rfl rfl
theorem d_13_6_101 : decode prog_13_method_6_code 101 = .ok (.getfield 70, 3) := D_180 W_prog_13_method_6_code_96 5 rfl rfl rfl
theorem d_13_6_104 : decode prog_13_method_6_code 104 = .ok (.lrem, 1) := D_113 W_prog_13_method_6_code_96 8 rfl rfl
theorem d_13_6_105 : decode prog_13_method_6_code 105 = .ok (.lconst 0, 1) := D_9 W_prog_13_method_6_code_96 9 rfl rfl
theorem d_13_6_106 : decode prog_13_method_6_code 106 = .ok (.lcmp, 1) := D_148 W_prog_13_method_6_code_96 10 rfl rfl
theorem d_13_6_107 : decode prog_13_method_6_code 107 = .ok (.ifCond .eq 178, 3) := D_153 W_prog_13_method_6_code_96 11 rfl rfl rfl
theorem d_13_6_110 : decode prog_13_method_6_code 110 = .ok (.aload_n 0, 1) := D_42 W_prog_13_method_6_code_96 14 rfl rfl
theorem d_13_6_111 : decode prog_13_method_6_code 111 = .ok (.bipush 7, 2) := D_16 W_prog_13_method_6_code_96 15 rfl rfl rfl
theorem d_13_6_113 : decode prog_13_method_6_code 113 = .ok (.aload_n 0, 1) := D_42 W_prog_13_method_6_code_96 17 rfl rfl
theorem d_13_6_114 : decode prog_13_method_6_code 114 = .ok (.getfield 24, 3) := D_180 W_prog_13_method_6_code_96 18 rfl rfl rfl
theorem d_13_6_117 : decode prog_13_method_6_code 117 = .ok (.getfield 95, 3) := D_180 W_prog_13_method_6_code_96 21 rfl rfl rfl
theorem d_13_6_120 : decode prog_13_method_6_code 120 = .ok (.iload_n 1, 1) := D_27 W_prog_13_method_6_code_96 24 rfl rfl
theorem d_13_6_121 : decode prog_13_method_6_code 121 = .ok (.iaload, 1) := D_46 W_prog_13_method_6_code_96 25 rfl rfl
theorem d_13_6_122 : decode prog_13_method_6_code 122 = .ok (.invokevirtual 108, 3) := D_182 W_prog_13_method_6_code_96 26 rfl rfl rfl
theorem d_13_6_125 : decode prog_13_method_6_code 125 = .ok (.goto 160, 3) := D_167 W_prog_13_method_6_code_96 29 rfl rfl rfl
theorem W_prog_13_method_6_code_128 : chW prog_13_method_6_code 128 [42, 42, 180, 0, 24, 180, 0, 117, 27, 46, 181, 0, 39, 167, 0, 144, 42, 27, 28, 182, 0, 120, 167, 0, 135, 42, 27, 28, 182, 0, 123, 167, 0, 126, 42, 42] := chW_of (by decide +kernel)
theorem d_13_6_128 : decode prog_13_method_6_code 128 = .ok (.aload_n 0, 1) := D_42 W_prog_13_method_6_code_128 0 rfl rfl
theorem d_13_6_129 : decode prog_13_method_6_code 129 = .ok (.aload_n 0, 1) := D_42 W_prog_13_method_6_code_128 1 rfl rfl
theorem d_13_6_130 : decode prog_13_method_6_code 130 = .ok (.getfield 24, 3) := D_180 W_prog_13_method_6_code_128 2 rfl rfl rfl
theorem d_13_6_133 : decode prog_13_method_6_code 133 = .ok (.getfield 117, 3) := D_180 W_prog_13_method_6_code_128 5 rfl rfl rfl
theorem d_13_6_136 : decode prog_13_method_6_code 136 = .ok (.iload_n 1, 1) := D_27 W_prog_13_method_6_code_128 8 rfl rfl
theorem d_13_6_137 : decode prog_13_method_6_code 137 = .ok (.iaload, 1) := D_46 W_prog_13_method_6_code_128 9 rfl rfl
theorem d_13_6_138 : decode prog_13_method_6_code 138 = .ok (.putfield 39, 3) := D_181 W_prog_13_method_6_code_128 10 rfl rfl rfl
theorem d_13_6_141 : decode prog_13_method_6_code 141 = .ok (.goto 144, 3) := D_167 W_prog_13_method_6_code_128 13 rfl rfl rfl
theorem d_13_6_144 : decode prog_13_method_6_code 144 = .ok (.aload_n 0, 1) := D_42 W_prog_13_method_6_code_128 16 rfl rfl
theorem d_13_6_145 : decode prog_13_method_6_code 145 = .ok (.iload_n 1, 1) := D_27 W_prog_13_method_6_code_128 17 rfl rfl
theorem d_13_6_146 : decode prog_13_method_6_code 146 = .ok (.iload_n 2, 1) := D_28 W_prog_13_method_6_code_128 18 rfl rfl
theorem d_13_6_147 : decode prog_13_method_6_code 147 = .ok (.invokevirtual 120, 3) := D_182 W_prog_13_method_6_code_128 19 rfl rfl rfl
theorem d_9_2_55 : decode prog_9_method_2_code 55 = .ok (.sipush 512, 3) := D_17 W_prog_9_method_2_code_32 23 rfl rfl rfl
theorem d_9_2_58 : decode prog_9_method_2_code 58 = .ok (.aload_n 0, 1) := D_42 W_prog_9_method_2_code_32 26 rfl rfl
theorem d_9_2_59 : decode prog_9_method_2_code 59 = .ok (.getfield 36, 3) := D_180 W_prog_9_method_2_code_32 27 rfl rfl rfl
theorem d_9_2_62 : decode prog_9_method_2_code 62 = .ok (.idiv, 1) := D_108 W_prog_9_method_2_code_32 30 rfl rfl
theorem d_9_2_63 : decode prog_9_method_2_code 63 = .ok (.i2l, 1) := D_133 W_prog_9_method_2_code_32 31 rfl rfl
theorem W_prog_9_method_2_code_64 : chW prog_9_method_2_code 64 [105, 55, 4, 22, 4, 20, 0, 58, 42, 180, 0, 46, 133, 105, 148, 158, 0, 6, 16, 254, 172, 42, 182, 0, 60, 3, 54, 6, 3, 54, 7, 21, 7, 43, 180, 0] := chW_of (by decide +kernel)
theorem d_9_2_64 : decode prog_9_method_2_code 64 = .ok (.lmul, 1) := D_105 W_prog_9_method_2_code_64 0 rfl rfl
theorem d_9_2_65 : decode prog_9_method_2_code 65 = .ok (.lstore 4, 2) := D_55 W_prog_9_method_2_code_64 1 rfl rfl
theorem d_9_2_67 : decode prog_9_method_2_code 67 = .ok (.lload 4, 2) := D_22 W_prog_9_method_2_code_64 3 rfl rfl
theorem d_9_2_69 : decode prog_9_method_2_code 69 = .ok (.ldc2_w 58, 3) := D_20 W_prog_9_method_2_code_64 5 rfl rfl rfl
theorem d_9_2_72 : decode prog_9_method_2_code 72 = .ok (.aload_n 0, 1) := D_42 W_prog_9_method_2_code_64 8 rfl rfl
theorem d_9_2_73 : decode prog_9_method_2_code 73 = .ok (.getfield 46, 3) := D_180 W_prog_9_method_2_code_64 9 rfl rfl rfl
theorem d_9_2_76 : decode prog_9_method_2_code 76 = .ok (.i2l, 1) := D_133 W_prog_9_method_2_code_64 12 rfl rfl
theorem d_9_2_77 : decode prog_9_method_2_code 77 = .ok (.lmul, 1) := D_105 W_prog_9_method_2_code_64 13 rfl rfl
theorem d_9_2_78 : decode prog_9_method_2_code 78 = .ok (.lcmp, 1) := D_148 W_prog_9_method_2_code_64 14 rfl rfl
theorem d_9_2_79 : decode prog_9_method_2_code 79 = .ok (.ifCond .le 6, 3) := D_158 W_prog_9_method_2_code_64 15 rfl rfl rfl
theorem d_9_2_85 : decode prog_9_method_2_code 85 = .ok (.aload_n 0, 1) := D_42 W_prog_9_method_2_code_64 21 rfl rfl
theorem d_9_2_86 : decode prog_9_method_2_code 86 = .ok (.invokevirtual 60, 3) := D_182 W_prog_9_method_2_code_64 22 rfl rfl rfl
theorem d_9_2_89 : decode prog_9_method_2_code 89 = .ok (.iconst 0, 1) := D_3 W_prog_9_method_2_code_64 25 rfl rfl
theorem d_9_2_90 : decode prog_9_method_2_code 90 = .ok (.istore 6, 2) := D_54 W_prog_9_method_2_code_64 26 rfl rfl
theorem d_9_2_92 : decode prog_9_method_2_code 92 = .ok (.iconst 0, 1) := D_3 W_prog_9_method_2_code_64 28 rfl rfl
theorem d_9_2_93 : decode prog_9_method_2_code 93 = .ok (.istore 7, 2) := D_54 W_prog_9_method_2_code_64 29 rfl rfl
theorem d_9_2_82 : decode prog_9_method_2_code 82 = .ok (.bipush (-2), 2) := D_16 W_prog_9_method_2_code_64 18 rfl rfl rfl
theorem d_9_2_84 : decode prog_9_method_2_code 84 = .ok (.ireturn, 1) := D_172 W_prog_9_method_2_code_64 20 rfl rfl
theorem d_9_2_95 : decode prog_9_method_2_code 95 = .ok (.iload 7, 2) := D_21 W_prog_9_method_2_code_64 31 rfl rfl
theorem W_prog_9_method_2_code_96 : chW prog_9_method_2_code 96 [7, 43, 180, 0, 63, 162, 0, 34, 21, 6, 7, 162, 0, 28, 42, 21, 7, 21, 6, 22, 4, 136, 182, 0, 66, 132, 6, 1, 42, 21, 7, 182, 0, 70, 54, 7] := chW_of (by decide +kernel)
theorem d_9_2_97 : decode prog_9_method_2_code 97 = .ok (.aload_n 1, 1) := D_43 W_prog_9_method_2_code_96 1 rfl rfl
theorem d_9_2_98 : decode prog_9_method_2_code 98 = .ok (.getfield 63, 3) := D_180 W_prog_9_method_2_code_96 2 rfl rfl rfl
theorem d_9_2_101 : decode prog_9_method_2_code 101 = .ok (.if_icmp .ge 34, 3) := D_162 W_prog_9_method_2_code_96 5 rfl rfl rfl
theorem d_9_2_104 : decode prog_9_method_2_code 104 = .ok (.iload 6, 2) := D_21 W_prog_9_method_2_code_96 8 rfl rfl
theorem d_9_2_106 : decode prog_9_method_2_code 106 = .ok (.iconst 4, 1) := D_7 W_prog_9_method_2_code_96 10 rfl rfl
theorem d_9_2_107 : decode prog_9_method_2_code 107 = .ok (.if_icmp .ge 28, 3) := D_162 W_prog_9_method_2_code_96 11 rfl rfl rfl
theorem d_9_2_110 : decode prog_9_method_2_code 110 = .ok (.aload_n 0, 1) := D_42 W_prog_9_method_2_code_96 14 rfl rfl
theorem d_9_2_111 : decode prog_9_method_2_code 111 = .ok (.iload 7, 2) := D_21 W_prog_9_method_2_code_96 15 rfl rfl
theorem d_9_2_113 : decode prog_9_method_2_code 113 = .ok (.iload 6, 2) := D_21 W_prog_9_method_2_code_96 17 rfl rfl
theorem d_9_2_115 : decode prog_9_method_2_code 115 = .ok (.lload 4, 2) := D_22 W_prog_9_method_2_code_96 19 rfl rfl
theorem d_9_2_117 : decode prog_9_method_2_code 117 = .ok (.l2i, 1) := D_136 W_prog_9_method_2_code_96 21 rfl rfl
theorem d_9_2_118 : decode prog_9_method_2_code 118 = .ok (.invokevirtual 66, 3) := D_182 W_prog_9_method_2_code_96 22 rfl rfl rfl
theorem d_9_2_121 : decode prog_9_method_2_code 121 = .ok (.iinc 6 1, 3) := D_132 W_prog_9_method_2_code_96 25 rfl rfl rfl
theorem d_9_2_124 : decode prog_9_method_2_code 124 = .ok (.aload_n 0, 1) := D_42 W_prog_9_method_2_code_96 28 rfl rfl
theorem d_9_2_125 : decode prog_9_method_2_code 125 = .ok (.iload 7, 2) := D_21 W_prog_9_method_2_code_96 29 rfl rfl
theorem d_9_2_127 : decode prog_9_method_2_code 127 = .ok (.invokevirtual 70, 3) := D_182 W_prog_9_method_2_code_96 31 rfl rfl rfl
theorem W_prog_9_method_2_code_128 : chW prog_9_method_2_code 128 [0, 70, 54, 7, 167, 255, 219, 42, 180, 0, 26, 180, 0, 74, 154, 0, 16, 42, 180, 0, 26, 180, 0, 78, 17, 11, 184, 164, 0, 13, 42, 180, 0, 26, 182, 0] := chW_of (by decide +kernel)
theorem d_9_2_130 : decode prog_9_method_2_code 130 = .ok (.istore 7, 2) := D_54 W_prog_9_method_2_code_128 2 rfl rfl
theorem d_9_2_132 : decode prog_9_method_2_code 132 = .ok (.goto (-37), 3) := D_167 W_prog_9_method_2_code_128 4 rfl rfl rfl
theorem d_9_2_135 : decode prog_9_method_2_code 135 = .ok (.aload_n 0, 1) := D_42 W_prog_9_method_2_code_128 7 rfl rfl
theorem d_9_2_136 : decode prog_9_method_2_code 136 = .ok (.getfield 26, 3) := D_180 W_prog_9_method_2_code_128 8 rfl rfl rfl
theorem d_9_2_139 : decode prog_9_method_2_code 139 = .ok (.getfield 74, 3) := D_180 W_prog_9_method_2_code_128 11 rfl rfl rfl
theorem d_9_2_142 : decode prog_9_method_2_code 142 = .ok (.ifCond .ne 16, 3) := D_154 W_prog_9_method_2_code_128 14 rfl rfl rfl
theorem d_9_2_145 : decode prog_9_method_2_code 145 = .ok (.aload_n 0, 1) := D_42 W_prog_9_method_2_code_128 17 rfl rfl
theorem d_9_2_146 : decode prog_9_method_2_code 146 = .ok (.getfield 26, 3) := D_180 W_prog_9_method_2_code_128 18 rfl rfl rfl
theorem d_9_2_149 : decode prog_9_method_2_code 149 = .ok (.getfield 78, 3) := D_180 W_prog_9_method_2_code_128 21 rfl rfl rfl
theorem d_9_2_152 : decode prog_9_method_2_code 152 = .ok (.sipush 3000, 3) := D_17 W_prog_9_method_2_code_128 24 rfl rfl rfl
theorem d_9_2_155 : decode prog_9_method_2_code 155 = .ok (.if_icmp .le 13, 3) := D_164 W_prog_9_method_2_code_128 27 rfl rfl rfl
theorem W_prog_9_method_2_code_160 : chW prog_9_method_2_code 160 [0, 26, 182, 0, 49, 16, 254, 172, 42, 180, 0, 26, 180, 0, 78, 172] := chW_of (by decide +kernel)
theorem d_9_2_168 : decode prog_9_method_2_code 168 = .ok (.aload_n 0, 1) := D_42 W_prog_9_method_2_code_160 8 rfl rfl
theorem d_9_2_169 : decode prog_9_method_2_code 169 = .ok (.getfield 26, 3) := D_180 W_prog_9_method_2_code_160 9 rfl rfl rfl
theorem d_9_2_172 : decode prog_9_method_2_code 172 = .ok (.getfield 78, 3) := D_180 W_prog_9_method_2_code_160 12 rfl rfl rfl
theorem d_9_2_175 : decode prog_9_method_2_code 175 = .ok (.ireturn, 1) := D_172 W_prog_9_method_2_code_160 15 rfl rfl
theorem d_9_2_158 : decode prog_9_method_2_code 158 = .ok (.aload_n 0, 1) := D_42 W_prog_9_method_2_code_128 30 rfl rfl
theorem d_9_2_159 : decode prog_9_method_2_code 159 = .ok (.getfield 26, 3) := D_180 W_prog_9_method_2_code_128 31 rfl rfl rfl
theorem d_9_2_162 : decode prog_9_method_2_code 162 = .ok (.invokevirtual 49, 3) := D_182 W_prog_9_method_2_code_160 2 rfl rfl rfl
theorem d_9_2_165 : decode prog_9_method_2_code 165 = .ok (.bipush (-2), 2) := D_16 W_prog_9_method_2_code_160 5 rfl rfl rfl
theorem d_9_2_167 : decode prog_9_method_2_code 167 = .ok (.ireturn, 1) := D_172 W_prog_9_method_2_code_160 7 rfl rfl
theorem d_1_27_68 : decode prog_1_method_27_code 68 = .ok (.ireturn, 1) := D_172 W_prog_1_method_27_code_64 4 rfl rfl
theorem d_1_27_50 : decode prog_1_method_27_code 50 = .ok (.iconst (-1), 1) := D_2 W_prog_1_method_27_code_32 18 rfl rfl
theorem d_1_27_51 : decode prog_1_method_27_code 51 = .ok (.ireturn, 1) := D_172 W_prog_1_method_27_code_32 19 rfl rfl
theorem d_5_19_14 : decode prog_5_method_19_code 14 = .ok (.ifCond .eq 16, 3) := D_153 W_prog_5_method_19_code_0 14 rfl rfl rfl
theorem d_5_19_17 : decode prog_5_method_19_code 17 = .ok (.aload_n 0, 1) := D_42 W_prog_5_method_19_code_0 17 rfl rfl
theorem d_5_19_18 : decode prog_5_method_19_code 18 = .ok (.bipush 125, 2) := D_16 W_prog_5_method_19_code_0 18 rfl rfl rfl
theorem d_5_19_20 : decode prog_5_method_19_code 20 = .ok (.invokevirtual 241, 3) := D_182 W_prog_5_method_19_code_0 20 rfl rfl rfl
theorem d_5_19_23 : decode prog_5_method_19_code 23 = .ok (.ifCond .eq 7, 3) := D_153 W_prog_5_method_19_code_0 23 rfl rfl rfl
theorem d_5_19_26 : decode prog_5_method_19_code 26 = .ok (.iconst 1, 1) := D_4 W_prog_5_method_19_code_0 26 rfl rfl
theorem d_5_19_27 : decode prog_5_method_19_code 27 = .ok (.goto 4, 3) := D_167 W_prog_5_method_19_code_0 27 rfl rfl rfl
theorem d_5_19_31 : decode prog_5_method_19_code 31 = .ok (.ireturn, 1) := D_172 W_prog_5_method_19_code_0 31 rfl rfl
theorem d_5_19_30 : decode prog_5_method_19_code 30 = .ok (.iconst 0, 1) := D_3 W_prog_5_method_19_code_0 30 rfl rfl
theorem d_5_20_66 : decode prog_5_method_20_code 66 = .ok (.ifCond .ne 5, 3) := D_154 W_prog_5_method_20_code_64 2 rfl rfl rfl
theorem d_5_20_71 : decode prog_5_method_20_code 71 = .ok (.iinc 3 1, 3) := D_132 W_prog_5_method_20_code_64 7 rfl rfl rfl
theorem d_5_20_74 : decode prog_5_method_20_code 74 = .ok (.goto (-70), 3) := D_167 W_prog_5_method_20_code_64 10 rfl rfl rfl
theorem d_5_20_69 : decode prog_5_method_20_code 69 = .ok (.iconst 0, 1) := D_3 W_prog_5_method_20_code_64 5 rfl rfl
theorem d_5_20_70 : decode prog_5_method_20_code 70 = .ok (.ireturn, 1) := D_172 W_prog_5_method_20_code_64 6 rfl rfl
theorem d_5_22_103 : decode prog_5_method_22_code 103 = .ok (.ireturn, 1) := D_172 W_prog_5_method_22_code_96 7 rfl rfl
theorem d_5_22_104 : decode prog_5_method_22_code 104 = .ok (.aload_n 0, 1) := D_42 W_prog_5_method_22_code_96 8 rfl rfl
theorem d_5_22_105 : decode prog_5_method_22_code 105 = .ok (.iload_n 1, 1) := D_27 W_prog_5_method_22_code_96 9 rfl rfl
theorem d_5_22_106 : decode prog_5_method_22_code 106 = .ok (.invokevirtual 264, 3) := D_182 W_prog_5_method_22_code_96 10 rfl rfl rfl
theorem d_5_22_109 : decode prog_5_method_22_code 109 = .ok (.ireturn, 1) := D_172 W_prog_5_method_22_code_96 13 rfl rfl
theorem d_5_22_110 : decode prog_5_method_22_code 110 = .ok (.aload_n 0, 1) := D_42 W_prog_5_method_22_code_96 14 rfl rfl
theorem d_5_22_111 : decode prog_5_method_22_code 111 = .ok (.iload_n 1, 1) := D_27 W_prog_5_method_22_code_96 15 rfl rfl
theorem d_5_22_112 : decode prog_5_method_22_code 112 = .ok (.invokevirtual 267, 3) := D_182 W_prog_5_method_22_code_96 16 rfl rfl rfl
theorem d_5_22_115 : decode prog_5_method_22_code 115 = .ok (.ireturn, 1) := D_172 W_prog_5_method_22_code_96 19 rfl rfl
theorem d_5_22_116 : decode prog_5_method_22_code 116 = .ok (.aload_n 0, 1) := D_42 W_prog_5_method_22_code_96 20 rfl rfl
theorem d_5_22_117 : decode prog_5_method_22_code 117 = .ok (.iload_n 1, 1) := D_27 W_prog_5_method_22_code_96 21 rfl rfl
theorem d_5_22_118 : decode prog_5_method_22_code 118 = .ok (.invokevirtual 270, 3) := D_182 W_prog_5_method_22_code_96 22 rfl rfl rfl
theorem d_5_22_121 : decode prog_5_method_22_code 121 = .ok (.ireturn, 1) := D_172 W_prog_5_method_22_code_96 25 rfl rfl
theorem d_5_22_122 : decode prog_5_method_22_code 122 = .ok (.aload_n 0, 1) := D_42 W_prog_5_method_22_code_96 26 rfl rfl
theorem d_5_22_123 : decode prog_5_method_22_code 123 = .ok (.iload_n 1, 1) := D_27 W_prog_5_method_22_code_96 27 rfl rfl
theorem d_5_22_124 : decode prog_5_method_22_code 124 = .ok (.invokevirtual 184, 3) := D_182 W_prog_5_method_22_code_96 28 rfl rfl rfl
theorem d_5_22_127 : decode prog_5_method_22_code 127 = .ok (.ireturn, 1) := D_172 W_prog_5_method_22_code_96 31 rfl rfl
theorem d_5_22_128 : decode prog_5_method_22_code 128 = .ok (.aload_n 0, 1) := D_42 W_prog_5_method_22_code_128 0 rfl rfl
theorem d_5_22_129 : decode prog_5_method_22_code 129 = .ok (.iload_n 1, 1) := D_27 W_prog_5_method_22_code_128 1 rfl rfl
