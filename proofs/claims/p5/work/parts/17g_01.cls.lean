theorem d_4_10_0 : decode prog_4_method_10_code 0 = .ok (.aload_n 0, 1) := D_42 W_prog_4_method_10_code_0 0 rfl rfl
theorem d_4_10_1 : decode prog_4_method_10_code 1 = .ok (.getfield 37, 3) := D_180 W_prog_4_method_10_code_0 1 rfl rfl rfl
theorem d_4_10_4 : decode prog_4_method_10_code 4 = .ok (.iload_n 2, 1) := D_28 W_prog_4_method_10_code_0 4 rfl rfl
theorem d_4_10_5 : decode prog_4_method_10_code 5 = .ok (.lconst 0, 1) := D_9 W_prog_4_method_10_code_0 5 rfl rfl
theorem d_4_10_6 : decode prog_4_method_10_code 6 = .ok (.lastore, 1) := D_80 W_prog_4_method_10_code_0 6 rfl rfl
theorem d_4_10_7 : decode prog_4_method_10_code 7 = .ok (.iload_n 2, 1) := D_28 W_prog_4_method_10_code_0 7 rfl rfl
theorem d_4_10_8 : decode prog_4_method_10_code 8 = .ok (.iconst 1, 1) := D_4 W_prog_4_method_10_code_0 8 rfl rfl
theorem d_4_10_9 : decode prog_4_method_10_code 9 = .ok (.isub, 1) := D_100 W_prog_4_method_10_code_0 9 rfl rfl
theorem d_4_10_10 : decode prog_4_method_10_code 10 = .ok (.istore 4, 2) := D_54 W_prog_4_method_10_code_0 10 rfl rfl
theorem d_4_10_12 : decode prog_4_method_10_code 12 = .ok (.iload 4, 2) := D_21 W_prog_4_method_10_code_0 12 rfl rfl
theorem d_4_10_14 : decode prog_4_method_10_code 14 = .ok (.ifCond .lt 137, 3) := D_155 W_prog_4_method_10_code_0 14 rfl rfl rfl
theorem W_prog_4_method_10_code_128 : chW prog_4_method_10_code 128 [7, 80, 42, 180, 0, 40, 21, 4, 21, 6, 79, 132, 6, 1, 167, 255, 155, 132, 4, 255, 167, 255, 120, 177] := chW_of (by decide +kernel)
theorem d_4_10_151 : decode prog_4_method_10_code 151 = .ok (.return_, 1) := D_177 W_prog_4_method_10_code_128 23 rfl rfl
theorem d_4_10_17 : decode prog_4_method_10_code 17 = .ok (.aload_n 1, 1) := D_43 W_prog_4_method_10_code_0 17 rfl rfl
theorem d_4_10_18 : decode prog_4_method_10_code 18 = .ok (.iload 4, 2) := D_21 W_prog_4_method_10_code_0 18 rfl rfl
theorem d_4_10_20 : decode prog_4_method_10_code 20 = .ok (.invokestatic 134, 3) := D_184 W_prog_4_method_10_code_0 20 rfl rfl rfl
theorem W_prog_1_method_17_code_0 : chW prog_1_method_17_code 0 [42, 27, 182, 0, 97, 58, 4, 25, 4, 198, 0, 11, 25, 4, 180, 0, 159, 199, 0, 7, 20, 0, 191, 173, 25, 4, 180, 0, 159, 28, 29, 182, 0, 242, 173] := chW_of (by decide +kernel)
theorem d_1_17_0 : decode prog_1_method_17_code 0 = .ok (.aload_n 0, 1) := D_42 W_prog_1_method_17_code_0 0 rfl rfl
theorem d_1_17_1 : decode prog_1_method_17_code 1 = .ok (.iload_n 1, 1) := D_27 W_prog_1_method_17_code_0 1 rfl rfl
theorem d_1_17_2 : decode prog_1_method_17_code 2 = .ok (.invokevirtual 97, 3) := D_182 W_prog_1_method_17_code_0 2 rfl rfl rfl
theorem d_1_17_5 : decode prog_1_method_17_code 5 = .ok (.astore 4, 2) := D_58 W_prog_1_method_17_code_0 5 rfl rfl
theorem d_1_17_7 : decode prog_1_method_17_code 7 = .ok (.aload 4, 2) := D_25 W_prog_1_method_17_code_0 7 rfl rfl
theorem d_1_17_9 : decode prog_1_method_17_code 9 = .ok (.ifnull 11, 3) := D_198 W_prog_1_method_17_code_0 9 rfl rfl rfl
theorem d_1_17_12 : decode prog_1_method_17_code 12 = .ok (.aload 4, 2) := D_25 W_prog_1_method_17_code_0 12 rfl rfl
theorem d_1_17_14 : decode prog_1_method_17_code 14 = .ok (.getfield 159, 3) := D_180 W_prog_1_method_17_code_0 14 rfl rfl rfl
theorem d_1_17_17 : decode prog_1_method_17_code 17 = .ok (.ifnonnull 7, 3) := D_199 W_prog_1_method_17_code_0 17 rfl rfl rfl
theorem d_1_17_24 : decode prog_1_method_17_code 24 = .ok (.aload 4, 2) := D_25 W_prog_1_method_17_code_0 24 rfl rfl
theorem d_1_17_26 : decode prog_1_method_17_code 26 = .ok (.getfield 159, 3) := D_180 W_prog_1_method_17_code_0 26 rfl rfl rfl
theorem d_1_17_29 : decode prog_1_method_17_code 29 = .ok (.iload_n 2, 1) := D_28 W_prog_1_method_17_code_0 29 rfl rfl
theorem d_1_17_30 : decode prog_1_method_17_code 30 = .ok (.iload_n 3, 1) := D_29 W_prog_1_method_17_code_0 30 rfl rfl
theorem d_1_17_31 : decode prog_1_method_17_code 31 = .ok (.invokevirtual 242, 3) := D_182 W_prog_1_method_17_code_0 31 rfl rfl rfl
theorem W_prog_1_method_18_code_0 : chW prog_1_method_18_code 0 [42, 27, 28, 182, 0, 101, 58, 4, 42, 27, 182, 0, 97, 58, 5, 25, 4, 198, 0, 29, 25, 5, 198, 0, 24, 25, 5, 180, 0, 159, 198, 0, 16, 29, 155, 0] := chW_of (by decide +kernel)
theorem d_1_18_0 : decode prog_1_method_18_code 0 = .ok (.aload_n 0, 1) := D_42 W_prog_1_method_18_code_0 0 rfl rfl
theorem d_1_18_1 : decode prog_1_method_18_code 1 = .ok (.iload_n 1, 1) := D_27 W_prog_1_method_18_code_0 1 rfl rfl
theorem d_1_18_2 : decode prog_1_method_18_code 2 = .ok (.iload_n 2, 1) := D_28 W_prog_1_method_18_code_0 2 rfl rfl
theorem d_1_18_3 : decode prog_1_method_18_code 3 = .ok (.invokevirtual 101, 3) := D_182 W_prog_1_method_18_code_0 3 rfl rfl rfl
theorem d_1_18_6 : decode prog_1_method_18_code 6 = .ok (.astore 4, 2) := D_58 W_prog_1_method_18_code_0 6 rfl rfl
theorem d_1_18_8 : decode prog_1_method_18_code 8 = .ok (.aload_n 0, 1) := D_42 W_prog_1_method_18_code_0 8 rfl rfl
theorem d_1_18_9 : decode prog_1_method_18_code 9 = .ok (.iload_n 1, 1) := D_27 W_prog_1_method_18_code_0 9 rfl rfl
theorem d_1_18_10 : decode prog_1_method_18_code 10 = .ok (.invokevirtual 97, 3) := D_182 W_prog_1_method_18_code_0 10 rfl rfl rfl
theorem d_1_18_13 : decode prog_1_method_18_code 13 = .ok (.astore 5, 2) := D_58 W_prog_1_method_18_code_0 13 rfl rfl
theorem d_1_18_15 : decode prog_1_method_18_code 15 = .ok (.aload 4, 2) := D_25 W_prog_1_method_18_code_0 15 rfl rfl
theorem d_1_18_17 : decode prog_1_method_18_code 17 = .ok (.ifnull 29, 3) := D_198 W_prog_1_method_18_code_0 17 rfl rfl rfl
theorem d_1_18_20 : decode prog_1_method_18_code 20 = .ok (.aload 5, 2) := D_25 W_prog_1_method_18_code_0 20 rfl rfl
theorem d_1_18_22 : decode prog_1_method_18_code 22 = .ok (.ifnull 24, 3) := D_198 W_prog_1_method_18_code_0 22 rfl rfl rfl
theorem d_1_18_25 : decode prog_1_method_18_code 25 = .ok (.aload 5, 2) := D_25 W_prog_1_method_18_code_0 25 rfl rfl
theorem d_1_18_27 : decode prog_1_method_18_code 27 = .ok (.getfield 159, 3) := D_180 W_prog_1_method_18_code_0 27 rfl rfl rfl
theorem d_1_18_30 : decode prog_1_method_18_code 30 = .ok (.ifnull 16, 3) := D_198 W_prog_1_method_18_code_0 30 rfl rfl rfl
theorem W_prog_1_method_18_code_32 : chW prog_1_method_18_code 32 [16, 29, 155, 0, 12, 29, 25, 4, 180, 0, 180, 161, 0, 5, 2, 172, 25, 5, 180, 0, 159, 25, 4, 180, 0, 233, 4, 50, 29, 46, 25, 4, 180, 0, 229, 29] := chW_of (by decide +kernel)
theorem d_1_18_33 : decode prog_1_method_18_code 33 = .ok (.iload_n 3, 1) := D_29 W_prog_1_method_18_code_32 1 rfl rfl
theorem d_1_18_34 : decode prog_1_method_18_code 34 = .ok (.ifCond .lt 12, 3) := D_155 W_prog_1_method_18_code_32 2 rfl rfl rfl
theorem d_1_18_37 : decode prog_1_method_18_code 37 = .ok (.iload_n 3, 1) := D_29 W_prog_1_method_18_code_32 5 rfl rfl
theorem d_1_18_38 : decode prog_1_method_18_code 38 = .ok (.aload 4, 2) := D_25 W_prog_1_method_18_code_32 6 rfl rfl
theorem d_1_18_40 : decode prog_1_method_18_code 40 = .ok (.getfield 180, 3) := D_180 W_prog_1_method_18_code_32 8 rfl rfl rfl
theorem d_1_18_43 : decode prog_1_method_18_code 43 = .ok (.if_icmp .lt 5, 3) := D_161 W_prog_1_method_18_code_32 11 rfl rfl rfl
theorem d_1_18_48 : decode prog_1_method_18_code 48 = .ok (.aload 5, 2) := D_25 W_prog_1_method_18_code_32 16 rfl rfl
theorem d_1_18_50 : decode prog_1_method_18_code 50 = .ok (.getfield 159, 3) := D_180 W_prog_1_method_18_code_32 18 rfl rfl rfl
theorem d_1_18_53 : decode prog_1_method_18_code 53 = .ok (.aload 4, 2) := D_25 W_prog_1_method_18_code_32 21 rfl rfl
theorem d_1_18_55 : decode prog_1_method_18_code 55 = .ok (.getfield 233, 3) := D_180 W_prog_1_method_18_code_32 23 rfl rfl rfl
theorem d_1_18_58 : decode prog_1_method_18_code 58 = .ok (.iconst 1, 1) := D_4 W_prog_1_method_18_code_32 26 rfl rfl
theorem d_1_18_59 : decode prog_1_method_18_code 59 = .ok (.aaload, 1) := D_50 W_prog_1_method_18_code_32 27 rfl rfl
theorem d_1_18_60 : decode prog_1_method_18_code 60 = .ok (.iload_n 3, 1) := D_29 W_prog_1_method_18_code_32 28 rfl rfl
theorem d_1_18_61 : decode prog_1_method_18_code 61 = .ok (.iaload, 1) := D_46 W_prog_1_method_18_code_32 29 rfl rfl
theorem d_1_18_62 : decode prog_1_method_18_code 62 = .ok (.aload 4, 2) := D_25 W_prog_1_method_18_code_32 30 rfl rfl
theorem W_prog_1_method_18_code_64 : chW prog_1_method_18_code 64 [180, 0, 229, 29, 47, 182, 0, 246, 172] := chW_of (by decide +kernel)
theorem d_1_18_64 : decode prog_1_method_18_code 64 = .ok (.getfield 229, 3) := D_180 W_prog_1_method_18_code_64 0 rfl rfl rfl
theorem d_1_18_67 : decode prog_1_method_18_code 67 = .ok (.iload_n 3, 1) := D_29 W_prog_1_method_18_code_64 3 rfl rfl
theorem d_1_18_68 : decode prog_1_method_18_code 68 = .ok (.laload, 1) := D_47 W_prog_1_method_18_code_64 4 rfl rfl
theorem d_1_18_69 : decode prog_1_method_18_code 69 = .ok (.invokevirtual 246, 3) := D_182 W_prog_1_method_18_code_64 5 rfl rfl rfl
theorem W_prog_7_method_13_code_0 : chW prog_7_method_13_code 0 [5, 42, 180, 0, 36, 104, 60, 4, 61, 28, 27, 162, 0, 65, 3, 62, 29, 27, 162, 0, 33, 42, 29, 29, 28, 96, 27, 184, 0, 99, 29, 5, 28, 104, 96, 27] := chW_of (by decide +kernel)
theorem d_7_13_0 : decode prog_7_method_13_code 0 = .ok (.iconst 2, 1) := D_5 W_prog_7_method_13_code_0 0 rfl rfl
theorem d_7_13_1 : decode prog_7_method_13_code 1 = .ok (.aload_n 0, 1) := D_42 W_prog_7_method_13_code_0 1 rfl rfl
theorem d_7_13_2 : decode prog_7_method_13_code 2 = .ok (.getfield 36, 3) := D_180 W_prog_7_method_13_code_0 2 rfl rfl rfl
theorem d_7_13_5 : decode prog_7_method_13_code 5 = .ok (.imul, 1) := D_104 W_prog_7_method_13_code_0 5 rfl rfl
theorem d_7_13_6 : decode prog_7_method_13_code 6 = .ok (.istore_n 1, 1) := D_60 W_prog_7_method_13_code_0 6 rfl rfl
theorem d_7_13_7 : decode prog_7_method_13_code 7 = .ok (.iconst 1, 1) := D_4 W_prog_7_method_13_code_0 7 rfl rfl
theorem d_7_13_8 : decode prog_7_method_13_code 8 = .ok (.istore_n 2, 1) := D_61 W_prog_7_method_13_code_0 8 rfl rfl
theorem d_7_13_9 : decode prog_7_method_13_code 9 = .ok (.iload_n 2, 1) := D_28 W_prog_7_method_13_code_0 9 rfl rfl
theorem d_7_13_10 : decode prog_7_method_13_code 10 = .ok (.iload_n 1, 1) := D_27 W_prog_7_method_13_code_0 10 rfl rfl
theorem d_7_13_11 : decode prog_7_method_13_code 11 = .ok (.if_icmp .ge 65, 3) := D_162 W_prog_7_method_13_code_0 11 rfl rfl rfl
theorem W_prog_7_method_13_code_64 : chW prog_7_method_13_code 64 [42, 45, 181, 0, 26, 28, 5, 104, 61, 167, 255, 192, 177] := chW_of (by decide +kernel)
theorem d_7_13_76 : decode prog_7_method_13_code 76 = .ok (.return_, 1) := D_177 W_prog_7_method_13_code_64 12 rfl rfl
theorem d_7_13_14 : decode prog_7_method_13_code 14 = .ok (.iconst 0, 1) := D_3 W_prog_7_method_13_code_0 14 rfl rfl
theorem d_7_13_15 : decode prog_7_method_13_code 15 = .ok (.istore_n 3, 1) := D_62 W_prog_7_method_13_code_0 15 rfl rfl
theorem d_7_13_16 : decode prog_7_method_13_code 16 = .ok (.iload_n 3, 1) := D_29 W_prog_7_method_13_code_0 16 rfl rfl
theorem d_7_13_17 : decode prog_7_method_13_code 17 = .ok (.iload_n 1, 1) := D_27 W_prog_7_method_13_code_0 17 rfl rfl
theorem d_7_13_18 : decode prog_7_method_13_code 18 = .ok (.if_icmp .ge 33, 3) := D_162 W_prog_7_method_13_code_0 18 rfl rfl rfl
theorem W_prog_7_method_13_code_32 : chW prog_7_method_13_code 32 [28, 104, 96, 27, 184, 0, 99, 182, 0, 180, 29, 5, 28, 104, 96, 62, 167, 255, 224, 42, 180, 0, 30, 78, 42, 42, 180, 0, 26, 181, 0, 30, 42, 45, 181, 0] := chW_of (by decide +kernel)
theorem d_7_13_51 : decode prog_7_method_13_code 51 = .ok (.aload_n 0, 1) := D_42 W_prog_7_method_13_code_32 19 rfl rfl
theorem d_7_13_52 : decode prog_7_method_13_code 52 = .ok (.getfield 30, 3) := D_180 W_prog_7_method_13_code_32 20 rfl rfl rfl
theorem d_7_13_55 : decode prog_7_method_13_code 55 = .ok (.astore_n 3, 1) := D_78 W_prog_7_method_13_code_32 23 rfl rfl
theorem d_7_13_56 : decode prog_7_method_13_code 56 = .ok (.aload_n 0, 1) := D_42 W_prog_7_method_13_code_32 24 rfl rfl
theorem d_7_13_57 : decode prog_7_method_13_code 57 = .ok (.aload_n 0, 1) := D_42 W_prog_7_method_13_code_32 25 rfl rfl
theorem d_7_13_58 : decode prog_7_method_13_code 58 = .ok (.getfield 26, 3) := D_180 W_prog_7_method_13_code_32 26 rfl rfl rfl
theorem d_7_13_61 : decode prog_7_method_13_code 61 = .ok (.putfield 30, 3) := D_181 W_prog_7_method_13_code_32 29 rfl rfl rfl
theorem d_7_13_64 : decode prog_7_method_13_code 64 = .ok (.aload_n 0, 1) := D_42 W_prog_7_method_13_code_64 0 rfl rfl
theorem d_7_13_65 : decode prog_7_method_13_code 65 = .ok (.aload_n 3, 1) := D_45 W_prog_7_method_13_code_64 1 rfl rfl
theorem d_7_13_66 : decode prog_7_method_13_code 66 = .ok (.putfield 26, 3) := D_181 W_prog_7_method_13_code_64 2 rfl rfl rfl
theorem d_7_13_69 : decode prog_7_method_13_code 69 = .ok (.iload_n 2, 1) := D_28 W_prog_7_method_13_code_64 5 rfl rfl
theorem d_7_13_70 : decode prog_7_method_13_code 70 = .ok (.iconst 2, 1) := D_5 W_prog_7_method_13_code_64 6 rfl rfl
theorem d_7_13_71 : decode prog_7_method_13_code 71 = .ok (.imul, 1) := D_104 W_prog_7_method_13_code_64 7 rfl rfl
theorem d_7_13_72 : decode prog_7_method_13_code 72 = .ok (.istore_n 2, 1) := D_61 W_prog_7_method_13_code_64 8 rfl rfl
theorem d_7_13_73 : decode prog_7_method_13_code 73 = .ok (.goto (-64), 3) := D_167 W_prog_7_method_13_code_64 9 rfl rfl rfl
theorem d_7_13_21 : decode prog_7_method_13_code 21 = .ok (.aload_n 0, 1) := D_42 W_prog_7_method_13_code_0 21 rfl rfl
theorem d_7_13_22 : decode prog_7_method_13_code 22 = .ok (.iload_n 3, 1) := D_29 W_prog_7_method_13_code_0 22 rfl rfl
theorem d_7_13_23 : decode prog_7_method_13_code 23 = .ok (.iload_n 3, 1) := D_29 W_prog_7_method_13_code_0 23 rfl rfl
theorem d_7_13_24 : decode prog_7_method_13_code 24 = .ok (.iload_n 2, 1) := D_28 W_prog_7_method_13_code_0 24 rfl rfl
theorem d_7_13_25 : decode prog_7_method_13_code 25 = .ok (.iadd, 1) := D_96 W_prog_7_method_13_code_0 25 rfl rfl
theorem d_7_13_26 : decode prog_7_method_13_code 26 = .ok (.iload_n 1, 1) := D_27 W_prog_7_method_13_code_0 26 rfl rfl
theorem d_7_13_27 : decode prog_7_method_13_code 27 = .ok (.invokestatic 99, 3) := D_184 W_prog_7_method_13_code_0 27 rfl rfl rfl
theorem d_7_13_30 : decode prog_7_method_13_code 30 = .ok (.iload_n 3, 1) := D_29 W_prog_7_method_13_code_0 30 rfl rfl
theorem d_7_13_31 : decode prog_7_method_13_code 31 = .ok (.iconst 2, 1) := D_5 W_prog_7_method_13_code_0 31 rfl rfl
theorem d_7_13_32 : decode prog_7_method_13_code 32 = .ok (.iload_n 2, 1) := D_28 W_prog_7_method_13_code_32 0 rfl rfl
theorem d_7_13_33 : decode prog_7_method_13_code 33 = .ok (.imul, 1) := D_104 W_prog_7_method_13_code_32 1 rfl rfl
theorem d_7_13_34 : decode prog_7_method_13_code 34 = .ok (.iadd, 1) := D_96 W_prog_7_method_13_code_32 2 rfl rfl
theorem d_7_13_35 : decode prog_7_method_13_code 35 = .ok (.iload_n 1, 1) := D_27 W_prog_7_method_13_code_32 3 rfl rfl
theorem d_7_13_36 : decode prog_7_method_13_code 36 = .ok (.invokestatic 99, 3) := D_184 W_prog_7_method_13_code_32 4 rfl rfl rfl
theorem d_7_13_39 : decode prog_7_method_13_code 39 = .ok (.invokevirtual 180, 3) := D_182 W_prog_7_method_13_code_32 7 rfl rfl rfl
theorem W_prog_1_method_20_code_0 : chW prog_1_method_20_code 0 [42, 27, 182, 1, 0, 58, 4, 25, 4, 199, 0, 7, 2, 167, 0, 10, 25, 4, 28, 29, 182, 1, 4, 172] := chW_of (by decide +kernel)
theorem d_1_20_0 : decode prog_1_method_20_code 0 = .ok (.aload_n 0, 1) := D_42 W_prog_1_method_20_code_0 0 rfl rfl
theorem d_1_20_1 : decode prog_1_method_20_code 1 = .ok (.iload_n 1, 1) := D_27 W_prog_1_method_20_code_0 1 rfl rfl
theorem d_1_20_2 : decode prog_1_method_20_code 2 = .ok (.invokevirtual 256, 3) := D_182 W_prog_1_method_20_code_0 2 rfl rfl rfl
theorem W_prog_7_method_19_code_0 : chW prog_7_method_19_code 0 [42, 16, 47, 3, 184, 0, 226, 42, 27, 7, 100, 42, 180, 0, 223, 27, 100, 182, 0, 230, 177] := chW_of (by decide +kernel)
theorem d_7_19_0 : decode prog_7_method_19_code 0 = .ok (.aload_n 0, 1) := D_42 W_prog_7_method_19_code_0 0 rfl rfl
theorem d_7_19_1 : decode prog_7_method_19_code 1 = .ok (.bipush 47, 2) := D_16 W_prog_7_method_19_code_0 1 rfl rfl rfl
theorem d_7_19_3 : decode prog_7_method_19_code 3 = .ok (.iconst 0, 1) := D_3 W_prog_7_method_19_code_0 3 rfl rfl
theorem d_7_19_4 : decode prog_7_method_19_code 4 = .ok (.invokestatic 226, 3) := D_184 W_prog_7_method_19_code_0 4 rfl rfl rfl
theorem d_7_19_7 : decode prog_7_method_19_code 7 = .ok (.aload_n 0, 1) := D_42 W_prog_7_method_19_code_0 7 rfl rfl
theorem d_7_19_8 : decode prog_7_method_19_code 8 = .ok (.iload_n 1, 1) := D_27 W_prog_7_method_19_code_0 8 rfl rfl
theorem d_7_19_9 : decode prog_7_method_19_code 9 = .ok (.iconst 4, 1) := D_7 W_prog_7_method_19_code_0 9 rfl rfl
theorem d_7_19_10 : decode prog_7_method_19_code 10 = .ok (.isub, 1) := D_100 W_prog_7_method_19_code_0 10 rfl rfl
theorem d_7_19_11 : decode prog_7_method_19_code 11 = .ok (.aload_n 0, 1) := D_42 W_prog_7_method_19_code_0 11 rfl rfl
theorem d_7_19_12 : decode prog_7_method_19_code 12 = .ok (.getfield 223, 3) := D_180 W_prog_7_method_19_code_0 12 rfl rfl rfl
theorem d_7_19_15 : decode prog_7_method_19_code 15 = .ok (.iload_n 1, 1) := D_27 W_prog_7_method_19_code_0 15 rfl rfl
theorem d_7_19_16 : decode prog_7_method_19_code 16 = .ok (.isub, 1) := D_100 W_prog_7_method_19_code_0 16 rfl rfl
theorem d_7_19_17 : decode prog_7_method_19_code 17 = .ok (.invokevirtual 230, 3) := D_182 W_prog_7_method_19_code_0 17 rfl rfl rfl
theorem W_prog_7_method_23_code_0 : chW prog_7_method_23_code 0 [3, 62, 3, 54, 4, 3, 54, 5, 21, 5, 5, 42, 180, 0, 36, 104, 162, 0, 80, 42, 21, 5, 4, 182, 1, 17, 27, 160, 0, 63, 44, 42, 21, 5, 3, 182] := chW_of (by decide +kernel)
theorem d_7_23_0 : decode prog_7_method_23_code 0 = .ok (.iconst 0, 1) := D_3 W_prog_7_method_23_code_0 0 rfl rfl
theorem d_7_23_1 : decode prog_7_method_23_code 1 = .ok (.istore_n 3, 1) := D_62 W_prog_7_method_23_code_0 1 rfl rfl
theorem d_7_23_2 : decode prog_7_method_23_code 2 = .ok (.iconst 0, 1) := D_3 W_prog_7_method_23_code_0 2 rfl rfl
theorem d_7_23_3 : decode prog_7_method_23_code 3 = .ok (.istore 4, 2) := D_54 W_prog_7_method_23_code_0 3 rfl rfl
theorem d_7_23_5 : decode prog_7_method_23_code 5 = .ok (.iconst 0, 1) := D_3 W_prog_7_method_23_code_0 5 rfl rfl
theorem d_7_23_6 : decode prog_7_method_23_code 6 = .ok (.istore 5, 2) := D_54 W_prog_7_method_23_code_0 6 rfl rfl
theorem d_7_23_8 : decode prog_7_method_23_code 8 = .ok (.iload 5, 2) := D_21 W_prog_7_method_23_code_0 8 rfl rfl
theorem d_7_23_10 : decode prog_7_method_23_code 10 = .ok (.iconst 2, 1) := D_5 W_prog_7_method_23_code_0 10 rfl rfl
theorem d_7_23_11 : decode prog_7_method_23_code 11 = .ok (.aload_n 0, 1) := D_42 W_prog_7_method_23_code_0 11 rfl rfl
theorem d_7_23_12 : decode prog_7_method_23_code 12 = .ok (.getfield 36, 3) := D_180 W_prog_7_method_23_code_0 12 rfl rfl rfl
theorem d_7_23_15 : decode prog_7_method_23_code 15 = .ok (.imul, 1) := D_104 W_prog_7_method_23_code_0 15 rfl rfl
theorem d_7_23_16 : decode prog_7_method_23_code 16 = .ok (.if_icmp .ge 80, 3) := D_162 W_prog_7_method_23_code_0 16 rfl rfl rfl
theorem W_prog_7_method_23_code_96 : chW prog_7_method_23_code 96 [177] := chW_of (by decide +kernel)
theorem d_7_23_96 : decode prog_7_method_23_code 96 = .ok (.return_, 1) := D_177 W_prog_7_method_23_code_96 0 rfl rfl
theorem d_7_23_19 : decode prog_7_method_23_code 19 = .ok (.aload_n 0, 1) := D_42 W_prog_7_method_23_code_0 19 rfl rfl
theorem d_7_23_20 : decode prog_7_method_23_code 20 = .ok (.iload 5, 2) := D_21 W_prog_7_method_23_code_0 20 rfl rfl
theorem d_7_23_22 : decode prog_7_method_23_code 22 = .ok (.iconst 1, 1) := D_4 W_prog_7_method_23_code_0 22 rfl rfl
theorem d_7_23_23 : decode prog_7_method_23_code 23 = .ok (.invokevirtual 273, 3) := D_182 W_prog_7_method_23_code_0 23 rfl rfl rfl
theorem d_7_23_26 : decode prog_7_method_23_code 26 = .ok (.iload_n 1, 1) := D_27 W_prog_7_method_23_code_0 26 rfl rfl
theorem d_7_23_27 : decode prog_7_method_23_code 27 = .ok (.if_icmp .ne 63, 3) := D_160 W_prog_7_method_23_code_0 27 rfl rfl rfl
theorem d_7_23_30 : decode prog_7_method_23_code 30 = .ok (.aload_n 2, 1) := D_44 W_prog_7_method_23_code_0 30 rfl rfl
theorem d_7_23_31 : decode prog_7_method_23_code 31 = .ok (.aload_n 0, 1) := D_42 W_prog_7_method_23_code_0 31 rfl rfl
theorem W_prog_7_method_23_code_32 : chW prog_7_method_23_code 32 [21, 5, 3, 182, 1, 17, 29, 100, 182, 1, 20, 42, 21, 5, 3, 182, 1, 17, 62, 21, 4, 154, 0, 12, 44, 17, 0, 144, 27, 96, 182, 0, 233, 4, 54, 4] := chW_of (by decide +kernel)
theorem d_7_23_32 : decode prog_7_method_23_code 32 = .ok (.iload 5, 2) := D_21 W_prog_7_method_23_code_32 0 rfl rfl
theorem d_7_23_34 : decode prog_7_method_23_code 34 = .ok (.iconst 0, 1) := D_3 W_prog_7_method_23_code_32 2 rfl rfl
theorem d_7_23_35 : decode prog_7_method_23_code 35 = .ok (.invokevirtual 273, 3) := D_182 W_prog_7_method_23_code_32 3 rfl rfl rfl
theorem d_7_23_38 : decode prog_7_method_23_code 38 = .ok (.iload_n 3, 1) := D_29 W_prog_7_method_23_code_32 6 rfl rfl
theorem d_7_23_39 : decode prog_7_method_23_code 39 = .ok (.isub, 1) := D_100 W_prog_7_method_23_code_32 7 rfl rfl
theorem d_7_23_40 : decode prog_7_method_23_code 40 = .ok (.invokevirtual 276, 3) := D_182 W_prog_7_method_23_code_32 8 rfl rfl rfl
theorem W_prog_10_method_5_code_0 : chW prog_10_method_5_code 0 [42, 180, 0, 27, 42, 180, 0, 36, 162, 0, 10, 42, 180, 0, 23, 199, 0, 14, 42, 5, 42, 180, 0, 36, 182, 0, 83, 3, 172, 42, 89, 180, 0, 27, 4, 96] := chW_of (by decide +kernel)
theorem d_10_5_0 : decode prog_10_method_5_code 0 = .ok (.aload_n 0, 1) := D_42 W_prog_10_method_5_code_0 0 rfl rfl
theorem d_10_5_1 : decode prog_10_method_5_code 1 = .ok (.getfield 27, 3) := D_180 W_prog_10_method_5_code_0 1 rfl rfl rfl
theorem d_10_5_4 : decode prog_10_method_5_code 4 = .ok (.aload_n 0, 1) := D_42 W_prog_10_method_5_code_0 4 rfl rfl
theorem d_10_5_5 : decode prog_10_method_5_code 5 = .ok (.getfield 36, 3) := D_180 W_prog_10_method_5_code_0 5 rfl rfl rfl
theorem d_10_5_8 : decode prog_10_method_5_code 8 = .ok (.if_icmp .ge 10, 3) := D_162 W_prog_10_method_5_code_0 8 rfl rfl rfl
theorem d_10_5_11 : decode prog_10_method_5_code 11 = .ok (.aload_n 0, 1) := D_42 W_prog_10_method_5_code_0 11 rfl rfl
theorem d_10_5_12 : decode prog_10_method_5_code 12 = .ok (.getfield 23, 3) := D_180 W_prog_10_method_5_code_0 12 rfl rfl rfl
theorem d_10_5_15 : decode prog_10_method_5_code 15 = .ok (.ifnonnull 14, 3) := D_199 W_prog_10_method_5_code_0 15 rfl rfl rfl
theorem d_10_5_29 : decode prog_10_method_5_code 29 = .ok (.aload_n 0, 1) := D_42 W_prog_10_method_5_code_0 29 rfl rfl
theorem d_10_5_30 : decode prog_10_method_5_code 30 = .ok (.dup, 1) := D_89 W_prog_10_method_5_code_0 30 rfl rfl
theorem d_10_5_31 : decode prog_10_method_5_code 31 = .ok (.getfield 27, 3) := D_180 W_prog_10_method_5_code_0 31 rfl rfl rfl
theorem W_prog_10_method_5_code_32 : chW prog_10_method_5_code 32 [0, 27, 4, 96, 181, 0, 27, 42, 180, 0, 23, 42, 180, 0, 27, 4, 100, 182, 0, 87, 172] := chW_of (by decide +kernel)
theorem d_10_5_34 : decode prog_10_method_5_code 34 = .ok (.iconst 1, 1) := D_4 W_prog_10_method_5_code_32 2 rfl rfl
theorem d_10_5_35 : decode prog_10_method_5_code 35 = .ok (.iadd, 1) := D_96 W_prog_10_method_5_code_32 3 rfl rfl
theorem d_10_5_36 : decode prog_10_method_5_code 36 = .ok (.putfield 27, 3) := D_181 W_prog_10_method_5_code_32 4 rfl rfl rfl
theorem d_10_5_39 : decode prog_10_method_5_code 39 = .ok (.aload_n 0, 1) := D_42 W_prog_10_method_5_code_32 7 rfl rfl
theorem d_10_5_40 : decode prog_10_method_5_code 40 = .ok (.getfield 23, 3) := D_180 W_prog_10_method_5_code_32 8 rfl rfl rfl
theorem d_10_5_43 : decode prog_10_method_5_code 43 = .ok (.aload_n 0, 1) := D_42 W_prog_10_method_5_code_32 11 rfl rfl
theorem d_10_5_44 : decode prog_10_method_5_code 44 = .ok (.getfield 27, 3) := D_180 W_prog_10_method_5_code_32 12 rfl rfl rfl
theorem d_10_5_47 : decode prog_10_method_5_code 47 = .ok (.iconst 1, 1) := D_4 W_prog_10_method_5_code_32 15 rfl rfl
theorem d_10_5_48 : decode prog_10_method_5_code 48 = .ok (.isub, 1) := D_100 W_prog_10_method_5_code_32 16 rfl rfl
theorem d_10_5_49 : decode prog_10_method_5_code 49 = .ok (.invokevirtual 87, 3) := D_182 W_prog_10_method_5_code_32 17 rfl rfl rfl
theorem d_10_5_52 : decode prog_10_method_5_code 52 = .ok (.ireturn, 1) := D_172 W_prog_10_method_5_code_32 20 rfl rfl
theorem d_10_5_18 : decode prog_10_method_5_code 18 = .ok (.aload_n 0, 1) := D_42 W_prog_10_method_5_code_0 18 rfl rfl
theorem d_10_5_19 : decode prog_10_method_5_code 19 = .ok (.iconst 2, 1) := D_5 W_prog_10_method_5_code_0 19 rfl rfl
theorem d_10_5_20 : decode prog_10_method_5_code 20 = .ok (.aload_n 0, 1) := D_42 W_prog_10_method_5_code_0 20 rfl rfl
theorem d_10_5_21 : decode prog_10_method_5_code 21 = .ok (.getfield 36, 3) := D_180 W_prog_10_method_5_code_0 21 rfl rfl rfl
theorem d_10_5_24 : decode prog_10_method_5_code 24 = .ok (.invokevirtual 83, 3) := D_182 W_prog_10_method_5_code_0 24 rfl rfl rfl
theorem d_3_4_9 : decode prog_3_method_4_code 9 = .ok (.aload_n 0, 1) := D_42 W_prog_3_method_4_code_0 9 rfl rfl
theorem d_3_4_10 : decode prog_3_method_4_code 10 = .ok (.getfield 15, 3) := D_180 W_prog_3_method_4_code_0 10 rfl rfl rfl
theorem d_3_4_13 : decode prog_3_method_4_code 13 = .ok (.iload_n 1, 1) := D_27 W_prog_3_method_4_code_0 13 rfl rfl
theorem d_3_4_14 : decode prog_3_method_4_code 14 = .ok (.iaload, 1) := D_46 W_prog_3_method_4_code_0 14 rfl rfl
theorem d_3_4_15 : decode prog_3_method_4_code 15 = .ok (.iadd, 1) := D_96 W_prog_3_method_4_code_0 15 rfl rfl
theorem d_3_4_16 : decode prog_3_method_4_code 16 = .ok (.ireturn, 1) := D_172 W_prog_3_method_4_code_0 16 rfl rfl
theorem d_11_9_231 : decode prog_11_method_9_code 231 = .ok (.istore 7, 2) := D_54 W_prog_11_method_9_code_224 7 rfl rfl
theorem d_11_9_233 : decode prog_11_method_9_code 233 = .ok (.aload_n 0, 1) := D_42 W_prog_11_method_9_code_224 9 rfl rfl
theorem d_11_9_234 : decode prog_11_method_9_code 234 = .ok (.getfield 30, 3) := D_180 W_prog_11_method_9_code_224 10 rfl rfl rfl
theorem d_11_9_237 : decode prog_11_method_9_code 237 = .ok (.iload_n 2, 1) := D_28 W_prog_11_method_9_code_224 13 rfl rfl
theorem d_11_9_238 : decode prog_11_method_9_code 238 = .ok (.iaload, 1) := D_46 W_prog_11_method_9_code_224 14 rfl rfl
theorem d_11_9_239 : decode prog_11_method_9_code 239 = .ok (.aload_n 0, 1) := D_42 W_prog_11_method_9_code_224 15 rfl rfl
theorem d_11_9_240 : decode prog_11_method_9_code 240 = .ok (.getfield 33, 3) := D_180 W_prog_11_method_9_code_224 16 rfl rfl rfl
theorem d_11_9_243 : decode prog_11_method_9_code 243 = .ok (.iload_n 2, 1) := D_28 W_prog_11_method_9_code_224 19 rfl rfl
theorem d_11_9_244 : decode prog_11_method_9_code 244 = .ok (.iaload, 1) := D_46 W_prog_11_method_9_code_224 20 rfl rfl
theorem d_11_9_245 : decode prog_11_method_9_code 245 = .ok (.aload_n 0, 1) := D_42 W_prog_11_method_9_code_224 21 rfl rfl
theorem d_11_9_246 : decode prog_11_method_9_code 246 = .ok (.getfield 30, 3) := D_180 W_prog_11_method_9_code_224 22 rfl rfl rfl
theorem d_11_9_249 : decode prog_11_method_9_code 249 = .ok (.iload_n 3, 1) := D_29 W_prog_11_method_9_code_224 25 rfl rfl
theorem d_11_9_250 : decode prog_11_method_9_code 250 = .ok (.iaload, 1) := D_46 W_prog_11_method_9_code_224 26 rfl rfl
theorem d_11_9_251 : decode prog_11_method_9_code 251 = .ok (.aload_n 0, 1) := D_42 W_prog_11_method_9_code_224 27 rfl rfl
theorem d_11_9_252 : decode prog_11_method_9_code 252 = .ok (.getfield 33, 3) := D_180 W_prog_11_method_9_code_224 28 rfl rfl rfl
theorem d_11_9_255 : decode prog_11_method_9_code 255 = .ok (.iload_n 3, 1) := D_29 W_prog_11_method_9_code_224 31 rfl rfl
theorem W_prog_11_method_9_code_256 : chW prog_11_method_9_code 256 [46, 184, 0, 123, 54, 8, 27, 6, 162, 0, 21, 21, 7, 27, 160, 0, 13, 21, 8, 27, 160, 0, 7, 4, 167, 0, 4, 3, 172, 42, 180, 0, 27, 29, 46, 42] := chW_of (by decide +kernel)
theorem d_11_9_256 : decode prog_11_method_9_code 256 = .ok (.iaload, 1) := D_46 W_prog_11_method_9_code_256 0 rfl rfl
theorem d_11_9_257 : decode prog_11_method_9_code 257 = .ok (.invokestatic 123, 3) := D_184 W_prog_11_method_9_code_256 1 rfl rfl rfl
theorem d_11_9_260 : decode prog_11_method_9_code 260 = .ok (.istore 8, 2) := D_54 W_prog_11_method_9_code_256 4 rfl rfl
theorem d_11_9_262 : decode prog_11_method_9_code 262 = .ok (.iload_n 1, 1) := D_27 W_prog_11_method_9_code_256 6 rfl rfl
theorem d_11_9_263 : decode prog_11_method_9_code 263 = .ok (.iconst 3, 1) := D_6 W_prog_11_method_9_code_256 7 rfl rfl
theorem d_11_9_264 : decode prog_11_method_9_code 264 = .ok (.if_icmp .ge 21, 3) := D_162 W_prog_11_method_9_code_256 8 rfl rfl rfl
theorem d_11_9_285 : decode prog_11_method_9_code 285 = .ok (.aload_n 0, 1) := D_42 W_prog_11_method_9_code_256 29 rfl rfl
theorem d_11_9_286 : decode prog_11_method_9_code 286 = .ok (.getfield 27, 3) := D_180 W_prog_11_method_9_code_256 30 rfl rfl rfl
theorem W_prog_11_method_9_code_288 : chW prog_11_method_9_code 288 [27, 29, 46, 42, 180, 0, 27, 28, 46, 164, 0, 7, 29, 167, 0, 4, 28, 54, 9, 21, 7, 153, 0, 36, 21, 7, 21, 8, 159, 0, 29, 42, 180, 0, 23, 21] := chW_of (by decide +kernel)
theorem d_11_9_289 : decode prog_11_method_9_code 289 = .ok (.iload_n 3, 1) := D_29 W_prog_11_method_9_code_288 1 rfl rfl
theorem d_11_9_290 : decode prog_11_method_9_code 290 = .ok (.iaload, 1) := D_46 W_prog_11_method_9_code_288 2 rfl rfl
theorem d_11_9_291 : decode prog_11_method_9_code 291 = .ok (.aload_n 0, 1) := D_42 W_prog_11_method_9_code_288 3 rfl rfl
theorem d_11_9_292 : decode prog_11_method_9_code 292 = .ok (.getfield 27, 3) := D_180 W_prog_11_method_9_code_288 4 rfl rfl rfl
theorem d_11_9_295 : decode prog_11_method_9_code 295 = .ok (.iload_n 2, 1) := D_28 W_prog_11_method_9_code_288 7 rfl rfl
theorem d_11_9_296 : decode prog_11_method_9_code 296 = .ok (.iaload, 1) := D_46 W_prog_11_method_9_code_288 8 rfl rfl
theorem d_11_9_297 : decode prog_11_method_9_code 297 = .ok (.if_icmp .le 7, 3) := D_164 W_prog_11_method_9_code_288 9 rfl rfl rfl
theorem d_11_9_304 : decode prog_11_method_9_code 304 = .ok (.iload_n 2, 1) := D_28 W_prog_11_method_9_code_288 16 rfl rfl
theorem d_11_9_300 : decode prog_11_method_9_code 300 = .ok (.iload_n 3, 1) := D_29 W_prog_11_method_9_code_288 12 rfl rfl
theorem d_11_9_301 : decode prog_11_method_9_code 301 = .ok (.goto 4, 3) := D_167 W_prog_11_method_9_code_288 13 rfl rfl rfl
theorem d_11_9_267 : decode prog_11_method_9_code 267 = .ok (.iload 7, 2) := D_21 W_prog_11_method_9_code_256 11 rfl rfl
theorem d_11_9_269 : decode prog_11_method_9_code 269 = .ok (.iload_n 1, 1) := D_27 W_prog_11_method_9_code_256 13 rfl rfl
theorem d_11_9_270 : decode prog_11_method_9_code 270 = .ok (.if_icmp .ne 13, 3) := D_160 W_prog_11_method_9_code_256 14 rfl rfl rfl
theorem d_11_9_273 : decode prog_11_method_9_code 273 = .ok (.iload 8, 2) := D_21 W_prog_11_method_9_code_256 17 rfl rfl
theorem d_11_9_275 : decode prog_11_method_9_code 275 = .ok (.iload_n 1, 1) := D_27 W_prog_11_method_9_code_256 19 rfl rfl
theorem d_11_9_276 : decode prog_11_method_9_code 276 = .ok (.if_icmp .ne 7, 3) := D_160 W_prog_11_method_9_code_256 20 rfl rfl rfl
theorem d_11_9_279 : decode prog_11_method_9_code 279 = .ok (.iconst 1, 1) := D_4 W_prog_11_method_9_code_256 23 rfl rfl
theorem d_11_9_280 : decode prog_11_method_9_code 280 = .ok (.goto 4, 3) := D_167 W_prog_11_method_9_code_256 24 rfl rfl rfl
theorem d_11_9_284 : decode prog_11_method_9_code 284 = .ok (.ireturn, 1) := D_172 W_prog_11_method_9_code_256 28 rfl rfl
theorem d_11_9_283 : decode prog_11_method_9_code 283 = .ok (.iconst 0, 1) := D_3 W_prog_11_method_9_code_256 27 rfl rfl
theorem d_11_9_305 : decode prog_11_method_9_code 305 = .ok (.istore 9, 2) := D_54 W_prog_11_method_9_code_288 17 rfl rfl
theorem d_11_9_307 : decode prog_11_method_9_code 307 = .ok (.iload 7, 2) := D_21 W_prog_11_method_9_code_288 19 rfl rfl
theorem d_11_9_309 : decode prog_11_method_9_code 309 = .ok (.ifCond .eq 36, 3) := D_153 W_prog_11_method_9_code_288 21 rfl rfl rfl
theorem d_11_9_312 : decode prog_11_method_9_code 312 = .ok (.iload 7, 2) := D_21 W_prog_11_method_9_code_288 24 rfl rfl
theorem d_11_9_314 : decode prog_11_method_9_code 314 = .ok (.iload 8, 2) := D_21 W_prog_11_method_9_code_288 26 rfl rfl
theorem d_11_9_316 : decode prog_11_method_9_code 316 = .ok (.if_icmp .eq 29, 3) := D_159 W_prog_11_method_9_code_288 28 rfl rfl rfl
theorem d_11_9_319 : decode prog_11_method_9_code 319 = .ok (.aload_n 0, 1) := D_42 W_prog_11_method_9_code_288 31 rfl rfl
theorem W_prog_11_method_9_code_320 : chW prog_11_method_9_code 320 [180, 0, 23, 21, 9, 46, 42, 180, 0, 30, 21, 9, 46, 100, 184, 0, 127, 5, 164, 0, 7, 4, 167, 0, 4, 3, 172] := chW_of (by decide +kernel)
theorem d_11_9_320 : decode prog_11_method_9_code 320 = .ok (.getfield 23, 3) := D_180 W_prog_11_method_9_code_320 0 rfl rfl rfl
theorem d_11_9_323 : decode prog_11_method_9_code 323 = .ok (.iload 9, 2) := D_21 W_prog_11_method_9_code_320 3 rfl rfl
theorem d_11_9_325 : decode prog_11_method_9_code 325 = .ok (.iaload, 1) := D_46 W_prog_11_method_9_code_320 5 rfl rfl
theorem d_11_9_326 : decode prog_11_method_9_code 326 = .ok (.aload_n 0, 1) := D_42 W_prog_11_method_9_code_320 6 rfl rfl
theorem d_11_9_327 : decode prog_11_method_9_code 327 = .ok (.getfield 30, 3) := D_180 W_prog_11_method_9_code_320 7 rfl rfl rfl
theorem d_11_9_330 : decode prog_11_method_9_code 330 = .ok (.iload 9, 2) := D_21 W_prog_11_method_9_code_320 10 rfl rfl
theorem d_11_9_332 : decode prog_11_method_9_code 332 = .ok (.iaload, 1) := D_46 W_prog_11_method_9_code_320 12 rfl rfl
theorem d_11_9_333 : decode prog_11_method_9_code 333 = .ok (.isub, 1) := D_100 W_prog_11_method_9_code_320 13 rfl rfl
theorem d_11_9_334 : decode prog_11_method_9_code 334 = .ok (.invokestatic 127, 3) := D_184 W_prog_11_method_9_code_320 14 rfl rfl rfl
theorem d_11_9_337 : decode prog_11_method_9_code 337 = .ok (.iconst 2, 1) := D_5 W_prog_11_method_9_code_320 17 rfl rfl
theorem d_11_9_338 : decode prog_11_method_9_code 338 = .ok (.if_icmp .le 7, 3) := D_164 W_prog_11_method_9_code_320 18 rfl rfl rfl
theorem d_11_9_341 : decode prog_11_method_9_code 341 = .ok (.iconst 1, 1) := D_4 W_prog_11_method_9_code_320 21 rfl rfl
theorem d_11_9_342 : decode prog_11_method_9_code 342 = .ok (.goto 4, 3) := D_167 W_prog_11_method_9_code_320 22 rfl rfl rfl
theorem d_11_9_346 : decode prog_11_method_9_code 346 = .ok (.ireturn, 1) := D_172 W_prog_11_method_9_code_320 26 rfl rfl
theorem d_11_9_345 : decode prog_11_method_9_code 345 = .ok (.iconst 0, 1) := D_3 W_prog_11_method_9_code_320 25 rfl rfl
theorem d_11_9_166 : decode prog_11_method_9_code 166 = .ok (.iconst 0, 1) := D_3 W_prog_11_method_9_code_160 6 rfl rfl
theorem d_11_9_129 : decode prog_11_method_9_code 129 = .ok (.iconst 0, 1) := D_3 W_prog_11_method_9_code_128 1 rfl rfl
theorem d_11_9_46 : decode prog_11_method_9_code 46 = .ok (.iconst 0, 1) := D_3 W_prog_11_method_9_code_32 14 rfl rfl
theorem d_7_6_67 : decode prog_7_method_6_code 67 = .ok (.iastore, 1) := D_79 W_prog_7_method_6_code_64 3 rfl rfl
theorem d_7_6_68 : decode prog_7_method_6_code 68 = .ok (.aload_n 0, 1) := D_42 W_prog_7_method_6_code_64 4 rfl rfl
theorem d_7_6_69 : decode prog_7_method_6_code 69 = .ok (.getfield 23, 3) := D_180 W_prog_7_method_6_code_64 5 rfl rfl rfl
theorem d_7_6_72 : decode prog_7_method_6_code 72 = .ok (.iconst 4, 1) := D_7 W_prog_7_method_6_code_64 8 rfl rfl
theorem d_7_6_73 : decode prog_7_method_6_code 73 = .ok (.aaload, 1) := D_50 W_prog_7_method_6_code_64 9 rfl rfl
theorem d_7_6_74 : decode prog_7_method_6_code 74 = .ok (.aload_n 0, 1) := D_42 W_prog_7_method_6_code_64 10 rfl rfl
theorem d_7_6_75 : decode prog_7_method_6_code 75 = .ok (.getfield 36, 3) := D_180 W_prog_7_method_6_code_64 11 rfl rfl rfl
theorem d_7_6_78 : decode prog_7_method_6_code 78 = .ok (.iload 5, 2) := D_21 W_prog_7_method_6_code_64 14 rfl rfl
theorem d_7_6_80 : decode prog_7_method_6_code 80 = .ok (.iastore, 1) := D_79 W_prog_7_method_6_code_64 16 rfl rfl
theorem d_7_6_81 : decode prog_7_method_6_code 81 = .ok (.aload_n 0, 1) := D_42 W_prog_7_method_6_code_64 17 rfl rfl
theorem d_7_6_82 : decode prog_7_method_6_code 82 = .ok (.getfield 23, 3) := D_180 W_prog_7_method_6_code_64 18 rfl rfl rfl
theorem d_7_6_85 : decode prog_7_method_6_code 85 = .ok (.iconst 5, 1) := D_8 W_prog_7_method_6_code_64 21 rfl rfl
theorem d_7_6_86 : decode prog_7_method_6_code 86 = .ok (.aaload, 1) := D_50 W_prog_7_method_6_code_64 22 rfl rfl
theorem d_7_6_87 : decode prog_7_method_6_code 87 = .ok (.aload_n 0, 1) := D_42 W_prog_7_method_6_code_64 23 rfl rfl
theorem d_7_6_88 : decode prog_7_method_6_code 88 = .ok (.getfield 36, 3) := D_180 W_prog_7_method_6_code_64 24 rfl rfl rfl
theorem d_7_6_91 : decode prog_7_method_6_code 91 = .ok (.iload 6, 2) := D_21 W_prog_7_method_6_code_64 27 rfl rfl
theorem d_7_6_93 : decode prog_7_method_6_code 93 = .ok (.iastore, 1) := D_79 W_prog_7_method_6_code_64 29 rfl rfl
theorem d_7_6_94 : decode prog_7_method_6_code 94 = .ok (.aload_n 0, 1) := D_42 W_prog_7_method_6_code_64 30 rfl rfl
theorem d_7_6_95 : decode prog_7_method_6_code 95 = .ok (.dup, 1) := D_89 W_prog_7_method_6_code_64 31 rfl rfl
theorem W_prog_7_method_6_code_96 : chW prog_7_method_6_code 96 [180, 0, 36, 4, 96, 181, 0, 36, 177] := chW_of (by decide +kernel)
theorem d_7_6_96 : decode prog_7_method_6_code 96 = .ok (.getfield 36, 3) := D_180 W_prog_7_method_6_code_96 0 rfl rfl rfl
theorem d_7_6_99 : decode prog_7_method_6_code 99 = .ok (.iconst 1, 1) := D_4 W_prog_7_method_6_code_96 3 rfl rfl
theorem d_7_6_100 : decode prog_7_method_6_code 100 = .ok (.iadd, 1) := D_96 W_prog_7_method_6_code_96 4 rfl rfl
theorem d_7_6_101 : decode prog_7_method_6_code 101 = .ok (.putfield 36, 3) := D_181 W_prog_7_method_6_code_96 5 rfl rfl rfl
theorem d_7_6_104 : decode prog_7_method_6_code 104 = .ok (.return_, 1) := D_177 W_prog_7_method_6_code_96 8 rfl rfl
theorem d_7_6_10 : decode prog_7_method_6_code 10 = .ok (.aload_n 0, 1) := D_42 W_prog_7_method_6_code_0 10 rfl rfl
theorem d_7_6_11 : decode prog_7_method_6_code 11 = .ok (.iconst 1, 1) := D_4 W_prog_7_method_6_code_0 11 rfl rfl
theorem d_7_6_12 : decode prog_7_method_6_code 12 = .ok (.putfield 40, 3) := D_181 W_prog_7_method_6_code_0 12 rfl rfl rfl
theorem d_7_6_15 : decode prog_7_method_6_code 15 = .ok (.return_, 1) := D_177 W_prog_7_method_6_code_0 15 rfl rfl
theorem d_7_7_52 : decode prog_7_method_7_code 52 = .ok (.aaload, 1) := D_50 W_prog_7_method_7_code_32 20 rfl rfl
theorem d_7_7_53 : decode prog_7_method_7_code 53 = .ok (.astore 7, 2) := D_58 W_prog_7_method_7_code_32 21 rfl rfl
theorem d_7_7_55 : decode prog_7_method_7_code 55 = .ok (.aload 7, 2) := D_25 W_prog_7_method_7_code_32 23 rfl rfl
theorem d_7_7_57 : decode prog_7_method_7_code 57 = .ok (.getfield 109, 3) := D_180 W_prog_7_method_7_code_32 25 rfl rfl rfl
theorem d_7_7_60 : decode prog_7_method_7_code 60 = .ok (.aload 7, 2) := D_25 W_prog_7_method_7_code_32 28 rfl rfl
theorem d_7_7_62 : decode prog_7_method_7_code 62 = .ok (.getfield 121, 3) := D_180 W_prog_7_method_7_code_32 30 rfl rfl rfl
theorem W_prog_7_method_7_code_64 : chW prog_7_method_7_code 64 [121, 97, 184, 0, 113, 21, 5, 100, 54, 8, 21, 8, 158, 0, 30, 42, 28, 29, 25, 4, 21, 6, 182, 0, 124, 25, 4, 21, 5, 21, 5, 25, 7, 21, 8, 184] := chW_of (by decide +kernel)
theorem d_7_7_65 : decode prog_7_method_7_code 65 = .ok (.ladd, 1) := D_97 W_prog_7_method_7_code_64 1 rfl rfl
theorem d_7_7_66 : decode prog_7_method_7_code 66 = .ok (.invokestatic 113, 3) := D_184 W_prog_7_method_7_code_64 2 rfl rfl rfl
theorem d_7_7_69 : decode prog_7_method_7_code 69 = .ok (.iload 5, 2) := D_21 W_prog_7_method_7_code_64 5 rfl rfl
theorem d_7_7_71 : decode prog_7_method_7_code 71 = .ok (.isub, 1) := D_100 W_prog_7_method_7_code_64 7 rfl rfl
theorem d_7_7_72 : decode prog_7_method_7_code 72 = .ok (.istore 8, 2) := D_54 W_prog_7_method_7_code_64 8 rfl rfl
theorem d_7_7_74 : decode prog_7_method_7_code 74 = .ok (.iload 8, 2) := D_21 W_prog_7_method_7_code_64 10 rfl rfl
theorem d_7_7_76 : decode prog_7_method_7_code 76 = .ok (.ifCond .le 30, 3) := D_158 W_prog_7_method_7_code_64 12 rfl rfl rfl
theorem d_7_7_79 : decode prog_7_method_7_code 79 = .ok (.aload_n 0, 1) := D_42 W_prog_7_method_7_code_64 15 rfl rfl
theorem d_7_7_80 : decode prog_7_method_7_code 80 = .ok (.iload_n 2, 1) := D_28 W_prog_7_method_7_code_64 16 rfl rfl
theorem d_7_7_81 : decode prog_7_method_7_code 81 = .ok (.iload_n 3, 1) := D_29 W_prog_7_method_7_code_64 17 rfl rfl
theorem d_7_7_82 : decode prog_7_method_7_code 82 = .ok (.aload 4, 2) := D_25 W_prog_7_method_7_code_64 18 rfl rfl
theorem d_7_7_84 : decode prog_7_method_7_code 84 = .ok (.iload 6, 2) := D_21 W_prog_7_method_7_code_64 20 rfl rfl
theorem d_7_7_86 : decode prog_7_method_7_code 86 = .ok (.invokevirtual 124, 3) := D_182 W_prog_7_method_7_code_64 22 rfl rfl rfl
theorem d_7_7_89 : decode prog_7_method_7_code 89 = .ok (.aload 4, 2) := D_25 W_prog_7_method_7_code_64 25 rfl rfl
theorem d_7_7_91 : decode prog_7_method_7_code 91 = .ok (.iload 5, 2) := D_21 W_prog_7_method_7_code_64 27 rfl rfl
theorem d_7_7_93 : decode prog_7_method_7_code 93 = .ok (.iload 5, 2) := D_21 W_prog_7_method_7_code_64 29 rfl rfl
theorem d_7_7_95 : decode prog_7_method_7_code 95 = .ok (.aload 7, 2) := D_25 W_prog_7_method_7_code_64 31 rfl rfl
theorem d_7_7_97 : decode prog_7_method_7_code 97 = .ok (.iload 8, 2) := D_21 W_prog_7_method_7_code_96 1 rfl rfl
theorem d_7_7_99 : decode prog_7_method_7_code 99 = .ok (.invokestatic 127, 3) := D_184 W_prog_7_method_7_code_96 3 rfl rfl rfl
theorem d_7_7_102 : decode prog_7_method_7_code 102 = .ok (.iadd, 1) := D_96 W_prog_7_method_7_code_96 6 rfl rfl
theorem d_7_7_103 : decode prog_7_method_7_code 103 = .ok (.invokevirtual 131, 3) := D_182 W_prog_7_method_7_code_96 7 rfl rfl rfl
theorem d_7_7_106 : decode prog_7_method_7_code 106 = .ok (.iinc 6 1, 3) := D_132 W_prog_7_method_7_code_96 10 rfl rfl rfl
theorem d_7_7_109 : decode prog_7_method_7_code 109 = .ok (.goto (-88), 3) := D_167 W_prog_7_method_7_code_96 13 rfl rfl rfl
theorem d_1_11_6 : decode prog_1_method_11_code 6 = .ok (.astore 4, 2) := D_58 W_prog_1_method_11_code_0 6 rfl rfl
theorem d_1_11_8 : decode prog_1_method_11_code 8 = .ok (.aload 4, 2) := D_25 W_prog_1_method_11_code_0 8 rfl rfl
theorem d_1_11_10 : decode prog_1_method_11_code 10 = .ok (.ifnonnull 5, 3) := D_199 W_prog_1_method_11_code_0 10 rfl rfl rfl
theorem d_1_11_15 : decode prog_1_method_11_code 15 = .ok (.iload_n 3, 1) := D_29 W_prog_1_method_11_code_0 15 rfl rfl
theorem d_1_11_16 : decode prog_1_method_11_code 16 = .ok (.tableswitch 56 0 3 #[32, 38, 44, 50], 32) := by decide +kernel
theorem W_prog_1_method_11_code_32 : chW prog_1_method_11_code 32 [0, 0, 0, 32, 0, 0, 0, 38, 0, 0, 0, 44, 0, 0, 0, 50, 25, 4, 180, 0, 174, 172, 25, 4, 180, 0, 177, 172, 25, 4, 180, 0, 105, 172, 25, 4] := chW_of (by decide +kernel)
theorem d_1_11_48 : decode prog_1_method_11_code 48 = .ok (.aload 4, 2) := D_25 W_prog_1_method_11_code_32 16 rfl rfl
theorem d_1_11_50 : decode prog_1_method_11_code 50 = .ok (.getfield 174, 3) := D_180 W_prog_1_method_11_code_32 18 rfl rfl rfl
theorem d_1_11_53 : decode prog_1_method_11_code 53 = .ok (.ireturn, 1) := D_172 W_prog_1_method_11_code_32 21 rfl rfl
theorem d_1_11_54 : decode prog_1_method_11_code 54 = .ok (.aload 4, 2) := D_25 W_prog_1_method_11_code_32 22 rfl rfl
theorem d_1_11_56 : decode prog_1_method_11_code 56 = .ok (.getfield 177, 3) := D_180 W_prog_1_method_11_code_32 24 rfl rfl rfl
theorem d_1_11_59 : decode prog_1_method_11_code 59 = .ok (.ireturn, 1) := D_172 W_prog_1_method_11_code_32 27 rfl rfl
theorem d_1_11_60 : decode prog_1_method_11_code 60 = .ok (.aload 4, 2) := D_25 W_prog_1_method_11_code_32 28 rfl rfl
theorem d_1_11_62 : decode prog_1_method_11_code 62 = .ok (.getfield 105, 3) := D_180 W_prog_1_method_11_code_32 30 rfl rfl rfl
theorem W_prog_1_method_11_code_64 : chW prog_1_method_11_code 64 [105, 172, 25, 4, 180, 0, 180, 172, 2, 172] := chW_of (by decide +kernel)
theorem d_1_11_65 : decode prog_1_method_11_code 65 = .ok (.ireturn, 1) := D_172 W_prog_1_method_11_code_64 1 rfl rfl
theorem d_1_11_66 : decode prog_1_method_11_code 66 = .ok (.aload 4, 2) := D_25 W_prog_1_method_11_code_64 2 rfl rfl
theorem d_1_11_68 : decode prog_1_method_11_code 68 = .ok (.getfield 180, 3) := D_180 W_prog_1_method_11_code_64 4 rfl rfl rfl
theorem d_1_11_71 : decode prog_1_method_11_code 71 = .ok (.ireturn, 1) := D_172 W_prog_1_method_11_code_64 7 rfl rfl
theorem d_1_11_72 : decode prog_1_method_11_code 72 = .ok (.iconst (-1), 1) := D_2 W_prog_1_method_11_code_64 8 rfl rfl
theorem d_1_11_73 : decode prog_1_method_11_code 73 = .ok (.ireturn, 1) := D_172 W_prog_1_method_11_code_64 9 rfl rfl
theorem d_1_11_13 : decode prog_1_method_11_code 13 = .ok (.iconst (-1), 1) := D_2 W_prog_1_method_11_code_0 13 rfl rfl
theorem d_1_11_14 : decode prog_1_method_11_code 14 = .ok (.ireturn, 1) := D_172 W_prog_1_method_11_code_0 14 rfl rfl
theorem d_1_35_7 : decode prog_1_method_35_code 7 = .ok (.lstore_n 2, 1) := D_65 W_prog_1_method_35_code_0 7 rfl rfl
theorem d_1_35_8 : decode prog_1_method_35_code 8 = .ok (.lload_n 2, 1) := D_32 W_prog_1_method_35_code_0 8 rfl rfl
theorem d_1_35_9 : decode prog_1_method_35_code 9 = .ok (.lconst 0, 1) := D_9 W_prog_1_method_35_code_0 9 rfl rfl
theorem d_1_35_10 : decode prog_1_method_35_code 10 = .ok (.lcmp, 1) := D_148 W_prog_1_method_35_code_0 10 rfl rfl
theorem d_1_35_11 : decode prog_1_method_35_code 11 = .ok (.ifCond .ne 7, 3) := D_154 W_prog_1_method_35_code_0 11 rfl rfl rfl
theorem d_1_35_18 : decode prog_1_method_35_code 18 = .ok (.lload_n 0, 1) := D_30 W_prog_1_method_35_code_0 18 rfl rfl
theorem d_1_35_19 : decode prog_1_method_35_code 19 = .ok (.lload_n 2, 1) := D_32 W_prog_1_method_35_code_0 19 rfl rfl
theorem d_1_35_20 : decode prog_1_method_35_code 20 = .ok (.ldiv, 1) := D_109 W_prog_1_method_35_code_0 20 rfl rfl
theorem d_1_35_14 : decode prog_1_method_35_code 14 = .ok (.lload_n 0, 1) := D_30 W_prog_1_method_35_code_0 14 rfl rfl
theorem d_1_35_15 : decode prog_1_method_35_code 15 = .ok (.goto 6, 3) := D_167 W_prog_1_method_35_code_0 15 rfl rfl rfl
theorem d_1_35_21 : decode prog_1_method_35_code 21 = .ok (.lreturn, 1) := D_173 W_prog_1_method_35_code_0 21 rfl rfl
theorem d_1_14_85 : decode prog_1_method_14_code 85 = .ok (.ireturn, 1) := D_172 W_prog_1_method_14_code_64 21 rfl rfl
theorem d_1_14_86 : decode prog_1_method_14_code 86 = .ok (.ldc 218, 2) := D_18 W_prog_1_method_14_code_64 22 rfl rfl
theorem d_1_14_88 : decode prog_1_method_14_code 88 = .ok (.ireturn, 1) := D_172 W_prog_1_method_14_code_64 24 rfl rfl
theorem d_1_14_29 : decode prog_1_method_14_code 29 = .ok (.ldc 218, 2) := D_18 W_prog_1_method_14_code_0 29 rfl rfl
theorem d_1_14_31 : decode prog_1_method_14_code 31 = .ok (.ireturn, 1) := D_172 W_prog_1_method_14_code_0 31 rfl rfl
theorem d_1_15_58 : decode prog_1_method_15_code 58 = .ok (.lreturn, 1) := D_173 W_prog_1_method_15_code_32 26 rfl rfl
theorem d_1_15_38 : decode prog_1_method_15_code 38 = .ok (.ldc2_w 191, 3) := D_20 W_prog_1_method_15_code_32 6 rfl rfl rfl
theorem d_1_15_41 : decode prog_1_method_15_code 41 = .ok (.lreturn, 1) := D_173 W_prog_1_method_15_code_32 9 rfl rfl
theorem d_1_15_89 : decode prog_1_method_15_code 89 = .ok (.lreturn, 1) := D_173 W_prog_1_method_15_code_64 25 rfl rfl
theorem d_4_5_38 : decode prog_4_method_5_code 38 = .ok (.ifCond .eq 41, 3) := D_153 W_prog_4_method_5_code_32 6 rfl rfl rfl
theorem d_4_5_41 : decode prog_4_method_5_code 41 = .ok (.lload_n 3, 1) := D_33 W_prog_4_method_5_code_32 9 rfl rfl
theorem d_4_5_42 : decode prog_4_method_5_code 42 = .ok (.lconst 0, 1) := D_9 W_prog_4_method_5_code_32 10 rfl rfl
theorem d_4_5_43 : decode prog_4_method_5_code 43 = .ok (.lcmp, 1) := D_148 W_prog_4_method_5_code_32 11 rfl rfl
theorem d_4_5_44 : decode prog_4_method_5_code 44 = .ok (.ifCond .lt 21, 3) := D_155 W_prog_4_method_5_code_32 12 rfl rfl rfl
theorem d_4_5_47 : decode prog_4_method_5_code 47 = .ok (.aload 6, 2) := D_25 W_prog_4_method_5_code_32 15 rfl rfl
theorem d_4_5_49 : decode prog_4_method_5_code 49 = .ok (.getfield 106, 3) := D_180 W_prog_4_method_5_code_32 17 rfl rfl rfl
theorem d_4_5_52 : decode prog_4_method_5_code 52 = .ok (.aload_n 0, 1) := D_42 W_prog_4_method_5_code_32 20 rfl rfl
theorem d_4_5_53 : decode prog_4_method_5_code 53 = .ok (.getfield 43, 3) := D_180 W_prog_4_method_5_code_32 21 rfl rfl rfl
theorem d_4_5_56 : decode prog_4_method_5_code 56 = .ok (.iload 5, 2) := D_21 W_prog_4_method_5_code_32 24 rfl rfl
theorem d_4_5_58 : decode prog_4_method_5_code 58 = .ok (.iaload, 1) := D_46 W_prog_4_method_5_code_32 26 rfl rfl
theorem d_4_5_59 : decode prog_4_method_5_code 59 = .ok (.laload, 1) := D_47 W_prog_4_method_5_code_32 27 rfl rfl
theorem d_4_5_60 : decode prog_4_method_5_code 60 = .ok (.lload_n 3, 1) := D_33 W_prog_4_method_5_code_32 28 rfl rfl
theorem d_4_5_61 : decode prog_4_method_5_code 61 = .ok (.lcmp, 1) := D_148 W_prog_4_method_5_code_32 29 rfl rfl
theorem d_4_5_62 : decode prog_4_method_5_code 62 = .ok (.ifCond .ge 17, 3) := D_156 W_prog_4_method_5_code_32 30 rfl rfl rfl
theorem d_4_5_65 : decode prog_4_method_5_code 65 = .ok (.aload 6, 2) := D_25 W_prog_4_method_5_code_64 1 rfl rfl
theorem d_4_5_67 : decode prog_4_method_5_code 67 = .ok (.getfield 106, 3) := D_180 W_prog_4_method_5_code_64 3 rfl rfl rfl
theorem d_4_5_70 : decode prog_4_method_5_code 70 = .ok (.aload_n 0, 1) := D_42 W_prog_4_method_5_code_64 6 rfl rfl
theorem d_4_5_71 : decode prog_4_method_5_code 71 = .ok (.getfield 43, 3) := D_180 W_prog_4_method_5_code_64 7 rfl rfl rfl
theorem d_4_5_74 : decode prog_4_method_5_code 74 = .ok (.iload 5, 2) := D_21 W_prog_4_method_5_code_64 10 rfl rfl
theorem d_4_5_76 : decode prog_4_method_5_code 76 = .ok (.iaload, 1) := D_46 W_prog_4_method_5_code_64 12 rfl rfl
theorem d_4_5_77 : decode prog_4_method_5_code 77 = .ok (.laload, 1) := D_47 W_prog_4_method_5_code_64 13 rfl rfl
theorem d_4_5_78 : decode prog_4_method_5_code 78 = .ok (.lstore_n 3, 1) := D_66 W_prog_4_method_5_code_64 14 rfl rfl
theorem d_4_5_79 : decode prog_4_method_5_code 79 = .ok (.iinc 5 1, 3) := D_132 W_prog_4_method_5_code_64 15 rfl rfl rfl
theorem d_4_5_82 : decode prog_4_method_5_code 82 = .ok (.goto (-75), 3) := D_167 W_prog_4_method_5_code_64 18 rfl rfl rfl
theorem d_4_10_23 : decode prog_4_method_10_code 23 = .ok (.istore 5, 2) := D_54 W_prog_4_method_10_code_0 23 rfl rfl
theorem d_4_10_25 : decode prog_4_method_10_code 25 = .ok (.aload_n 0, 1) := D_42 W_prog_4_method_10_code_0 25 rfl rfl
theorem d_4_10_26 : decode prog_4_method_10_code 26 = .ok (.getfield 37, 3) := D_180 W_prog_4_method_10_code_0 26 rfl rfl rfl
theorem d_4_10_29 : decode prog_4_method_10_code 29 = .ok (.iload 4, 2) := D_21 W_prog_4_method_10_code_0 29 rfl rfl
theorem d_4_10_31 : decode prog_4_method_10_code 31 = .ok (.ldc2_w 138, 3) := D_20 W_prog_4_method_10_code_0 31 rfl rfl rfl
theorem W_prog_4_method_10_code_32 : chW prog_4_method_10_code 32 [0, 138, 80, 21, 4, 4, 96, 54, 6, 21, 6, 28, 163, 0, 101, 21, 5, 42, 180, 0, 25, 21, 6, 4, 100, 46, 96, 54, 5, 21, 5, 29, 164, 0, 15, 21] := chW_of (by decide +kernel)
theorem d_4_10_34 : decode prog_4_method_10_code 34 = .ok (.lastore, 1) := D_80 W_prog_4_method_10_code_32 2 rfl rfl
theorem d_4_10_35 : decode prog_4_method_10_code 35 = .ok (.iload 4, 2) := D_21 W_prog_4_method_10_code_32 3 rfl rfl
theorem d_4_10_37 : decode prog_4_method_10_code 37 = .ok (.iconst 1, 1) := D_4 W_prog_4_method_10_code_32 5 rfl rfl
theorem d_4_10_38 : decode prog_4_method_10_code 38 = .ok (.iadd, 1) := D_96 W_prog_4_method_10_code_32 6 rfl rfl
theorem d_4_10_39 : decode prog_4_method_10_code 39 = .ok (.istore 6, 2) := D_54 W_prog_4_method_10_code_32 7 rfl rfl
theorem d_4_10_41 : decode prog_4_method_10_code 41 = .ok (.iload 6, 2) := D_21 W_prog_4_method_10_code_32 9 rfl rfl
theorem d_4_10_43 : decode prog_4_method_10_code 43 = .ok (.iload_n 2, 1) := D_28 W_prog_4_method_10_code_32 11 rfl rfl
theorem d_4_10_44 : decode prog_4_method_10_code 44 = .ok (.if_icmp .gt 101, 3) := D_163 W_prog_4_method_10_code_32 12 rfl rfl rfl
theorem d_4_10_47 : decode prog_4_method_10_code 47 = .ok (.iload 5, 2) := D_21 W_prog_4_method_10_code_32 15 rfl rfl
theorem d_4_10_49 : decode prog_4_method_10_code 49 = .ok (.aload_n 0, 1) := D_42 W_prog_4_method_10_code_32 17 rfl rfl
theorem d_4_10_50 : decode prog_4_method_10_code 50 = .ok (.getfield 25, 3) := D_180 W_prog_4_method_10_code_32 18 rfl rfl rfl
theorem d_4_10_53 : decode prog_4_method_10_code 53 = .ok (.iload 6, 2) := D_21 W_prog_4_method_10_code_32 21 rfl rfl
theorem d_4_10_55 : decode prog_4_method_10_code 55 = .ok (.iconst 1, 1) := D_4 W_prog_4_method_10_code_32 23 rfl rfl
theorem d_4_10_56 : decode prog_4_method_10_code 56 = .ok (.isub, 1) := D_100 W_prog_4_method_10_code_32 24 rfl rfl
theorem d_4_10_57 : decode prog_4_method_10_code 57 = .ok (.iaload, 1) := D_46 W_prog_4_method_10_code_32 25 rfl rfl
theorem d_4_10_58 : decode prog_4_method_10_code 58 = .ok (.iadd, 1) := D_96 W_prog_4_method_10_code_32 26 rfl rfl
theorem d_4_10_59 : decode prog_4_method_10_code 59 = .ok (.istore 5, 2) := D_54 W_prog_4_method_10_code_32 27 rfl rfl
theorem d_4_10_61 : decode prog_4_method_10_code 61 = .ok (.iload 5, 2) := D_21 W_prog_4_method_10_code_32 29 rfl rfl
theorem d_4_10_63 : decode prog_4_method_10_code 63 = .ok (.iload_n 3, 1) := D_29 W_prog_4_method_10_code_32 31 rfl rfl
theorem W_prog_4_method_10_code_64 : chW prog_4_method_10_code 64 [164, 0, 15, 21, 6, 21, 4, 4, 96, 164, 0, 6, 167, 0, 69, 29, 133, 21, 5, 133, 21, 6, 28, 160, 0, 7, 4, 167, 0, 4, 3, 184, 0, 140, 42, 180] := chW_of (by decide +kernel)
theorem d_4_10_64 : decode prog_4_method_10_code 64 = .ok (.if_icmp .le 15, 3) := D_164 W_prog_4_method_10_code_64 0 rfl rfl rfl
theorem d_4_10_67 : decode prog_4_method_10_code 67 = .ok (.iload 6, 2) := D_21 W_prog_4_method_10_code_64 3 rfl rfl
theorem d_4_10_69 : decode prog_4_method_10_code 69 = .ok (.iload 4, 2) := D_21 W_prog_4_method_10_code_64 5 rfl rfl
theorem d_4_10_71 : decode prog_4_method_10_code 71 = .ok (.iconst 1, 1) := D_4 W_prog_4_method_10_code_64 7 rfl rfl
theorem d_4_10_72 : decode prog_4_method_10_code 72 = .ok (.iadd, 1) := D_96 W_prog_4_method_10_code_64 8 rfl rfl
theorem d_4_10_73 : decode prog_4_method_10_code 73 = .ok (.if_icmp .le 6, 3) := D_164 W_prog_4_method_10_code_64 9 rfl rfl rfl
theorem d_4_10_76 : decode prog_4_method_10_code 76 = .ok (.goto 69, 3) := D_167 W_prog_4_method_10_code_64 12 rfl rfl rfl
theorem d_4_10_145 : decode prog_4_method_10_code 145 = .ok (.iinc 4 (-1), 3) := D_132 W_prog_4_method_10_code_128 17 rfl rfl rfl
theorem d_4_10_148 : decode prog_4_method_10_code 148 = .ok (.goto (-136), 3) := D_167 W_prog_4_method_10_code_128 20 rfl rfl rfl
theorem d_4_10_79 : decode prog_4_method_10_code 79 = .ok (.iload_n 3, 1) := D_29 W_prog_4_method_10_code_64 15 rfl rfl
theorem d_4_10_80 : decode prog_4_method_10_code 80 = .ok (.i2l, 1) := D_133 W_prog_4_method_10_code_64 16 rfl rfl
theorem d_4_10_81 : decode prog_4_method_10_code 81 = .ok (.iload 5, 2) := D_21 W_prog_4_method_10_code_64 17 rfl rfl
theorem d_4_10_83 : decode prog_4_method_10_code 83 = .ok (.i2l, 1) := D_133 W_prog_4_method_10_code_64 19 rfl rfl
theorem d_4_10_84 : decode prog_4_method_10_code 84 = .ok (.iload 6, 2) := D_21 W_prog_4_method_10_code_64 20 rfl rfl
theorem d_4_10_86 : decode prog_4_method_10_code 86 = .ok (.iload_n 2, 1) := D_28 W_prog_4_method_10_code_64 22 rfl rfl
theorem d_4_10_87 : decode prog_4_method_10_code 87 = .ok (.if_icmp .ne 7, 3) := D_160 W_prog_4_method_10_code_64 23 rfl rfl rfl
theorem d_4_10_94 : decode prog_4_method_10_code 94 = .ok (.iconst 0, 1) := D_3 W_prog_4_method_10_code_64 30 rfl rfl
theorem d_4_10_90 : decode prog_4_method_10_code 90 = .ok (.iconst 1, 1) := D_4 W_prog_4_method_10_code_64 26 rfl rfl
theorem d_4_10_91 : decode prog_4_method_10_code 91 = .ok (.goto 4, 3) := D_167 W_prog_4_method_10_code_64 27 rfl rfl rfl
theorem d_4_10_95 : decode prog_4_method_10_code 95 = .ok (.invokestatic 140, 3) := D_184 W_prog_4_method_10_code_64 31 rfl rfl rfl
theorem W_prog_4_method_10_code_96 : chW prog_4_method_10_code 96 [0, 140, 42, 180, 0, 37, 21, 6, 47, 97, 55, 7, 22, 7, 42, 180, 0, 37, 21, 4, 47, 148, 157, 0, 21, 42, 180, 0, 37, 21, 4, 22, 7, 80, 42, 180] := chW_of (by decide +kernel)
theorem d_4_10_98 : decode prog_4_method_10_code 98 = .ok (.aload_n 0, 1) := D_42 W_prog_4_method_10_code_96 2 rfl rfl
theorem d_4_10_99 : decode prog_4_method_10_code 99 = .ok (.getfield 37, 3) := D_180 W_prog_4_method_10_code_96 3 rfl rfl rfl
theorem d_4_10_102 : decode prog_4_method_10_code 102 = .ok (.iload 6, 2) := D_21 W_prog_4_method_10_code_96 6 rfl rfl
theorem d_4_10_104 : decode prog_4_method_10_code 104 = .ok (.laload, 1) := D_47 W_prog_4_method_10_code_96 8 rfl rfl
theorem d_4_10_105 : decode prog_4_method_10_code 105 = .ok (.ladd, 1) := D_97 W_prog_4_method_10_code_96 9 rfl rfl
theorem d_4_10_106 : decode prog_4_method_10_code 106 = .ok (.lstore 7, 2) := D_55 W_prog_4_method_10_code_96 10 rfl rfl
theorem d_4_10_108 : decode prog_4_method_10_code 108 = .ok (.lload 7, 2) := D_22 W_prog_4_method_10_code_96 12 rfl rfl
theorem d_4_10_110 : decode prog_4_method_10_code 110 = .ok (.aload_n 0, 1) := D_42 W_prog_4_method_10_code_96 14 rfl rfl
theorem d_4_10_111 : decode prog_4_method_10_code 111 = .ok (.getfield 37, 3) := D_180 W_prog_4_method_10_code_96 15 rfl rfl rfl
theorem d_4_10_114 : decode prog_4_method_10_code 114 = .ok (.iload 4, 2) := D_21 W_prog_4_method_10_code_96 18 rfl rfl
theorem d_4_10_116 : decode prog_4_method_10_code 116 = .ok (.laload, 1) := D_47 W_prog_4_method_10_code_96 20 rfl rfl
theorem d_4_10_117 : decode prog_4_method_10_code 117 = .ok (.lcmp, 1) := D_148 W_prog_4_method_10_code_96 21 rfl rfl
theorem d_4_10_118 : decode prog_4_method_10_code 118 = .ok (.ifCond .gt 21, 3) := D_157 W_prog_4_method_10_code_96 22 rfl rfl rfl
theorem d_4_10_121 : decode prog_4_method_10_code 121 = .ok (.aload_n 0, 1) := D_42 W_prog_4_method_10_code_96 25 rfl rfl
theorem d_4_10_122 : decode prog_4_method_10_code 122 = .ok (.getfield 37, 3) := D_180 W_prog_4_method_10_code_96 26 rfl rfl rfl
theorem d_4_10_125 : decode prog_4_method_10_code 125 = .ok (.iload 4, 2) := D_21 W_prog_4_method_10_code_96 29 rfl rfl
theorem d_4_10_127 : decode prog_4_method_10_code 127 = .ok (.lload 7, 2) := D_22 W_prog_4_method_10_code_96 31 rfl rfl
theorem d_4_10_129 : decode prog_4_method_10_code 129 = .ok (.lastore, 1) := D_80 W_prog_4_method_10_code_128 1 rfl rfl
theorem d_4_10_130 : decode prog_4_method_10_code 130 = .ok (.aload_n 0, 1) := D_42 W_prog_4_method_10_code_128 2 rfl rfl
theorem d_4_10_131 : decode prog_4_method_10_code 131 = .ok (.getfield 40, 3) := D_180 W_prog_4_method_10_code_128 3 rfl rfl rfl
theorem d_4_10_134 : decode prog_4_method_10_code 134 = .ok (.iload 4, 2) := D_21 W_prog_4_method_10_code_128 6 rfl rfl
theorem d_4_10_136 : decode prog_4_method_10_code 136 = .ok (.iload 6, 2) := D_21 W_prog_4_method_10_code_128 8 rfl rfl
theorem d_4_10_138 : decode prog_4_method_10_code 138 = .ok (.iastore, 1) := D_79 W_prog_4_method_10_code_128 10 rfl rfl
theorem d_4_10_139 : decode prog_4_method_10_code 139 = .ok (.iinc 6 1, 3) := D_132 W_prog_4_method_10_code_128 11 rfl rfl rfl
theorem d_4_10_142 : decode prog_4_method_10_code 142 = .ok (.goto (-101), 3) := D_167 W_prog_4_method_10_code_128 14 rfl rfl rfl
theorem W_prog_1_method_17_code_32 : chW prog_1_method_17_code 32 [0, 242, 173] := chW_of (by decide +kernel)
theorem d_1_17_34 : decode prog_1_method_17_code 34 = .ok (.lreturn, 1) := D_173 W_prog_1_method_17_code_32 2 rfl rfl
theorem d_1_17_20 : decode prog_1_method_17_code 20 = .ok (.ldc2_w 191, 3) := D_20 W_prog_1_method_17_code_0 20 rfl rfl rfl
theorem d_1_17_23 : decode prog_1_method_17_code 23 = .ok (.lreturn, 1) := D_173 W_prog_1_method_17_code_0 23 rfl rfl
theorem d_1_18_72 : decode prog_1_method_18_code 72 = .ok (.ireturn, 1) := D_172 W_prog_1_method_18_code_64 8 rfl rfl
theorem d_1_18_46 : decode prog_1_method_18_code 46 = .ok (.iconst (-1), 1) := D_2 W_prog_1_method_18_code_32 14 rfl rfl
theorem d_1_18_47 : decode prog_1_method_18_code 47 = .ok (.ireturn, 1) := D_172 W_prog_1_method_18_code_32 15 rfl rfl
theorem d_7_13_42 : decode prog_7_method_13_code 42 = .ok (.iload_n 3, 1) := D_29 W_prog_7_method_13_code_32 10 rfl rfl
