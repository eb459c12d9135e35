theorem d_11_17_94 : decode prog_11_method_17_code 94 = .ok (.iinc 7 1, 3) := D_132 W_prog_11_method_17_code_64 30 rfl rfl rfl
theorem d_11_17_97 : decode prog_11_method_17_code 97 = .ok (.goto (-65), 3) := D_167 W_prog_11_method_17_code_96 1 rfl rfl rfl
theorem d_11_17_100 : decode prog_11_method_17_code 100 = .ok (.iinc 5 1, 3) := D_132 W_prog_11_method_17_code_96 4 rfl rfl rfl
theorem d_11_17_103 : decode prog_11_method_17_code 103 = .ok (.goto (-93), 3) := D_167 W_prog_11_method_17_code_96 7 rfl rfl rfl
theorem d_21_80_7 : decode prog_21_method_80_code 7 = .ok (.aload_n 0, 1) := D_42 W_prog_21_method_80_code_0 7 rfl rfl
theorem d_21_80_8 : decode prog_21_method_80_code 8 = .ok (.getfield 9, 3) := D_180 W_prog_21_method_80_code_0 8 rfl rfl rfl
theorem d_21_80_11 : decode prog_21_method_80_code 11 = .ok (.iload_n 1, 1) := D_27 W_prog_21_method_80_code_0 11 rfl rfl
theorem d_21_80_12 : decode prog_21_method_80_code 12 = .ok (.iload_n 2, 1) := D_28 W_prog_21_method_80_code_0 12 rfl rfl
theorem d_21_80_13 : decode prog_21_method_80_code 13 = .ok (.aload_n 0, 1) := D_42 W_prog_21_method_80_code_0 13 rfl rfl
theorem d_21_80_14 : decode prog_21_method_80_code 14 = .ok (.invokevirtual 505, 3) := D_182 W_prog_21_method_80_code_0 14 rfl rfl rfl
theorem d_21_80_17 : decode prog_21_method_80_code 17 = .ok (.invokestatic 637, 3) := D_184 W_prog_21_method_80_code_0 17 rfl rfl rfl
theorem d_21_80_20 : decode prog_21_method_80_code 20 = .ok (.goto 16, 3) := D_167 W_prog_21_method_80_code_0 20 rfl rfl rfl
theorem W_prog_21_method_80_code_32 : chW prog_21_method_80_code 32 [249, 184, 2, 128, 172] := chW_of (by decide +kernel)
theorem d_21_80_36 : decode prog_21_method_80_code 36 = .ok (.ireturn, 1) := D_172 W_prog_21_method_80_code_32 4 rfl rfl
theorem d_5_26_15 : decode prog_5_method_26_code 15 = .ok (.ifCond .ne 5, 3) := D_154 W_prog_5_method_26_code_0 15 rfl rfl rfl
theorem d_5_26_20 : decode prog_5_method_26_code 20 = .ok (.sipush 128, 3) := D_17 W_prog_5_method_26_code_0 20 rfl rfl rfl
theorem d_5_26_23 : decode prog_5_method_26_code 23 = .ok (.aload_n 0, 1) := D_42 W_prog_5_method_26_code_0 23 rfl rfl
theorem d_5_26_24 : decode prog_5_method_26_code 24 = .ok (.getfield 135, 3) := D_180 W_prog_5_method_26_code_0 24 rfl rfl rfl
theorem d_5_26_27 : decode prog_5_method_26_code 27 = .ok (.iconst 1, 1) := D_4 W_prog_5_method_26_code_0 27 rfl rfl
theorem d_5_26_28 : decode prog_5_method_26_code 28 = .ok (.invokestatic 296, 3) := D_184 W_prog_5_method_26_code_0 28 rfl rfl rfl
theorem d_5_26_31 : decode prog_5_method_26_code 31 = .ok (.idiv, 1) := D_108 W_prog_5_method_26_code_0 31 rfl rfl
theorem W_prog_5_method_26_code_32 : chW prog_5_method_26_code 32 [60, 3, 61, 3, 62, 29, 5, 162, 0, 31, 42, 180, 0, 48, 16, 46, 182, 0, 153, 153, 0, 19, 132, 2, 1, 42, 180, 0, 48, 182, 0, 122, 132, 3, 1, 167] := chW_of (by decide +kernel)
theorem d_5_26_32 : decode prog_5_method_26_code 32 = .ok (.istore_n 1, 1) := D_60 W_prog_5_method_26_code_32 0 rfl rfl
theorem d_5_26_33 : decode prog_5_method_26_code 33 = .ok (.iconst 0, 1) := D_3 W_prog_5_method_26_code_32 1 rfl rfl
theorem d_5_26_34 : decode prog_5_method_26_code 34 = .ok (.istore_n 2, 1) := D_61 W_prog_5_method_26_code_32 2 rfl rfl
theorem d_5_26_35 : decode prog_5_method_26_code 35 = .ok (.iconst 0, 1) := D_3 W_prog_5_method_26_code_32 3 rfl rfl
theorem d_5_26_36 : decode prog_5_method_26_code 36 = .ok (.istore_n 3, 1) := D_62 W_prog_5_method_26_code_32 4 rfl rfl
theorem d_5_26_18 : decode prog_5_method_26_code 18 = .ok (.iconst 0, 1) := D_3 W_prog_5_method_26_code_0 18 rfl rfl
theorem d_5_26_19 : decode prog_5_method_26_code 19 = .ok (.ireturn, 1) := D_172 W_prog_5_method_26_code_0 19 rfl rfl
theorem d_5_26_37 : decode prog_5_method_26_code 37 = .ok (.iload_n 3, 1) := D_29 W_prog_5_method_26_code_32 5 rfl rfl
theorem d_5_26_38 : decode prog_5_method_26_code 38 = .ok (.iconst 2, 1) := D_5 W_prog_5_method_26_code_32 6 rfl rfl
theorem d_5_26_39 : decode prog_5_method_26_code 39 = .ok (.if_icmp .ge 31, 3) := D_162 W_prog_5_method_26_code_32 7 rfl rfl rfl
theorem d_5_26_42 : decode prog_5_method_26_code 42 = .ok (.aload_n 0, 1) := D_42 W_prog_5_method_26_code_32 10 rfl rfl
theorem d_5_26_43 : decode prog_5_method_26_code 43 = .ok (.getfield 48, 3) := D_180 W_prog_5_method_26_code_32 11 rfl rfl rfl
theorem d_5_26_46 : decode prog_5_method_26_code 46 = .ok (.bipush 46, 2) := D_16 W_prog_5_method_26_code_32 14 rfl rfl rfl
theorem d_5_26_48 : decode prog_5_method_26_code 48 = .ok (.invokevirtual 153, 3) := D_182 W_prog_5_method_26_code_32 16 rfl rfl rfl
theorem d_5_26_51 : decode prog_5_method_26_code 51 = .ok (.ifCond .eq 19, 3) := D_153 W_prog_5_method_26_code_32 19 rfl rfl rfl
theorem d_5_26_54 : decode prog_5_method_26_code 54 = .ok (.iinc 2 1, 3) := D_132 W_prog_5_method_26_code_32 22 rfl rfl rfl
theorem d_5_26_57 : decode prog_5_method_26_code 57 = .ok (.aload_n 0, 1) := D_42 W_prog_5_method_26_code_32 25 rfl rfl
theorem d_5_26_58 : decode prog_5_method_26_code 58 = .ok (.getfield 48, 3) := D_180 W_prog_5_method_26_code_32 26 rfl rfl rfl
theorem d_5_26_61 : decode prog_5_method_26_code 61 = .ok (.invokevirtual 122, 3) := D_182 W_prog_5_method_26_code_32 29 rfl rfl rfl
theorem W_prog_5_method_26_code_64 : chW prog_5_method_26_code 64 [132, 3, 1, 167, 255, 226, 42, 27, 178, 1, 43, 28, 46, 104, 7, 108, 181, 0, 181, 4, 172] := chW_of (by decide +kernel)
theorem d_5_26_64 : decode prog_5_method_26_code 64 = .ok (.iinc 3 1, 3) := D_132 W_prog_5_method_26_code_64 0 rfl rfl rfl
theorem d_5_26_67 : decode prog_5_method_26_code 67 = .ok (.goto (-30), 3) := D_167 W_prog_5_method_26_code_64 3 rfl rfl rfl
theorem d_5_26_70 : decode prog_5_method_26_code 70 = .ok (.aload_n 0, 1) := D_42 W_prog_5_method_26_code_64 6 rfl rfl
theorem d_5_26_71 : decode prog_5_method_26_code 71 = .ok (.iload_n 1, 1) := D_27 W_prog_5_method_26_code_64 7 rfl rfl
theorem d_5_26_72 : decode prog_5_method_26_code 72 = .ok (.getstatic 299, 3) := D_178 W_prog_5_method_26_code_64 8 rfl rfl rfl
theorem d_5_26_75 : decode prog_5_method_26_code 75 = .ok (.iload_n 2, 1) := D_28 W_prog_5_method_26_code_64 11 rfl rfl
theorem d_5_26_76 : decode prog_5_method_26_code 76 = .ok (.iaload, 1) := D_46 W_prog_5_method_26_code_64 12 rfl rfl
theorem d_5_26_77 : decode prog_5_method_26_code 77 = .ok (.imul, 1) := D_104 W_prog_5_method_26_code_64 13 rfl rfl
theorem d_5_26_78 : decode prog_5_method_26_code 78 = .ok (.iconst 4, 1) := D_7 W_prog_5_method_26_code_64 14 rfl rfl
theorem d_5_26_79 : decode prog_5_method_26_code 79 = .ok (.idiv, 1) := D_108 W_prog_5_method_26_code_64 15 rfl rfl
theorem d_5_26_80 : decode prog_5_method_26_code 80 = .ok (.putfield 181, 3) := D_181 W_prog_5_method_26_code_64 16 rfl rfl rfl
theorem d_5_26_83 : decode prog_5_method_26_code 83 = .ok (.iconst 1, 1) := D_4 W_prog_5_method_26_code_64 19 rfl rfl
theorem d_5_26_84 : decode prog_5_method_26_code 84 = .ok (.ireturn, 1) := D_172 W_prog_5_method_26_code_64 20 rfl rfl
theorem d_5_6_43 : decode prog_5_method_6_code 43 = .ok (.ireturn, 1) := D_172 W_prog_5_method_6_code_32 11 rfl rfl
theorem d_5_6_27 : decode prog_5_method_6_code 27 = .ok (.aload_n 0, 1) := D_42 W_prog_5_method_6_code_0 27 rfl rfl
theorem d_5_6_28 : decode prog_5_method_6_code 28 = .ok (.aload_n 1, 1) := D_43 W_prog_5_method_6_code_0 28 rfl rfl
theorem d_5_6_29 : decode prog_5_method_6_code 29 = .ok (.invokevirtual 125, 3) := D_182 W_prog_5_method_6_code_0 29 rfl rfl rfl
theorem d_5_6_32 : decode prog_5_method_6_code 32 = .ok (.ireturn, 1) := D_172 W_prog_5_method_6_code_32 0 rfl rfl
theorem d_13_13_267 : decode prog_13_method_13_code 267 = .ok (.iinc 7 1, 3) := D_132 W_prog_13_method_13_code_256 11 rfl rfl rfl
theorem d_13_13_270 : decode prog_13_method_13_code 270 = .ok (.goto (-42), 3) := D_167 W_prog_13_method_13_code_256 14 rfl rfl rfl
theorem d_13_13_273 : decode prog_13_method_13_code 273 = .ok (.aload_n 0, 1) := D_42 W_prog_13_method_13_code_256 17 rfl rfl
theorem d_13_13_274 : decode prog_13_method_13_code 274 = .ok (.getfield 28, 3) := D_180 W_prog_13_method_13_code_256 18 rfl rfl rfl
theorem d_13_13_277 : decode prog_13_method_13_code 277 = .ok (.dup, 1) := D_89 W_prog_13_method_13_code_256 21 rfl rfl
theorem d_13_13_278 : decode prog_13_method_13_code 278 = .ok (.getfield 139, 3) := D_180 W_prog_13_method_13_code_256 22 rfl rfl rfl
theorem d_13_13_281 : decode prog_13_method_13_code 281 = .ok (.iconst 1, 1) := D_4 W_prog_13_method_13_code_256 25 rfl rfl
theorem d_13_13_282 : decode prog_13_method_13_code 282 = .ok (.iadd, 1) := D_96 W_prog_13_method_13_code_256 26 rfl rfl
theorem d_13_13_283 : decode prog_13_method_13_code 283 = .ok (.putfield 139, 3) := D_181 W_prog_13_method_13_code_256 27 rfl rfl rfl
theorem d_13_13_286 : decode prog_13_method_13_code 286 = .ok (.aload_n 0, 1) := D_42 W_prog_13_method_13_code_256 30 rfl rfl
theorem d_13_13_287 : decode prog_13_method_13_code 287 = .ok (.dup, 1) := D_89 W_prog_13_method_13_code_256 31 rfl rfl
theorem W_prog_13_method_13_code_288 : chW prog_13_method_13_code 288 [180, 0, 60, 22, 4, 97, 181, 0, 60, 177] := chW_of (by decide +kernel)
theorem d_13_13_288 : decode prog_13_method_13_code 288 = .ok (.getfield 60, 3) := D_180 W_prog_13_method_13_code_288 0 rfl rfl rfl
theorem d_13_13_291 : decode prog_13_method_13_code 291 = .ok (.lload 4, 2) := D_22 W_prog_13_method_13_code_288 3 rfl rfl
theorem d_13_13_293 : decode prog_13_method_13_code 293 = .ok (.ladd, 1) := D_97 W_prog_13_method_13_code_288 5 rfl rfl
theorem d_13_13_294 : decode prog_13_method_13_code 294 = .ok (.putfield 60, 3) := D_181 W_prog_13_method_13_code_288 6 rfl rfl rfl
theorem d_13_13_297 : decode prog_13_method_13_code 297 = .ok (.return_, 1) := D_177 W_prog_13_method_13_code_288 9 rfl rfl
theorem d_6_7_46 : decode prog_6_method_7_code 46 = .ok (.ireturn, 1) := D_172 W_prog_6_method_7_code_32 14 rfl rfl
theorem d_6_7_27 : decode prog_6_method_7_code 27 = .ok (.iconst 0, 1) := D_3 W_prog_6_method_7_code_0 27 rfl rfl
theorem d_6_7_28 : decode prog_6_method_7_code 28 = .ok (.ireturn, 1) := D_172 W_prog_6_method_7_code_0 28 rfl rfl
theorem d_6_12_48 : decode prog_6_method_12_code 48 = .ok (.istore 10, 2) := D_54 W_prog_6_method_12_code_32 16 rfl rfl
theorem d_6_12_50 : decode prog_6_method_12_code 50 = .ok (.aload_n 0, 1) := D_42 W_prog_6_method_12_code_32 18 rfl rfl
theorem d_6_12_51 : decode prog_6_method_12_code 51 = .ok (.iload_n 1, 1) := D_27 W_prog_6_method_12_code_32 19 rfl rfl
theorem d_6_12_52 : decode prog_6_method_12_code 52 = .ok (.iload_n 2, 1) := D_28 W_prog_6_method_12_code_32 20 rfl rfl
theorem d_6_12_53 : decode prog_6_method_12_code 53 = .ok (.lload 6, 2) := D_22 W_prog_6_method_12_code_32 21 rfl rfl
theorem d_6_12_55 : decode prog_6_method_12_code 55 = .ok (.iload 10, 2) := D_21 W_prog_6_method_12_code_32 23 rfl rfl
theorem d_6_12_57 : decode prog_6_method_12_code 57 = .ok (.invokevirtual 150, 3) := D_182 W_prog_6_method_12_code_32 25 rfl rfl rfl
theorem d_6_12_60 : decode prog_6_method_12_code 60 = .ok (.iload 8, 2) := D_21 W_prog_6_method_12_code_32 28 rfl rfl
theorem d_6_12_62 : decode prog_6_method_12_code 62 = .ok (.iload 10, 2) := D_21 W_prog_6_method_12_code_32 30 rfl rfl
theorem W_prog_6_method_12_code_64 : chW prog_6_method_12_code 64 [184, 0, 169, 100, 54, 8, 22, 6, 20, 0, 157, 21, 10, 184, 0, 169, 133, 105, 25, 5, 180, 0, 178, 4, 184, 0, 181, 133, 109, 25, 5, 180, 0, 185, 133, 105] := chW_of (by decide +kernel)
theorem d_6_12_64 : decode prog_6_method_12_code 64 = .ok (.invokestatic 169, 3) := D_184 W_prog_6_method_12_code_64 0 rfl rfl rfl
theorem d_6_12_67 : decode prog_6_method_12_code 67 = .ok (.isub, 1) := D_100 W_prog_6_method_12_code_64 3 rfl rfl
theorem d_6_12_68 : decode prog_6_method_12_code 68 = .ok (.istore 8, 2) := D_54 W_prog_6_method_12_code_64 4 rfl rfl
theorem d_6_12_70 : decode prog_6_method_12_code 70 = .ok (.lload 6, 2) := D_22 W_prog_6_method_12_code_64 6 rfl rfl
theorem d_6_12_72 : decode prog_6_method_12_code 72 = .ok (.ldc2_w 157, 3) := D_20 W_prog_6_method_12_code_64 8 rfl rfl rfl
theorem d_6_12_75 : decode prog_6_method_12_code 75 = .ok (.iload 10, 2) := D_21 W_prog_6_method_12_code_64 11 rfl rfl
theorem d_6_12_77 : decode prog_6_method_12_code 77 = .ok (.invokestatic 169, 3) := D_184 W_prog_6_method_12_code_64 13 rfl rfl rfl
theorem d_6_12_80 : decode prog_6_method_12_code 80 = .ok (.i2l, 1) := D_133 W_prog_6_method_12_code_64 16 rfl rfl
theorem d_6_12_81 : decode prog_6_method_12_code 81 = .ok (.lmul, 1) := D_105 W_prog_6_method_12_code_64 17 rfl rfl
theorem d_6_12_82 : decode prog_6_method_12_code 82 = .ok (.aload 5, 2) := D_25 W_prog_6_method_12_code_64 18 rfl rfl
theorem d_6_12_84 : decode prog_6_method_12_code 84 = .ok (.getfield 178, 3) := D_180 W_prog_6_method_12_code_64 20 rfl rfl rfl
theorem d_6_12_87 : decode prog_6_method_12_code 87 = .ok (.iconst 1, 1) := D_4 W_prog_6_method_12_code_64 23 rfl rfl
theorem d_6_12_88 : decode prog_6_method_12_code 88 = .ok (.invokestatic 181, 3) := D_184 W_prog_6_method_12_code_64 24 rfl rfl rfl
theorem d_6_12_91 : decode prog_6_method_12_code 91 = .ok (.i2l, 1) := D_133 W_prog_6_method_12_code_64 27 rfl rfl
theorem d_6_12_92 : decode prog_6_method_12_code 92 = .ok (.ldiv, 1) := D_109 W_prog_6_method_12_code_64 28 rfl rfl
theorem d_6_12_93 : decode prog_6_method_12_code 93 = .ok (.aload 5, 2) := D_25 W_prog_6_method_12_code_64 29 rfl rfl
theorem d_6_12_95 : decode prog_6_method_12_code 95 = .ok (.getfield 185, 3) := D_180 W_prog_6_method_12_code_64 31 rfl rfl rfl
theorem W_prog_6_method_12_code_96 : chW prog_6_method_12_code 96 [0, 185, 133, 105, 97, 55, 6, 132, 9, 1, 167, 255, 173, 177] := chW_of (by decide +kernel)
theorem d_6_12_98 : decode prog_6_method_12_code 98 = .ok (.i2l, 1) := D_133 W_prog_6_method_12_code_96 2 rfl rfl
theorem d_6_12_99 : decode prog_6_method_12_code 99 = .ok (.lmul, 1) := D_105 W_prog_6_method_12_code_96 3 rfl rfl
theorem d_6_12_100 : decode prog_6_method_12_code 100 = .ok (.ladd, 1) := D_97 W_prog_6_method_12_code_96 4 rfl rfl
theorem d_6_12_101 : decode prog_6_method_12_code 101 = .ok (.lstore 6, 2) := D_55 W_prog_6_method_12_code_96 5 rfl rfl
theorem d_6_12_103 : decode prog_6_method_12_code 103 = .ok (.iinc 9 1, 3) := D_132 W_prog_6_method_12_code_96 7 rfl rfl rfl
theorem d_6_12_106 : decode prog_6_method_12_code 106 = .ok (.goto (-83), 3) := D_167 W_prog_6_method_12_code_96 10 rfl rfl rfl
theorem d_6_12_109 : decode prog_6_method_12_code 109 = .ok (.return_, 1) := D_177 W_prog_6_method_12_code_96 13 rfl rfl
theorem d_6_11_78 : decode prog_6_method_11_code 78 = .ok (.istore 15, 2) := D_54 W_prog_6_method_11_code_64 14 rfl rfl
theorem d_6_11_80 : decode prog_6_method_11_code 80 = .ok (.aload_n 0, 1) := D_42 W_prog_6_method_11_code_64 16 rfl rfl
theorem d_6_11_81 : decode prog_6_method_11_code 81 = .ok (.iload_n 2, 1) := D_28 W_prog_6_method_11_code_64 17 rfl rfl
theorem d_6_11_82 : decode prog_6_method_11_code 82 = .ok (.iload 11, 2) := D_21 W_prog_6_method_11_code_64 18 rfl rfl
theorem d_6_11_84 : decode prog_6_method_11_code 84 = .ok (.iload 12, 2) := D_21 W_prog_6_method_11_code_64 20 rfl rfl
theorem d_6_11_86 : decode prog_6_method_11_code 86 = .ok (.i2l, 1) := D_133 W_prog_6_method_11_code_64 22 rfl rfl
theorem d_6_11_87 : decode prog_6_method_11_code 87 = .ok (.lload 7, 2) := D_22 W_prog_6_method_11_code_64 23 rfl rfl
theorem d_6_11_89 : decode prog_6_method_11_code 89 = .ok (.lmul, 1) := D_105 W_prog_6_method_11_code_64 25 rfl rfl
theorem d_6_11_90 : decode prog_6_method_11_code 90 = .ok (.iload 15, 2) := D_21 W_prog_6_method_11_code_64 26 rfl rfl
theorem d_6_11_92 : decode prog_6_method_11_code 92 = .ok (.invokevirtual 150, 3) := D_182 W_prog_6_method_11_code_64 28 rfl rfl rfl
theorem d_6_11_95 : decode prog_6_method_11_code 95 = .ok (.iload 12, 2) := D_21 W_prog_6_method_11_code_64 31 rfl rfl
theorem W_prog_6_method_11_code_96 : chW prog_6_method_11_code 96 [12, 21, 15, 184, 0, 169, 96, 54, 12, 21, 13, 21, 15, 184, 0, 169, 100, 54, 13, 132, 14, 1, 167, 255, 181, 177] := chW_of (by decide +kernel)
theorem d_6_11_97 : decode prog_6_method_11_code 97 = .ok (.iload 15, 2) := D_21 W_prog_6_method_11_code_96 1 rfl rfl
theorem d_6_11_99 : decode prog_6_method_11_code 99 = .ok (.invokestatic 169, 3) := D_184 W_prog_6_method_11_code_96 3 rfl rfl rfl
theorem d_6_11_102 : decode prog_6_method_11_code 102 = .ok (.iadd, 1) := D_96 W_prog_6_method_11_code_96 6 rfl rfl
theorem d_6_11_103 : decode prog_6_method_11_code 103 = .ok (.istore 12, 2) := D_54 W_prog_6_method_11_code_96 7 rfl rfl
theorem d_6_11_105 : decode prog_6_method_11_code 105 = .ok (.iload 13, 2) := D_21 W_prog_6_method_11_code_96 9 rfl rfl
theorem d_6_11_107 : decode prog_6_method_11_code 107 = .ok (.iload 15, 2) := D_21 W_prog_6_method_11_code_96 11 rfl rfl
theorem d_6_11_109 : decode prog_6_method_11_code 109 = .ok (.invokestatic 169, 3) := D_184 W_prog_6_method_11_code_96 13 rfl rfl rfl
theorem d_6_11_112 : decode prog_6_method_11_code 112 = .ok (.isub, 1) := D_100 W_prog_6_method_11_code_96 16 rfl rfl
theorem d_6_11_113 : decode prog_6_method_11_code 113 = .ok (.istore 13, 2) := D_54 W_prog_6_method_11_code_96 17 rfl rfl
theorem d_6_11_115 : decode prog_6_method_11_code 115 = .ok (.iinc 14 1, 3) := D_132 W_prog_6_method_11_code_96 19 rfl rfl rfl
theorem d_6_11_118 : decode prog_6_method_11_code 118 = .ok (.goto (-75), 3) := D_167 W_prog_6_method_11_code_96 22 rfl rfl rfl
theorem d_6_11_121 : decode prog_6_method_11_code 121 = .ok (.return_, 1) := D_177 W_prog_6_method_11_code_96 25 rfl rfl
theorem d_6_16_88 : decode prog_6_method_16_code 88 = .ok (.iastore, 1) := D_79 W_prog_6_method_16_code_64 24 rfl rfl
theorem d_6_16_50 : decode prog_6_method_16_code 50 = .ok (.aload_n 0, 1) := D_42 W_prog_6_method_16_code_32 18 rfl rfl
theorem d_6_16_51 : decode prog_6_method_16_code 51 = .ok (.getfield 19, 3) := D_180 W_prog_6_method_16_code_32 19 rfl rfl rfl
theorem d_6_16_54 : decode prog_6_method_16_code 54 = .ok (.bipush 6, 2) := D_16 W_prog_6_method_16_code_32 22 rfl rfl rfl
theorem d_6_16_56 : decode prog_6_method_16_code 56 = .ok (.aaload, 1) := D_50 W_prog_6_method_16_code_32 24 rfl rfl
theorem d_6_16_57 : decode prog_6_method_16_code 57 = .ok (.iload_n 1, 1) := D_27 W_prog_6_method_16_code_32 25 rfl rfl
theorem d_6_16_58 : decode prog_6_method_16_code 58 = .ok (.iconst 1, 1) := D_4 W_prog_6_method_16_code_32 26 rfl rfl
theorem d_6_16_59 : decode prog_6_method_16_code 59 = .ok (.aload_n 0, 1) := D_42 W_prog_6_method_16_code_32 27 rfl rfl
theorem d_6_16_60 : decode prog_6_method_16_code 60 = .ok (.getfield 11, 3) := D_180 W_prog_6_method_16_code_32 28 rfl rfl rfl
theorem d_6_16_63 : decode prog_6_method_16_code 63 = .ok (.iload_n 2, 1) := D_28 W_prog_6_method_16_code_32 31 rfl rfl
theorem d_6_16_64 : decode prog_6_method_16_code 64 = .ok (.aaload, 1) := D_50 W_prog_6_method_16_code_64 0 rfl rfl
theorem d_6_16_65 : decode prog_6_method_16_code 65 = .ok (.getfield 188, 3) := D_180 W_prog_6_method_16_code_64 1 rfl rfl rfl
theorem d_6_16_68 : decode prog_6_method_16_code 68 = .ok (.ishl, 1) := D_120 W_prog_6_method_16_code_64 4 rfl rfl
theorem d_6_16_69 : decode prog_6_method_16_code 69 = .ok (.iconst 1, 1) := D_4 W_prog_6_method_16_code_64 5 rfl rfl
theorem d_6_16_70 : decode prog_6_method_16_code 70 = .ok (.isub, 1) := D_100 W_prog_6_method_16_code_64 6 rfl rfl
theorem d_6_16_71 : decode prog_6_method_16_code 71 = .ok (.iastore, 1) := D_79 W_prog_6_method_16_code_64 7 rfl rfl
theorem d_6_16_72 : decode prog_6_method_16_code 72 = .ok (.goto 17, 3) := D_167 W_prog_6_method_16_code_64 8 rfl rfl rfl
theorem d_6_16_27 : decode prog_6_method_16_code 27 = .ok (.aload_n 0, 1) := D_42 W_prog_6_method_16_code_0 27 rfl rfl
theorem d_6_16_28 : decode prog_6_method_16_code 28 = .ok (.getfield 19, 3) := D_180 W_prog_6_method_16_code_0 28 rfl rfl rfl
theorem d_6_16_31 : decode prog_6_method_16_code 31 = .ok (.bipush 6, 2) := D_16 W_prog_6_method_16_code_0 31 rfl rfl rfl
theorem d_6_16_33 : decode prog_6_method_16_code 33 = .ok (.aaload, 1) := D_50 W_prog_6_method_16_code_32 1 rfl rfl
theorem d_6_16_34 : decode prog_6_method_16_code 34 = .ok (.iload_n 1, 1) := D_27 W_prog_6_method_16_code_32 2 rfl rfl
theorem d_6_16_35 : decode prog_6_method_16_code 35 = .ok (.iconst 0, 1) := D_3 W_prog_6_method_16_code_32 3 rfl rfl
theorem d_6_16_36 : decode prog_6_method_16_code 36 = .ok (.iastore, 1) := D_79 W_prog_6_method_16_code_32 4 rfl rfl
theorem d_6_16_37 : decode prog_6_method_16_code 37 = .ok (.goto 52, 3) := D_167 W_prog_6_method_16_code_32 5 rfl rfl rfl
theorem d_6_16_89 : decode prog_6_method_16_code 89 = .ok (.iinc 1 1, 3) := D_132 W_prog_6_method_16_code_64 25 rfl rfl rfl
theorem d_6_16_92 : decode prog_6_method_16_code 92 = .ok (.goto (-90), 3) := D_167 W_prog_6_method_16_code_64 28 rfl rfl rfl
noncomputable abbrev Q_SoundFile_takeWide (K : zK) (D : va_G) (ca : Nat → ClassId) (ad : Nat → Int → Nat → Nat) (L : List Nat) (r : Int) (F : zF) (B : zB) (A : Nat → Prop) : Array Value → State → Outcome → State → Prop := va_Ql (S := Unit) (fun p _ => p = lI r) (fun _ => zPo D ca ad lnC K.2 L F B A) A
noncomputable def f_SoundFile_takeWide_5 (K : zK) : Nat → Int → Int → Int → Int → zF → zB → zO
  | 0, _, _, _, _, _, _ => none
  | n + 1, l4, l2, l0, l1, F, B => if r32 l4 then if r32 l1 then (if l1 ≤ l4 then some (l2, F, B) else if 0 ≤ l0 ∧ l0 < K.2 8 then zbind (f_SoundFile_take K l0 F B) (fun r5 F5 B5 => if r32 r5 then f_SoundFile_takeWide_5 K n (l4 + 1) ((l2 * 256) + r5) l0 l1 F5 B5 else none) else none) else none else none
set_option maxHeartbeats 4000000 in
set_option maxRecDepth 100000 in
theorem b_SoundFile_takeWide_5 {D : va_G} {ca : Nat → ClassId} {ad : Nat → Int → Nat → Nat} {L : List Nat} {aS vS : Nat → Nat} {A : Nat → Prop} {p : Program} {l : Launch} {e : Env} {s : State} {m : MethodId} {args : Array Value} {below : List Frame} {meth : Method} {c : Code} {K : zK} {r : Int} {F9 : zF} {B9 : zB} (X : zX D ca L aS vS A p s m args meth c prog_10_method_7_code 5 (Option.some Jvm.ClassFile.FieldType.long) "StaveHouse$SoundFile") : ∀ {n : Nat} {l4 : Int} {l2 : Int} {l0 : Int} {l1 : Int} {F : zF} {B : zB} {H : Heap} {locs : List Loc} {ls : Array Slot}, f_SoundFile_takeWide_5 K n l4 l2 l0 l1 F B = some (r, F9, B9) → zH D ca ad lnC K.2 L F B A H → va_S A s.heap H locs → lv_has ls 5 [(4, .int (iI l4)), (2, .long (lI l2)), (0, .ref (ad 8 l0 0)), (1, .int (iI l1))] → W p l e ({ frames := 2, cells := 0, slots := 0, locals := 42 } : Room) s m args below meth c H locs 0 0 (MQ below (Q_SoundFile_takeWide K D ca ad L r F9 B9 A) args s 0 0 A) (F0 m 5 ls []) := by
  obtain ⟨hx, hb, hr, hml, hown, hts, hlk, hK, hA, hL, hX⟩ := id X
  intro n
  induction n with
  | zero =>
    intros
    rename_i hf _ _ _
    cases hf
  | succ n ih =>
    intro l4 l2 l0 l1 F B H locs ls hf hZ hS hl
    replace hf : (if r32 l4 then if r32 l1 then (if l1 ≤ l4 then some (l2, F, B) else if 0 ≤ l0 ∧ l0 < K.2 8 then zbind (f_SoundFile_take K l0 F B) (fun r5 F5 B5 => if r32 r5 then f_SoundFile_takeWide_5 K n (l4 + 1) ((l2 * 256) + r5) l0 l1 F5 B5 else none) else none) else none else none) = some (r, F9, B9) := hf
    refine lv_iload hx hb d_10_7_5 (lv_at hl 0 rfl) ?_
    refine lv_iload_n hx hb d_10_7_7 rfl (lv_at hl 3 rfl) ?_
    obtain ⟨g1, hf⟩ := gif hf
    obtain ⟨g2, hf⟩ := gif hf
    refine zge (tgt := 29) hx hb g1 g2 d_10_7_8 (by decide) (fun h3 => ?_) (fun h3 => ?_)
    · replace hf := gpos hf h3
      refine lv_lload_n hx hb d_10_7_29 rfl (lv_at hl 1 rfl) ?_
      cases hf
      exact W.lret hx hb hr (fun t ht hW => ⟨⟨_, (), rfl, rfl, by rw [ht]; exact hZ, va_K.moved hW.alike hK⟩, hS.F ht⟩) hS.2.2 d_10_7_30 hlk
    · replace hf := gneg hf h3
      refine lv_lload_n hx hb d_10_7_11 rfl (lv_at hl 1 rfl) ?_
      refine lv_ldc2 hx hb hown (hts _ k_8_62) d_10_7_12 ?_
      refine W.eq (g2 := F0 m 15 ls [.long (lI 256), .long (lI l2)]) rfl ?_
      refine zlmul hx hb d_10_7_15 ?_
      refine lv_aload_n hx hb d_10_7_16 rfl (lv_at hl 2 rfl) ?_
      obtain ⟨g4, hf⟩ := gif hf
      obtain ⟨r5, F5, B5, hc5, hf⟩ := gbind hf
      refine va_calli (va_runV (As := []) (rest := [.long (lI (l2 * 256))]) ⟨hx, hb, hml, hown, hts⟩ (c_SoundFile_take (l := l) hc5) (cwV 0 hts (gdV k_8_49 k_8_51 ks_95 k_1_23 k_8_52) rfl rfl rfl (by decide +kernel) ⟨Nat.le_of_ble_eq_true rfl, Nat.le_of_ble_eq_true rfl⟩) (zPV X hZ hS (ci := 8) g4.1 g4.2 (r := (RX8, TX8, 15)) rfl []) rfl rfl hl.1 rfl (lv_room (Nat.le_of_ble_eq_true rfl)) d_10_7_17 ⟨Nat.le_of_ble_eq_true rfl, Nat.le_of_ble_eq_true rfl⟩) hS (fun q _ h => zAin X hS q h) (zAin X hS) (fun p5 u5 t5 H5 locs5 ht5 hv5 hw5 hB5 hz5 hk5 hS5 => ?_)
      have hZ5 := zBack X ht5 hB5
      subst hw5
      obtain ⟨g6, hf⟩ := gif hf
      refine zi2l hx hb g6 d_10_7_20 ?_
      refine zladd hx hb d_10_7_21 ?_
      refine lv_lstore_n (lv' := [(2, .long (lI ((l2 * 256) + r5))), (4, .int (iI l4)), (0, .ref (ad 8 l0 0)), (1, .int (iI l1))]) hx hb d_10_7_22 rfl hl (by decide) rfl (fun ls hl => ?_)
      refine lv_iinc (v := iI (l4 + 1)) (lv' := [(4, .int (iI (l4 + 1))), (2, .long (lI ((l2 * 256) + r5))), (0, .ref (ad 8 l0 0)), (1, .int (iI l1))]) hx hb d_10_7_23 hl (k := 1) rfl (iI_add _ 1) (by decide) rfl (fun ls hl => ?_)
      refine lv_goto (tgt := 5) hx hb d_10_7_26 (by decide) ?_
      exact ih hf hZ5 hS5 (lv_sub hl [0, 1, 2, 3] rfl)

noncomputable def f_SoundFile_takeWide (K : zK) (l0 : Int) (l1 : Int) (F : zF) (B : zB) : zO := f_SoundFile_takeWide_5 K K.1 0 0 l0 l1 F B
set_option maxHeartbeats 4000000 in
set_option maxRecDepth 100000 in
theorem c_SoundFile_takeWide {l : Launch} {D : va_G} {ca : Nat → ClassId} {ad : Nat → Int → Nat → Nat} {L : List Nat} {aS vS : Nat → Nat} {sz : Nat} {K : zK}  {l0 : Int} {l1 : Int} {F F9 : zF} {B B9 : zB} {r : Int} (hf : f_SoundFile_takeWide K l0 l1 F B = some (r, F9, B9)) : Met l ({ cls := "StaveHouse$SoundFile", name := "takeWide", desc := "(I)J" } : Jvm.MethodName) (Cond.code ({ cls := "StaveHouse$SoundFile", name := "takeWide", desc := "(I)J" } : Jvm.MethodName) prog_10_method_7_code 5 (Option.some Jvm.ClassFile.FieldType.long) :: wAll) ({ frames := 2, cells := 0, slots := 0, locals := 42 } : Room) (va_Pc [.ref (ad 8 l0 0), .int (iI l1)] (zPre D ca ad lnC K.2 L aS vS F B sz)) (Q_SoundFile_takeWide K D ca ad L r F9 B9 (zA L sz)) 0 0 (zA L sz) := by
  refine zMet (Qc := Q_SoundFile_takeWide K D ca ad L r F9 B9) (lv := [(0, .ref (ad 8 l0 0)), (1, .int (iI l1))]) (by decide) (Nat.le_of_ble_eq_true rfl) rfl (fun A p e s m below meth c ls X hZ hS hl => ?_)
  obtain ⟨hx, hb, hr, hml, hown, hts, hlk, hK, hA, hL, hX⟩ := id X
  replace hf : (f_SoundFile_takeWide_5 K K.1 0 0 l0 l1 F B) = some (r, F9, B9) := hf
  refine lv_lconst (v := lI 0) hx hb d_10_7_0 (by decide) ?_
  refine lv_lstore_n (lv' := [(2, .long (lI 0)), (0, .ref (ad 8 l0 0)), (1, .int (iI l1))]) hx hb d_10_7_1 rfl hl (by decide) rfl (fun ls hl => ?_)
  refine lv_iconst (v := iI 0) hx hb d_10_7_2 rfl ?_
  refine lv_istore (lv' := [(4, .int (iI 0)), (2, .long (lI 0)), (0, .ref (ad 8 l0 0)), (1, .int (iI l1))]) hx hb d_10_7_3 hl (by decide) rfl (fun ls hl => ?_)
  exact b_SoundFile_takeWide_5 X hf hZ hS (lv_sub hl [0, 1, 2, 3] rfl)

noncomputable abbrev Q_SoundFile_takeBounded (K : zK) (D : va_G) (ca : Nat → ClassId) (ad : Nat → Int → Nat → Nat) (L : List Nat) (r : Int) (F : zF) (B : zB) (A : Nat → Prop) : Array Value → State → Outcome → State → Prop := va_Qi (S := Unit) (fun p _ => p = iI r) (fun _ => zPo D ca ad lnC K.2 L F B A) A
noncomputable def f_SoundFile_takeBounded_28 (K : zK) (l6 : Int) (l0 : Int) (F : zF) (B : zB) : zO := if 0 ≤ l0 ∧ l0 < K.2 8 then zbind (f_SoundFile_refuse K l0 3 l6 F B) (fun r9 F9 B9 => some (0, F9, B9)) else none
set_option maxHeartbeats 4000000 in
set_option maxRecDepth 100000 in
theorem b_SoundFile_takeBounded_28 {D : va_G} {ca : Nat → ClassId} {ad : Nat → Int → Nat → Nat} {L : List Nat} {aS vS : Nat → Nat} {A : Nat → Prop} {p : Program} {l : Launch} {e : Env} {s : State} {m : MethodId} {args : Array Value} {below : List Frame} {meth : Method} {c : Code} {K : zK} {r : Int} {F9 : zF} {B9 : zB} (X : zX D ca L aS vS A p s m args meth c prog_10_method_8_code 9 (Option.some Jvm.ClassFile.FieldType.int) "StaveHouse$SoundFile") {l6 : Int} {l0 : Int} {F : zF} {B : zB} {H : Heap} {locs : List Loc} {ls : Array Slot} (hf : f_SoundFile_takeBounded_28 K l6 l0 F B = some (r, F9, B9)) (hZ : zH D ca ad lnC K.2 L F B A H) (hS : va_S A s.heap H locs) (hl : lv_has ls 9 [(6, .int (iI l6)), (0, .ref (ad 8 l0 0))]) : W p l e ({ frames := 3, cells := 0, slots := 0, locals := 66 } : Room) s m args below meth c H locs 0 0 (MQ below (Q_SoundFile_takeBounded K D ca ad L r F9 B9 A) args s 0 0 A) (F0 m 28 ls []) := by
  obtain ⟨hx, hb, hr, hml, hown, hts, hlk, hK, hA, hL, hX⟩ := id X
  replace hf : (if 0 ≤ l0 ∧ l0 < K.2 8 then zbind (f_SoundFile_refuse K l0 3 l6 F B) (fun r9 F9 B9 => some (0, F9, B9)) else none) = some (r, F9, B9) := hf
  refine lv_aload_n hx hb d_10_8_28 rfl (lv_at hl 1 rfl) ?_
  refine lv_iconst (v := iI 3) hx hb d_10_8_29 rfl ?_
  refine lv_iload hx hb d_10_8_30 (lv_at hl 0 rfl) ?_
  obtain ⟨g8, hf⟩ := gif hf
  obtain ⟨r9, F9, B9, hc9, hf⟩ := gbind hf
  refine va_callv (va_runV (As := [.int (iI 3), .int (iI l6)]) (rest := []) ⟨hx, hb, hml, hown, hts⟩ (c_SoundFile_refuse (l := l) hc9) (cwV 2 hts (gdV k_8_53 k_8_55 ks_96 k_1_23 k_8_56) rfl rfl rfl (by decide +kernel) ⟨Nat.le_of_ble_eq_true rfl, Nat.le_of_ble_eq_true rfl⟩) (zPV X hZ hS (ci := 8) g8.1 g8.2 (r := (RX8, TX8, 15)) rfl [.int (iI 3), .int (iI l6)]) rfl rfl hl.1 rfl (lv_room (Nat.le_of_ble_eq_true rfl)) d_10_8_32 ⟨Nat.le_of_ble_eq_true rfl, Nat.le_of_ble_eq_true rfl⟩) hS (fun q _ h => zAin X hS q h) (zAin X hS) (fun u9 t9 H9 locs9 ht9 hv9 hw9 hB9 hz9 hk9 hS9 => ?_)
  have hZ9 := zBack X ht9 hB9
  refine lv_iconst (v := iI 0) hx hb d_10_8_35 rfl ?_
  cases hf
  exact W.iret hx hb hr (fun t ht hW => ⟨⟨_, (), rfl, rfl, by rw [ht]; exact hZ9, va_K.moved hW.alike hK⟩, hS9.F ht⟩) hS9.2.2 d_10_8_36 hlk

noncomputable def f_SoundFile_takeBounded (K : zK) (l0 : Int) (l1 : Int) (l2 : Int) (l4 : Int) (F : zF) (B : zB) : zO := if 0 ≤ l0 ∧ l0 < K.2 8 then zbind (f_SoundFile_takeWide K l0 l1 F B) (fun r2 F2 B2 => if r64 r2 then if r64 l2 then (if (zcmp r2 l2) < 0 then f_SoundFile_takeBounded_28 K (F 8 l0 5) l0 F2 B2 else if r64 l4 then (if (zcmp r2 l4) ≤ 0 then some (r2, F2, B2) else f_SoundFile_takeBounded_28 K (F 8 l0 5) l0 F2 B2) else none) else none else none) else none
set_option maxHeartbeats 4000000 in
set_option maxRecDepth 100000 in
theorem c_SoundFile_takeBounded {l : Launch} {D : va_G} {ca : Nat → ClassId} {ad : Nat → Int → Nat → Nat} {L : List Nat} {aS vS : Nat → Nat} {sz : Nat} {K : zK}  {l0 : Int} {l1 : Int} {l2 : Int} {l4 : Int} {F F9 : zF} {B B9 : zB} {r : Int} (hf : f_SoundFile_takeBounded K l0 l1 l2 l4 F B = some (r, F9, B9)) : Met l ({ cls := "StaveHouse$SoundFile", name := "takeBounded", desc := "(IJJ)I" } : Jvm.MethodName) (Cond.code ({ cls := "StaveHouse$SoundFile", name := "takeBounded", desc := "(IJJ)I" } : Jvm.MethodName) prog_10_method_8_code 9 (Option.some Jvm.ClassFile.FieldType.int) :: wAll) ({ frames := 3, cells := 0, slots := 0, locals := 66 } : Room) (va_Pc [.ref (ad 8 l0 0), .int (iI l1), .long (lI l2), .long (lI l4)] (zPre D ca ad lnC K.2 L aS vS F B sz)) (Q_SoundFile_takeBounded K D ca ad L r F9 B9 (zA L sz)) 0 0 (zA L sz) := by
  refine zMet (Qc := Q_SoundFile_takeBounded K D ca ad L r F9 B9) (lv := [(0, .ref (ad 8 l0 0)), (1, .int (iI l1)), (2, .long (lI l2)), (4, .long (lI l4))]) (by decide) (Nat.le_of_ble_eq_true rfl) rfl (fun A p e s m below meth c ls X hZ hS hl => ?_)
  obtain ⟨hx, hb, hr, hml, hown, hts, hlk, hK, hA, hL, hX⟩ := id X
  replace hf : (if 0 ≤ l0 ∧ l0 < K.2 8 then zbind (f_SoundFile_takeWide K l0 l1 F B) (fun r2 F2 B2 => if r64 r2 then if r64 l2 then (if (zcmp r2 l2) < 0 then f_SoundFile_takeBounded_28 K (F 8 l0 5) l0 F2 B2 else if r64 l4 then (if (zcmp r2 l4) ≤ 0 then some (r2, F2, B2) else f_SoundFile_takeBounded_28 K (F 8 l0 5) l0 F2 B2) else none) else none else none) else none) = some (r, F9, B9) := hf
  refine lv_aload_n hx hb d_10_8_0 rfl (lv_at hl 0 rfl) ?_
  obtain ⟨g1, hf⟩ := gif hf
  refine zget (ci := 8) (C := RX8) (T := TX8) (v := .int (iI (F 8 l0 5))) (k := 5) hx hb hts inW_8 hown hK hZ g1.1 g1.2 rfl (by decide) k_7_229 rfl d_10_8_1 ?_
  refine lv_istore (lv' := [(6, .int (iI (F 8 l0 5))), (0, .ref (ad 8 l0 0)), (1, .int (iI l1)), (2, .long (lI l2)), (4, .long (lI l4))]) hx hb d_10_8_4 hl (by decide) rfl (fun ls hl => ?_)
  refine lv_aload_n hx hb d_10_8_6 rfl (lv_at hl 1 rfl) ?_
  refine lv_iload_n hx hb d_10_8_7 rfl (lv_at hl 2 rfl) ?_
  obtain ⟨r2, F2, B2, hc2, hf⟩ := gbind hf
  refine va_calll (va_runV (As := [.int (iI l1)]) (rest := []) ⟨hx, hb, hml, hown, hts⟩ (c_SoundFile_takeWide (l := l) hc2) (cwV 1 hts (gdV k_8_58 k_8_60 ks_97 k_1_23 k_8_61) rfl rfl rfl (by decide +kernel) ⟨Nat.le_of_ble_eq_true rfl, Nat.le_of_ble_eq_true rfl⟩) (zPV X hZ hS (ci := 8) g1.1 g1.2 (r := (RX8, TX8, 15)) rfl [.int (iI l1)]) rfl rfl hl.1 rfl (lv_room (Nat.le_of_ble_eq_true rfl)) d_10_8_8 ⟨Nat.le_of_ble_eq_true rfl, Nat.le_of_ble_eq_true rfl⟩) hS (fun q _ h => zAin X hS q h) (zAin X hS) (fun p2 u2 t2 H2 locs2 ht2 hv2 hw2 hB2 hz2 hk2 hS2 => ?_)
  have hZ2 := zBack X ht2 hB2
  subst hw2
  refine lv_lstore (lv' := [(7, .long (lI r2)), (6, .int (iI (F 8 l0 5))), (0, .ref (ad 8 l0 0)), (1, .int (iI l1)), (2, .long (lI l2)), (4, .long (lI l4))]) hx hb d_10_8_11 hl (by decide) rfl (fun ls hl => ?_)
  refine lv_lload hx hb d_10_8_13 (lv_at hl 0 rfl) ?_
  refine lv_lload_n hx hb d_10_8_15 rfl (lv_at hl 4 rfl) ?_
  obtain ⟨g3, hf⟩ := gif hf
  obtain ⟨g4, hf⟩ := gif hf
  refine zcmp_r hx hb g3 g4 d_10_8_16 ?_
  refine z0lt (tgt := 28) hx hb zcmp_32 d_10_8_17 (by decide) (fun h5 => ?_) (fun h5 => ?_)
  · replace hf := gpos hf h5
    exact b_SoundFile_takeBounded_28 X hf hZ2 hS2 (lv_sub hl [1, 2] rfl)
  · replace hf := gneg hf h5
    refine lv_lload hx hb d_10_8_20 (lv_at hl 0 rfl) ?_
    refine lv_lload hx hb d_10_8_22 (lv_at hl 5 rfl) ?_
    obtain ⟨g6, hf⟩ := gif hf
    refine zcmp_r hx hb g3 g6 d_10_8_24 ?_
    refine z0le (tgt := 37) hx hb zcmp_32 d_10_8_25 (by decide) (fun h7 => ?_) (fun h7 => ?_)
    · replace hf := gpos hf h7
      refine lv_lload hx hb d_10_8_37 (lv_at hl 0 rfl) ?_
      refine zl2iw hx hb d_10_8_39 ?_
      cases hf
      exact W.iret hx hb hr (fun t ht hW => ⟨⟨_, (), rfl, rfl, by rw [ht]; exact hZ2, va_K.moved hW.alike hK⟩, hS2.F ht⟩) hS2.2.2 d_10_8_40 hlk
    · replace hf := gneg hf h7
      exact b_SoundFile_takeBounded_28 X hf hZ2 hS2 (lv_sub hl [1, 2] rfl)

noncomputable abbrev Q_SoundFile_takeDelta (K : zK) (D : va_G) (ca : Nat → ClassId) (ad : Nat → Int → Nat → Nat) (L : List Nat) (r : Int) (F : zF) (B : zB) (A : Nat → Prop) : Array Value → State → Outcome → State → Prop := va_Qi (S := Unit) (fun p _ => p = iI r) (fun _ => zPo D ca ad lnC K.2 L F B A) A
noncomputable def f_SoundFile_takeDelta_4 (K : zK) : Nat → Int → Int → Int → zF → zB → zO
  | 0, _, _, _, _, _ => none
  | n + 1, l2, l1, l0, F, B => if r32 l2 then (if 4 ≤ l2 then if 0 ≤ l0 ∧ l0 < K.2 8 then zbind (f_SoundFile_refuse K l0 1 ((F 8 l0 5) - 1) F B) (fun r4 F4 B4 => some (0, F4, B4)) else none else if 0 ≤ l0 ∧ l0 < K.2 8 then zbind (f_SoundFile_take K l0 F B) (fun r6 F6 B6 => if r32 r6 then (if 128 ≤ r6 then f_SoundFile_takeDelta_4 K n (l2 + 1) ((l1 * 128) + (zrm r6 128)) l0 F6 B6 else some ((l1 * 128) + (zrm r6 128), F6, B6)) else none) else none) else none
set_option maxHeartbeats 4000000 in
set_option maxRecDepth 100000 in
theorem b_SoundFile_takeDelta_4 {D : va_G} {ca : Nat → ClassId} {ad : Nat → Int → Nat → Nat} {L : List Nat} {aS vS : Nat → Nat} {A : Nat → Prop} {p : Program} {l : Launch} {e : Env} {s : State} {m : MethodId} {args : Array Value} {below : List Frame} {meth : Method} {c : Code} {K : zK} {r : Int} {F9 : zF} {B9 : zB} (X : zX D ca L aS vS A p s m args meth c prog_10_method_9_code 4 (Option.some Jvm.ClassFile.FieldType.int) "StaveHouse$SoundFile") : ∀ {n : Nat} {l2 : Int} {l1 : Int} {l0 : Int} {F : zF} {B : zB} {H : Heap} {locs : List Loc} {ls : Array Slot}, f_SoundFile_takeDelta_4 K n l2 l1 l0 F B = some (r, F9, B9) → zH D ca ad lnC K.2 L F B A H → va_S A s.heap H locs → lv_has ls 4 [(2, .int (iI l2)), (1, .int (iI l1)), (0, .ref (ad 8 l0 0))] → W p l e ({ frames := 2, cells := 0, slots := 0, locals := 42 } : Room) s m args below meth c H locs 0 0 (MQ below (Q_SoundFile_takeDelta K D ca ad L r F9 B9 A) args s 0 0 A) (F0 m 4 ls []) := by
  obtain ⟨hx, hb, hr, hml, hown, hts, hlk, hK, hA, hL, hX⟩ := id X
  intro n
  induction n with
  | zero =>
    intros
    rename_i hf _ _ _
    cases hf
  | succ n ih =>
    intro l2 l1 l0 F B H locs ls hf hZ hS hl
    replace hf : (if r32 l2 then (if 4 ≤ l2 then if 0 ≤ l0 ∧ l0 < K.2 8 then zbind (f_SoundFile_refuse K l0 1 ((F 8 l0 5) - 1) F B) (fun r4 F4 B4 => some (0, F4, B4)) else none else if 0 ≤ l0 ∧ l0 < K.2 8 then zbind (f_SoundFile_take K l0 F B) (fun r6 F6 B6 => if r32 r6 then (if 128 ≤ r6 then f_SoundFile_takeDelta_4 K n (l2 + 1) ((l1 * 128) + (zrm r6 128)) l0 F6 B6 else some ((l1 * 128) + (zrm r6 128), F6, B6)) else none) else none) else none) = some (r, F9, B9) := hf
    refine lv_iload_n hx hb d_10_9_4 rfl (lv_at hl 0 rfl) ?_
    refine lv_iconst (v := iI 4) hx hb d_10_9_5 rfl ?_
    obtain ⟨g1, hf⟩ := gif hf
    refine zge (tgt := 41) hx hb g1 (by decide) d_10_9_6 (by decide) (fun h2 => ?_) (fun h2 => ?_)
    · replace hf := gpos hf h2
      refine lv_aload_n hx hb d_10_9_41 rfl (lv_at hl 2 rfl) ?_
      refine lv_iconst (v := iI 1) hx hb d_10_9_42 rfl ?_
      refine lv_aload_n hx hb d_10_9_43 rfl (lv_at hl 2 rfl) ?_
      obtain ⟨g3, hf⟩ := gif hf
      refine zget (ci := 8) (C := RX8) (T := TX8) (v := .int (iI (F 8 l0 5))) (k := 5) hx hb hts inW_8 hown hK hZ g3.1 g3.2 rfl (by decide) k_7_229 rfl d_10_9_44 ?_
      refine lv_iconst (v := iI 1) hx hb d_10_9_47 rfl ?_
      refine zsub hx hb d_10_9_48 ?_
      obtain ⟨r4, F4, B4, hc4, hf⟩ := gbind hf
      refine va_callv (va_runV (As := [.int (iI 1), .int (iI ((F 8 l0 5) - 1))]) (rest := []) ⟨hx, hb, hml, hown, hts⟩ (c_SoundFile_refuse (l := l) hc4) (cwV 2 hts (gdV k_8_53 k_8_55 ks_96 k_1_23 k_8_56) rfl rfl rfl (by decide +kernel) ⟨Nat.le_of_ble_eq_true rfl, Nat.le_of_ble_eq_true rfl⟩) (zPV X hZ hS (ci := 8) g3.1 g3.2 (r := (RX8, TX8, 15)) rfl [.int (iI 1), .int (iI ((F 8 l0 5) - 1))]) rfl rfl hl.1 rfl (lv_room (Nat.le_of_ble_eq_true rfl)) d_10_9_49 ⟨Nat.le_of_ble_eq_true rfl, Nat.le_of_ble_eq_true rfl⟩) hS (fun q _ h => zAin X hS q h) (zAin X hS) (fun u4 t4 H4 locs4 ht4 hv4 hw4 hB4 hz4 hk4 hS4 => ?_)
      have hZ4 := zBack X ht4 hB4
      refine lv_iconst (v := iI 0) hx hb d_10_9_52 rfl ?_
      cases hf
      exact W.iret hx hb hr (fun t ht hW => ⟨⟨_, (), rfl, rfl, by rw [ht]; exact hZ4, va_K.moved hW.alike hK⟩, hS4.F ht⟩) hS4.2.2 d_10_9_53 hlk
    · replace hf := gneg hf h2
      refine lv_aload_n hx hb d_10_9_9 rfl (lv_at hl 2 rfl) ?_
      obtain ⟨g5, hf⟩ := gif hf
      obtain ⟨r6, F6, B6, hc6, hf⟩ := gbind hf
      refine va_calli (va_runV (As := []) (rest := []) ⟨hx, hb, hml, hown, hts⟩ (c_SoundFile_take (l := l) hc6) (cwV 0 hts (gdV k_8_49 k_8_51 ks_95 k_1_23 k_8_52) rfl rfl rfl (by decide +kernel) ⟨Nat.le_of_ble_eq_true rfl, Nat.le_of_ble_eq_true rfl⟩) (zPV X hZ hS (ci := 8) g5.1 g5.2 (r := (RX8, TX8, 15)) rfl []) rfl rfl hl.1 rfl (lv_room (Nat.le_of_ble_eq_true rfl)) d_10_9_10 ⟨Nat.le_of_ble_eq_true rfl, Nat.le_of_ble_eq_true rfl⟩) hS (fun q _ h => zAin X hS q h) (zAin X hS) (fun p6 u6 t6 H6 locs6 ht6 hv6 hw6 hB6 hz6 hk6 hS6 => ?_)
      have hZ6 := zBack X ht6 hB6
      subst hw6
      refine lv_istore_n (lv' := [(3, .int (iI r6)), (2, .int (iI l2)), (1, .int (iI l1)), (0, .ref (ad 8 l0 0))]) hx hb d_10_9_13 rfl hl (by decide) rfl (fun ls hl => ?_)
      refine lv_iload_n hx hb d_10_9_14 rfl (lv_at hl 2 rfl) ?_
      refine lv_sipush (v := iI 128) hx hb d_10_9_15 (by decide) ?_
      refine zmul hx hb d_10_9_18 ?_
      refine lv_iload_n hx hb d_10_9_19 rfl (lv_at hl 0 rfl) ?_
      refine lv_sipush (v := iI 128) hx hb d_10_9_20 (by decide) ?_
      refine zrm_r hx hb (by decide) d_10_9_23 ?_
      refine zadd hx hb d_10_9_24 ?_
      refine lv_istore_n (lv' := [(1, .int (iI ((l1 * 128) + (zrm r6 128)))), (3, .int (iI r6)), (2, .int (iI l2)), (0, .ref (ad 8 l0 0))]) hx hb d_10_9_25 rfl hl (by decide) rfl (fun ls hl => ?_)
      refine lv_iload_n hx hb d_10_9_26 rfl (lv_at hl 1 rfl) ?_
      refine lv_sipush (v := iI 128) hx hb d_10_9_27 (by decide) ?_
      obtain ⟨g7, hf⟩ := gif hf
      refine zge (tgt := 35) hx hb g7 (by decide) d_10_9_30 (by decide) (fun h8 => ?_) (fun h8 => ?_)
      · replace hf := gpos hf h8
        refine lv_iinc (v := iI (l2 + 1)) (lv' := [(2, .int (iI (l2 + 1))), (1, .int (iI ((l1 * 128) + (zrm r6 128)))), (3, .int (iI r6)), (0, .ref (ad 8 l0 0))]) hx hb d_10_9_35 hl (k := 2) rfl (iI_add _ 1) (by decide) rfl (fun ls hl => ?_)
        refine lv_goto (tgt := 4) hx hb d_10_9_38 (by decide) ?_
        exact ih hf hZ6 hS6 (lv_sub hl [0, 1, 3] rfl)
      · replace hf := gneg hf h8
        refine lv_iload_n hx hb d_10_9_33 rfl (lv_at hl 0 rfl) ?_
        cases hf
        exact W.iret hx hb hr (fun t ht hW => ⟨⟨_, (), rfl, rfl, by rw [ht]; exact hZ6, va_K.moved hW.alike hK⟩, hS6.F ht⟩) hS6.2.2 d_10_9_34 hlk

noncomputable def f_SoundFile_takeDelta (K : zK) (l0 : Int) (F : zF) (B : zB) : zO := f_SoundFile_takeDelta_4 K K.1 0 0 l0 F B
set_option maxHeartbeats 4000000 in
set_option maxRecDepth 100000 in
theorem c_SoundFile_takeDelta {l : Launch} {D : va_G} {ca : Nat → ClassId} {ad : Nat → Int → Nat → Nat} {L : List Nat} {aS vS : Nat → Nat} {sz : Nat} {K : zK}  {l0 : Int} {F F9 : zF} {B B9 : zB} {r : Int} (hf : f_SoundFile_takeDelta K l0 F B = some (r, F9, B9)) : Met l ({ cls := "StaveHouse$SoundFile", name := "takeDelta", desc := "()I" } : Jvm.MethodName) (Cond.code ({ cls := "StaveHouse$SoundFile", name := "takeDelta", desc := "()I" } : Jvm.MethodName) prog_10_method_9_code 4 (Option.some Jvm.ClassFile.FieldType.int) :: wAll) ({ frames := 2, cells := 0, slots := 0, locals := 42 } : Room) (va_Pc [.ref (ad 8 l0 0)] (zPre D ca ad lnC K.2 L aS vS F B sz)) (Q_SoundFile_takeDelta K D ca ad L r F9 B9 (zA L sz)) 0 0 (zA L sz) := by
  refine zMet (Qc := Q_SoundFile_takeDelta K D ca ad L r F9 B9) (lv := [(0, .ref (ad 8 l0 0))]) (by decide) (Nat.le_of_ble_eq_true rfl) rfl (fun A p e s m below meth c ls X hZ hS hl => ?_)
  obtain ⟨hx, hb, hr, hml, hown, hts, hlk, hK, hA, hL, hX⟩ := id X
  replace hf : (f_SoundFile_takeDelta_4 K K.1 0 0 l0 F B) = some (r, F9, B9) := hf
  refine lv_iconst (v := iI 0) hx hb d_10_9_0 rfl ?_
  refine lv_istore_n (lv' := [(1, .int (iI 0)), (0, .ref (ad 8 l0 0))]) hx hb d_10_9_1 rfl hl (by decide) rfl (fun ls hl => ?_)
  refine lv_iconst (v := iI 0) hx hb d_10_9_2 rfl ?_
  refine lv_istore_n (lv' := [(2, .int (iI 0)), (1, .int (iI 0)), (0, .ref (ad 8 l0 0))]) hx hb d_10_9_3 rfl hl (by decide) rfl (fun ls hl => ?_)
  exact b_SoundFile_takeDelta_4 X hf hZ hS (lv_sub hl [0, 1, 2] rfl)

noncomputable abbrev Q_SoundFile_takeData (K : zK) (D : va_G) (ca : Nat → ClassId) (ad : Nat → Int → Nat → Nat) (L : List Nat) (r : Int) (F : zF) (B : zB) (A : Nat → Prop) : Array Value → State → Outcome → State → Prop := va_Qi (S := Unit) (fun p _ => p = iI r) (fun _ => zPo D ca ad lnC K.2 L F B A) A
noncomputable def f_SoundFile_takeData_23 (K : zK) (l1 : Int) (F : zF) (B : zB) : zO := some (l1, F, B)
set_option maxHeartbeats 4000000 in
set_option maxRecDepth 100000 in
theorem b_SoundFile_takeData_23 {D : va_G} {ca : Nat → ClassId} {ad : Nat → Int → Nat → Nat} {L : List Nat} {aS vS : Nat → Nat} {A : Nat → Prop} {p : Program} {l : Launch} {e : Env} {s : State} {m : MethodId} {args : Array Value} {below : List Frame} {meth : Method} {c : Code} {K : zK} {r : Int} {F9 : zF} {B9 : zB} (X : zX D ca L aS vS A p s m args meth c prog_10_method_10_code 2 (Option.some Jvm.ClassFile.FieldType.int) "StaveHouse$SoundFile") {l1 : Int} {F : zF} {B : zB} {H : Heap} {locs : List Loc} {ls : Array Slot} (hf : f_SoundFile_takeData_23 K l1 F B = some (r, F9, B9)) (hZ : zH D ca ad lnC K.2 L F B A H) (hS : va_S A s.heap H locs) (hl : lv_has ls 2 [(1, .int (iI l1))]) : W p l e ({ frames := 2, cells := 0, slots := 0, locals := 42 } : Room) s m args below meth c H locs 0 0 (MQ below (Q_SoundFile_takeData K D ca ad L r F9 B9 A) args s 0 0 A) (F0 m 23 ls []) := by
  obtain ⟨hx, hb, hr, hml, hown, hts, hlk, hK, hA, hL, hX⟩ := id X
  replace hf : (some (l1, F, B)) = some (r, F9, B9) := hf
  refine lv_iload_n hx hb d_10_10_23 rfl (lv_at hl 0 rfl) ?_
  cases hf
  exact W.iret hx hb hr (fun t ht hW => ⟨⟨_, (), rfl, rfl, by rw [ht]; exact hZ, va_K.moved hW.alike hK⟩, hS.F ht⟩) hS.2.2 d_10_10_24 hlk

noncomputable def f_SoundFile_takeData (K : zK) (l0 : Int) (F : zF) (B : zB) : zO := if 0 ≤ l0 ∧ l0 < K.2 8 then zbind (f_SoundFile_take K l0 F B) (fun r2 F2 B2 => if r32 r2 then (if r2 < 128 then f_SoundFile_takeData_23 K r2 F2 B2 else zbind (f_SoundFile_refuse K l0 1 ((F2 8 l0 5) - 1) F2 B2) (fun r5 F5 B5 => f_SoundFile_takeData_23 K r2 F5 B5)) else none) else none
set_option maxHeartbeats 4000000 in
set_option maxRecDepth 100000 in
theorem c_SoundFile_takeData {l : Launch} {D : va_G} {ca : Nat → ClassId} {ad : Nat → Int → Nat → Nat} {L : List Nat} {aS vS : Nat → Nat} {sz : Nat} {K : zK}  {l0 : Int} {F F9 : zF} {B B9 : zB} {r : Int} (hf : f_SoundFile_takeData K l0 F B = some (r, F9, B9)) : Met l ({ cls := "StaveHouse$SoundFile", name := "takeData", desc := "()I" } : Jvm.MethodName) (Cond.code ({ cls := "StaveHouse$SoundFile", name := "takeData", desc := "()I" } : Jvm.MethodName) prog_10_method_10_code 2 (Option.some Jvm.ClassFile.FieldType.int) :: wAll) ({ frames := 2, cells := 0, slots := 0, locals := 42 } : Room) (va_Pc [.ref (ad 8 l0 0)] (zPre D ca ad lnC K.2 L aS vS F B sz)) (Q_SoundFile_takeData K D ca ad L r F9 B9 (zA L sz)) 0 0 (zA L sz) := by
  refine zMet (Qc := Q_SoundFile_takeData K D ca ad L r F9 B9) (lv := [(0, .ref (ad 8 l0 0))]) (by decide) (Nat.le_of_ble_eq_true rfl) rfl (fun A p e s m below meth c ls X hZ hS hl => ?_)
  obtain ⟨hx, hb, hr, hml, hown, hts, hlk, hK, hA, hL, hX⟩ := id X
  replace hf : (if 0 ≤ l0 ∧ l0 < K.2 8 then zbind (f_SoundFile_take K l0 F B) (fun r2 F2 B2 => if r32 r2 then (if r2 < 128 then f_SoundFile_takeData_23 K r2 F2 B2 else zbind (f_SoundFile_refuse K l0 1 ((F2 8 l0 5) - 1) F2 B2) (fun r5 F5 B5 => f_SoundFile_takeData_23 K r2 F5 B5)) else none) else none) = some (r, F9, B9) := hf
  refine lv_aload_n hx hb d_10_10_0 rfl (lv_at hl 0 rfl) ?_
  obtain ⟨g1, hf⟩ := gif hf
  obtain ⟨r2, F2, B2, hc2, hf⟩ := gbind hf
  refine va_calli (va_runV (As := []) (rest := []) ⟨hx, hb, hml, hown, hts⟩ (c_SoundFile_take (l := l) hc2) (cwV 0 hts (gdV k_8_49 k_8_51 ks_95 k_1_23 k_8_52) rfl rfl rfl (by decide +kernel) ⟨Nat.le_of_ble_eq_true rfl, Nat.le_of_ble_eq_true rfl⟩) (zPV X hZ hS (ci := 8) g1.1 g1.2 (r := (RX8, TX8, 15)) rfl []) rfl rfl hl.1 rfl (lv_room (Nat.le_of_ble_eq_true rfl)) d_10_10_1 ⟨Nat.le_of_ble_eq_true rfl, Nat.le_of_ble_eq_true rfl⟩) hS (fun q _ h => zAin X hS q h) (zAin X hS) (fun p2 u2 t2 H2 locs2 ht2 hv2 hw2 hB2 hz2 hk2 hS2 => ?_)
  have hZ2 := zBack X ht2 hB2
  subst hw2
  refine lv_istore_n (lv' := [(1, .int (iI r2)), (0, .ref (ad 8 l0 0))]) hx hb d_10_10_4 rfl hl (by decide) rfl (fun ls hl => ?_)
  refine lv_iload_n hx hb d_10_10_5 rfl (lv_at hl 0 rfl) ?_
  refine lv_sipush (v := iI 128) hx hb d_10_10_6 (by decide) ?_
  obtain ⟨g3, hf⟩ := gif hf
  refine zlt (tgt := 23) hx hb g3 (by decide) d_10_10_9 (by decide) (fun h4 => ?_) (fun h4 => ?_)
  · replace hf := gpos hf h4
    exact b_SoundFile_takeData_23 X hf hZ2 hS2 (lv_sub hl [0] rfl)
  · replace hf := gneg hf h4
    refine lv_aload_n hx hb d_10_10_12 rfl (lv_at hl 1 rfl) ?_
    refine lv_iconst (v := iI 1) hx hb d_10_10_13 rfl ?_
    refine lv_aload_n hx hb d_10_10_14 rfl (lv_at hl 1 rfl) ?_
    refine zget (ci := 8) (C := RX8) (T := TX8) (v := .int (iI (F2 8 l0 5))) (k := 5) hx hb hts inW_8 hown hK hZ2 g1.1 g1.2 rfl (by decide) k_7_229 rfl d_10_10_15 ?_
    refine lv_iconst (v := iI 1) hx hb d_10_10_18 rfl ?_
    refine zsub hx hb d_10_10_19 ?_
    obtain ⟨r5, F5, B5, hc5, hf⟩ := gbind hf
    refine va_callv (va_runV (As := [.int (iI 1), .int (iI ((F2 8 l0 5) - 1))]) (rest := []) ⟨hx, hb, hml, hown, hts⟩ (c_SoundFile_refuse (l := l) hc5) (cwV 2 hts (gdV k_8_53 k_8_55 ks_96 k_1_23 k_8_56) rfl rfl rfl (by decide +kernel) ⟨Nat.le_of_ble_eq_true rfl, Nat.le_of_ble_eq_true rfl⟩) (zPV X hZ2 hS2 (ci := 8) g1.1 g1.2 (r := (RX8, TX8, 15)) rfl [.int (iI 1), .int (iI ((F2 8 l0 5) - 1))]) rfl rfl hl.1 rfl (lv_room (Nat.le_of_ble_eq_true rfl)) d_10_10_20 ⟨Nat.le_of_ble_eq_true rfl, Nat.le_of_ble_eq_true rfl⟩) hS2 (fun q _ h => zAin X hS2 q h) (zAin X hS2) (fun u5 t5 H5 locs5 ht5 hv5 hw5 hB5 hz5 hk5 hS5 => ?_)
    have hZ5 := zBack X ht5 hB5
    exact b_SoundFile_takeData_23 X hf hZ5 hS5 (lv_sub hl [0] rfl)

noncomputable abbrev Q_SoundFile_loadMessage (K : zK) (D : va_G) (ca : Nat → ClassId) (ad : Nat → Int → Nat → Nat) (L : List Nat) (r : Int) (F : zF) (B : zB) (A : Nat → Prop) : Array Value → State → Outcome → State → Prop := va_Qv (S := Unit) (fun _ => True) (fun _ => zPo D ca ad lnC K.2 L F B A) A
noncomputable def f_SoundFile_loadMessage_120 (K : zK)  (F : zF) (B : zB) : zO := some (0, F, B)
set_option maxHeartbeats 4000000 in
set_option maxRecDepth 100000 in
theorem b_SoundFile_loadMessage_120 {D : va_G} {ca : Nat → ClassId} {ad : Nat → Int → Nat → Nat} {L : List Nat} {aS vS : Nat → Nat} {A : Nat → Prop} {p : Program} {l : Launch} {e : Env} {s : State} {m : MethodId} {args : Array Value} {below : List Frame} {meth : Method} {c : Code} {K : zK} {r : Int} {F9 : zF} {B9 : zB} (X : zX D ca L aS vS A p s m args meth c prog_10_method_15_code 6 (Option.none : Option Jvm.ClassFile.FieldType) "StaveHouse$SoundFile")  {F : zF} {B : zB} {H : Heap} {locs : List Loc} {ls : Array Slot} (hf : f_SoundFile_loadMessage_120 K  F B = some (r, F9, B9)) (hZ : zH D ca ad lnC K.2 L F B A H) (hS : va_S A s.heap H locs) (hl : lv_has ls 6 []) : W p l e ({ frames := 3, cells := 0, slots := 0, locals := 63 } : Room) s m args below meth c H locs 0 0 (MQ below (Q_SoundFile_loadMessage K D ca ad L r F9 B9 A) args s 0 0 A) (F0 m 120 ls []) := by
  obtain ⟨hx, hb, hr, hml, hown, hts, hlk, hK, hA, hL, hX⟩ := id X
  replace hf : (some (0, F, B)) = some (r, F9, B9) := hf
  cases hf
  exact W.vret hx hb hr (fun t ht hW => ⟨⟨(), rfl, trivial, by rw [ht]; exact hZ, va_K.moved hW.alike hK⟩, hS.F ht⟩) hS.2.2 d_10_15_120 hlk

noncomputable def f_SoundFile_loadMessage_114 (K : zK) (l0 : Int) (l1 : Int) (l3 : Int) (F : zF) (B : zB) : zO := if 0 ≤ l0 ∧ l0 < K.2 8 then zbind (f_SoundFile_endSound K l0 l1 l3 F B) (fun r25 F25 B25 => f_SoundFile_loadMessage_120 K F25 B25) else none
set_option maxHeartbeats 4000000 in
set_option maxRecDepth 100000 in
theorem b_SoundFile_loadMessage_114 {D : va_G} {ca : Nat → ClassId} {ad : Nat → Int → Nat → Nat} {L : List Nat} {aS vS : Nat → Nat} {A : Nat → Prop} {p : Program} {l : Launch} {e : Env} {s : State} {m : MethodId} {args : Array Value} {below : List Frame} {meth : Method} {c : Code} {K : zK} {r : Int} {F9 : zF} {B9 : zB} (X : zX D ca L aS vS A p s m args meth c prog_10_method_15_code 6 (Option.none : Option Jvm.ClassFile.FieldType) "StaveHouse$SoundFile") {l0 : Int} {l1 : Int} {l3 : Int} {F : zF} {B : zB} {H : Heap} {locs : List Loc} {ls : Array Slot} (hf : f_SoundFile_loadMessage_114 K l0 l1 l3 F B = some (r, F9, B9)) (hZ : zH D ca ad lnC K.2 L F B A H) (hS : va_S A s.heap H locs) (hl : lv_has ls 6 [(0, .ref (ad 8 l0 0)), (1, .int (iI l1)), (3, .int (iI l3))]) : W p l e ({ frames := 3, cells := 0, slots := 0, locals := 63 } : Room) s m args below meth c H locs 0 0 (MQ below (Q_SoundFile_loadMessage K D ca ad L r F9 B9 A) args s 0 0 A) (F0 m 114 ls []) := by
  obtain ⟨hx, hb, hr, hml, hown, hts, hlk, hK, hA, hL, hX⟩ := id X
  replace hf : (if 0 ≤ l0 ∧ l0 < K.2 8 then zbind (f_SoundFile_endSound K l0 l1 l3 F B) (fun r25 F25 B25 => f_SoundFile_loadMessage_120 K F25 B25) else none) = some (r, F9, B9) := hf
  refine lv_aload_n hx hb d_10_15_114 rfl (lv_at hl 0 rfl) ?_
  refine lv_iload_n hx hb d_10_15_115 rfl (lv_at hl 1 rfl) ?_
  refine lv_iload_n hx hb d_10_15_116 rfl (lv_at hl 2 rfl) ?_
  obtain ⟨g24, hf⟩ := gif hf
  obtain ⟨r25, F25, B25, hc25, hf⟩ := gbind hf
  refine va_callv (va_runV (As := [.int (iI l1), .int (iI l3)]) (rest := []) ⟨hx, hb, hml, hown, hts⟩ (c_SoundFile_endSound (l := l) hc25) (cwV 2 hts (gdV k_8_122 k_8_124 ks_110 k_1_23 k_8_125) rfl rfl rfl (by decide +kernel) ⟨Nat.le_of_ble_eq_true rfl, Nat.le_of_ble_eq_true rfl⟩) (zPV X hZ hS (ci := 8) g24.1 g24.2 (r := (RX8, TX8, 15)) rfl [.int (iI l1), .int (iI l3)]) rfl rfl hl.1 rfl (lv_room (Nat.le_of_ble_eq_true rfl)) d_10_15_117 ⟨Nat.le_of_ble_eq_true rfl, Nat.le_of_ble_eq_true rfl⟩) hS (fun q _ h => zAin X hS q h) (zAin X hS) (fun u25 t25 H25 locs25 ht25 hv25 hw25 hB25 hz25 hk25 hS25 => ?_)
  have hZ25 := zBack X ht25 hB25
  exact b_SoundFile_loadMessage_120 X hf hZ25 hS25 (lv_sub hl [] rfl)

noncomputable def f_SoundFile_loadMessage_100 (K : zK) (l4 : Int) (l0 : Int) (l1 : Int) (l3 : Int) (F : zF) (B : zB) : zO := if r32 l4 then (if l4 = 8 then f_SoundFile_loadMessage_114 K l0 l1 l3 F B else (if l4 = 9 then f_SoundFile_loadMessage_114 K l0 l1 l3 F B else f_SoundFile_loadMessage_120 K F B)) else none
set_option maxHeartbeats 4000000 in
set_option maxRecDepth 100000 in
theorem b_SoundFile_loadMessage_100 {D : va_G} {ca : Nat → ClassId} {ad : Nat → Int → Nat → Nat} {L : List Nat} {aS vS : Nat → Nat} {A : Nat → Prop} {p : Program} {l : Launch} {e : Env} {s : State} {m : MethodId} {args : Array Value} {below : List Frame} {meth : Method} {c : Code} {K : zK} {r : Int} {F9 : zF} {B9 : zB} (X : zX D ca L aS vS A p s m args meth c prog_10_method_15_code 6 (Option.none : Option Jvm.ClassFile.FieldType) "StaveHouse$SoundFile") {l4 : Int} {l0 : Int} {l1 : Int} {l3 : Int} {F : zF} {B : zB} {H : Heap} {locs : List Loc} {ls : Array Slot} (hf : f_SoundFile_loadMessage_100 K l4 l0 l1 l3 F B = some (r, F9, B9)) (hZ : zH D ca ad lnC K.2 L F B A H) (hS : va_S A s.heap H locs) (hl : lv_has ls 6 [(4, .int (iI l4)), (0, .ref (ad 8 l0 0)), (1, .int (iI l1)), (3, .int (iI l3))]) : W p l e ({ frames := 3, cells := 0, slots := 0, locals := 63 } : Room) s m args below meth c H locs 0 0 (MQ below (Q_SoundFile_loadMessage K D ca ad L r F9 B9 A) args s 0 0 A) (F0 m 100 ls []) := by
  obtain ⟨hx, hb, hr, hml, hown, hts, hlk, hK, hA, hL, hX⟩ := id X
  replace hf : (if r32 l4 then (if l4 = 8 then f_SoundFile_loadMessage_114 K l0 l1 l3 F B else (if l4 = 9 then f_SoundFile_loadMessage_114 K l0 l1 l3 F B else f_SoundFile_loadMessage_120 K F B)) else none) = some (r, F9, B9) := hf
  refine lv_iload hx hb d_10_15_100 (lv_at hl 0 rfl) ?_
  refine lv_bipush (v := iI 8) hx hb d_10_15_102 (by decide) ?_
  obtain ⟨g21, hf⟩ := gif hf
  refine zeq (tgt := 114) hx hb g21 (by decide) d_10_15_104 (by decide) (fun h22 => ?_) (fun h22 => ?_)
  · replace hf := gpos hf h22
    exact b_SoundFile_loadMessage_114 X hf hZ hS (lv_sub hl [1, 2, 3] rfl)
  · replace hf := gneg hf h22
    refine lv_iload hx hb d_10_15_107 (lv_at hl 0 rfl) ?_
    refine lv_bipush (v := iI 9) hx hb d_10_15_109 (by decide) ?_
    refine zne (tgt := 120) hx hb g21 (by decide) d_10_15_111 (by decide) (fun h23 => ?_) (fun h23 => ?_)
    · replace hf := gneg hf h23
      exact b_SoundFile_loadMessage_120 X hf hZ hS (lv_sub hl [] rfl)
    · replace hf := gpos hf h23
      exact b_SoundFile_loadMessage_114 X hf hZ hS (lv_sub hl [1, 2, 3] rfl)

noncomputable def f_SoundFile_loadMessage_62 (K : zK)  (F : zF) (B : zB) : zO := some (0, F, B)
set_option maxHeartbeats 4000000 in
set_option maxRecDepth 100000 in
theorem b_SoundFile_loadMessage_62 {D : va_G} {ca : Nat → ClassId} {ad : Nat → Int → Nat → Nat} {L : List Nat} {aS vS : Nat → Nat} {A : Nat → Prop} {p : Program} {l : Launch} {e : Env} {s : State} {m : MethodId} {args : Array Value} {below : List Frame} {meth : Method} {c : Code} {K : zK} {r : Int} {F9 : zF} {B9 : zB} (X : zX D ca L aS vS A p s m args meth c prog_10_method_15_code 6 (Option.none : Option Jvm.ClassFile.FieldType) "StaveHouse$SoundFile")  {F : zF} {B : zB} {H : Heap} {locs : List Loc} {ls : Array Slot} (hf : f_SoundFile_loadMessage_62 K  F B = some (r, F9, B9)) (hZ : zH D ca ad lnC K.2 L F B A H) (hS : va_S A s.heap H locs) (hl : lv_has ls 6 []) : W p l e ({ frames := 3, cells := 0, slots := 0, locals := 63 } : Room) s m args below meth c H locs 0 0 (MQ below (Q_SoundFile_loadMessage K D ca ad L r F9 B9 A) args s 0 0 A) (F0 m 62 ls []) := by
  obtain ⟨hx, hb, hr, hml, hown, hts, hlk, hK, hA, hL, hX⟩ := id X
  replace hf : (some (0, F, B)) = some (r, F9, B9) := hf
  cases hf
  exact W.vret hx hb hr (fun t ht hW => ⟨⟨(), rfl, trivial, by rw [ht]; exact hZ, va_K.moved hW.alike hK⟩, hS.F ht⟩) hS.2.2 d_10_15_62 hlk

noncomputable def f_SoundFile_loadMessage_23 (K : zK) (l4 : Int) (l0 : Int) (l1 : Int) (F : zF) (B : zB) : zO := if 0 ≤ l0 ∧ l0 < K.2 8 then if r32 (F 8 l0 7) then (if (F 8 l0 7) = 0 then if r32 l4 then (if l4 = 12 then if 0 ≤ (F 8 l0 8) ∧ (F 8 l0 8) < 8 then if r32 (B 8 l0 3 (F 8 l0 8)) then (if (B 8 l0 3 (F 8 l0 8)) = (-1) then f_SoundFile_loadMessage_62 K F (zup4 B 8 l0 3 (F 8 l0 8) (zrm l1 4)) else f_SoundFile_loadMessage_62 K F B) else none else none else f_SoundFile_loadMessage_62 K F B) else none else f_SoundFile_loadMessage_62 K F B) else none else none
