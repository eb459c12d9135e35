theorem d_9_4_19 : decode prog_9_method_4_code 19 = .ok (.lmul, 1) := D_105 W_prog_9_method_4_code_0 19 rfl rfl
theorem d_9_4_20 : decode prog_9_method_4_code 20 = .ok (.aload_n 0, 1) := D_42 W_prog_9_method_4_code_0 20 rfl rfl
theorem d_9_4_21 : decode prog_9_method_4_code 21 = .ok (.getfield 36, 3) := D_180 W_prog_9_method_4_code_0 21 rfl rfl rfl
theorem d_9_4_24 : decode prog_9_method_4_code 24 = .ok (.i2l, 1) := D_133 W_prog_9_method_4_code_0 24 rfl rfl
theorem d_9_4_25 : decode prog_9_method_4_code 25 = .ok (.lmul, 1) := D_105 W_prog_9_method_4_code_0 25 rfl rfl
theorem d_9_4_26 : decode prog_9_method_4_code 26 = .ok (.ldc2_w 87, 3) := D_20 W_prog_9_method_4_code_0 26 rfl rfl rfl
theorem d_9_4_29 : decode prog_9_method_4_code 29 = .ok (.lload_n 3, 1) := D_33 W_prog_9_method_4_code_0 29 rfl rfl
theorem d_9_4_30 : decode prog_9_method_4_code 30 = .ok (.lmul, 1) := D_105 W_prog_9_method_4_code_0 30 rfl rfl
theorem d_9_4_31 : decode prog_9_method_4_code 31 = .ok (.ladd, 1) := D_97 W_prog_9_method_4_code_0 31 rfl rfl
theorem W_prog_9_method_4_code_32 : chW prog_9_method_4_code 32 [20, 0, 89, 33, 105, 109, 173] := chW_of (by decide +kernel)
theorem d_9_4_32 : decode prog_9_method_4_code 32 = .ok (.ldc2_w 89, 3) := D_20 W_prog_9_method_4_code_32 0 rfl rfl rfl
theorem d_9_4_35 : decode prog_9_method_4_code 35 = .ok (.lload_n 3, 1) := D_33 W_prog_9_method_4_code_32 3 rfl rfl
theorem d_9_4_36 : decode prog_9_method_4_code 36 = .ok (.lmul, 1) := D_105 W_prog_9_method_4_code_32 4 rfl rfl
theorem d_9_4_37 : decode prog_9_method_4_code 37 = .ok (.ldiv, 1) := D_109 W_prog_9_method_4_code_32 5 rfl rfl
theorem d_9_4_38 : decode prog_9_method_4_code 38 = .ok (.lreturn, 1) := D_173 W_prog_9_method_4_code_32 6 rfl rfl
theorem W_prog_2_method_6_code_0 : chW prog_2_method_6_code 0 [4, 61, 3, 62, 29, 16, 9, 162, 0, 22, 27, 28, 108, 16, 10, 161, 0, 14, 28, 16, 10, 104, 61, 132, 3, 1, 167, 255, 234, 3, 62, 29, 16, 10, 162, 0] := chW_of (by decide +kernel)
theorem d_2_6_0 : decode prog_2_method_6_code 0 = .ok (.iconst 1, 1) := D_4 W_prog_2_method_6_code_0 0 rfl rfl
theorem d_2_6_1 : decode prog_2_method_6_code 1 = .ok (.istore_n 2, 1) := D_61 W_prog_2_method_6_code_0 1 rfl rfl
theorem d_2_6_2 : decode prog_2_method_6_code 2 = .ok (.iconst 0, 1) := D_3 W_prog_2_method_6_code_0 2 rfl rfl
theorem d_2_6_3 : decode prog_2_method_6_code 3 = .ok (.istore_n 3, 1) := D_62 W_prog_2_method_6_code_0 3 rfl rfl
theorem d_2_6_4 : decode prog_2_method_6_code 4 = .ok (.iload_n 3, 1) := D_29 W_prog_2_method_6_code_0 4 rfl rfl
theorem d_2_6_5 : decode prog_2_method_6_code 5 = .ok (.bipush 9, 2) := D_16 W_prog_2_method_6_code_0 5 rfl rfl rfl
theorem d_2_6_7 : decode prog_2_method_6_code 7 = .ok (.if_icmp .ge 22, 3) := D_162 W_prog_2_method_6_code_0 7 rfl rfl rfl
theorem d_2_6_10 : decode prog_2_method_6_code 10 = .ok (.iload_n 1, 1) := D_27 W_prog_2_method_6_code_0 10 rfl rfl
theorem d_2_6_11 : decode prog_2_method_6_code 11 = .ok (.iload_n 2, 1) := D_28 W_prog_2_method_6_code_0 11 rfl rfl
theorem d_2_6_12 : decode prog_2_method_6_code 12 = .ok (.idiv, 1) := D_108 W_prog_2_method_6_code_0 12 rfl rfl
theorem d_2_6_13 : decode prog_2_method_6_code 13 = .ok (.bipush 10, 2) := D_16 W_prog_2_method_6_code_0 13 rfl rfl rfl
theorem d_2_6_15 : decode prog_2_method_6_code 15 = .ok (.if_icmp .lt 14, 3) := D_161 W_prog_2_method_6_code_0 15 rfl rfl rfl
theorem d_2_6_18 : decode prog_2_method_6_code 18 = .ok (.iload_n 2, 1) := D_28 W_prog_2_method_6_code_0 18 rfl rfl
theorem d_2_6_19 : decode prog_2_method_6_code 19 = .ok (.bipush 10, 2) := D_16 W_prog_2_method_6_code_0 19 rfl rfl rfl
theorem d_2_6_21 : decode prog_2_method_6_code 21 = .ok (.imul, 1) := D_104 W_prog_2_method_6_code_0 21 rfl rfl
theorem d_2_6_22 : decode prog_2_method_6_code 22 = .ok (.istore_n 2, 1) := D_61 W_prog_2_method_6_code_0 22 rfl rfl
theorem d_2_6_23 : decode prog_2_method_6_code 23 = .ok (.iinc 3 1, 3) := D_132 W_prog_2_method_6_code_0 23 rfl rfl rfl
theorem d_2_6_26 : decode prog_2_method_6_code 26 = .ok (.goto (-22), 3) := D_167 W_prog_2_method_6_code_0 26 rfl rfl rfl
theorem d_2_6_29 : decode prog_2_method_6_code 29 = .ok (.iconst 0, 1) := D_3 W_prog_2_method_6_code_0 29 rfl rfl
theorem d_2_6_30 : decode prog_2_method_6_code 30 = .ok (.istore_n 3, 1) := D_62 W_prog_2_method_6_code_0 30 rfl rfl
theorem d_2_6_31 : decode prog_2_method_6_code 31 = .ok (.iload_n 3, 1) := D_29 W_prog_2_method_6_code_0 31 rfl rfl
theorem W_prog_2_method_6_code_32 : chW prog_2_method_6_code 32 [16, 10, 162, 0, 31, 28, 158, 0, 27, 42, 16, 48, 27, 28, 108, 16, 10, 112, 96, 182, 0, 39, 28, 16, 10, 108, 61, 132, 3, 1, 167, 255, 225, 177] := chW_of (by decide +kernel)
theorem d_2_6_32 : decode prog_2_method_6_code 32 = .ok (.bipush 10, 2) := D_16 W_prog_2_method_6_code_32 0 rfl rfl rfl
theorem d_2_6_34 : decode prog_2_method_6_code 34 = .ok (.if_icmp .ge 31, 3) := D_162 W_prog_2_method_6_code_32 2 rfl rfl rfl
theorem d_2_6_37 : decode prog_2_method_6_code 37 = .ok (.iload_n 2, 1) := D_28 W_prog_2_method_6_code_32 5 rfl rfl
theorem d_2_6_38 : decode prog_2_method_6_code 38 = .ok (.ifCond .le 27, 3) := D_158 W_prog_2_method_6_code_32 6 rfl rfl rfl
theorem d_2_6_41 : decode prog_2_method_6_code 41 = .ok (.aload_n 0, 1) := D_42 W_prog_2_method_6_code_32 9 rfl rfl
theorem d_2_6_42 : decode prog_2_method_6_code 42 = .ok (.bipush 48, 2) := D_16 W_prog_2_method_6_code_32 10 rfl rfl rfl
theorem d_2_6_44 : decode prog_2_method_6_code 44 = .ok (.iload_n 1, 1) := D_27 W_prog_2_method_6_code_32 12 rfl rfl
theorem d_2_6_45 : decode prog_2_method_6_code 45 = .ok (.iload_n 2, 1) := D_28 W_prog_2_method_6_code_32 13 rfl rfl
theorem d_2_6_46 : decode prog_2_method_6_code 46 = .ok (.idiv, 1) := D_108 W_prog_2_method_6_code_32 14 rfl rfl
theorem d_2_6_47 : decode prog_2_method_6_code 47 = .ok (.bipush 10, 2) := D_16 W_prog_2_method_6_code_32 15 rfl rfl rfl
theorem d_2_6_49 : decode prog_2_method_6_code 49 = .ok (.irem, 1) := D_112 W_prog_2_method_6_code_32 17 rfl rfl
theorem d_2_6_50 : decode prog_2_method_6_code 50 = .ok (.iadd, 1) := D_96 W_prog_2_method_6_code_32 18 rfl rfl
theorem d_2_6_51 : decode prog_2_method_6_code 51 = .ok (.invokevirtual 39, 3) := D_182 W_prog_2_method_6_code_32 19 rfl rfl rfl
theorem d_2_6_54 : decode prog_2_method_6_code 54 = .ok (.iload_n 2, 1) := D_28 W_prog_2_method_6_code_32 22 rfl rfl
theorem d_2_6_55 : decode prog_2_method_6_code 55 = .ok (.bipush 10, 2) := D_16 W_prog_2_method_6_code_32 23 rfl rfl rfl
theorem d_2_6_57 : decode prog_2_method_6_code 57 = .ok (.idiv, 1) := D_108 W_prog_2_method_6_code_32 25 rfl rfl
theorem d_2_6_58 : decode prog_2_method_6_code 58 = .ok (.istore_n 2, 1) := D_61 W_prog_2_method_6_code_32 26 rfl rfl
theorem d_2_6_59 : decode prog_2_method_6_code 59 = .ok (.iinc 3 1, 3) := D_132 W_prog_2_method_6_code_32 27 rfl rfl rfl
theorem d_2_6_62 : decode prog_2_method_6_code 62 = .ok (.goto (-31), 3) := D_167 W_prog_2_method_6_code_32 30 rfl rfl rfl
theorem W_prog_2_method_6_code_64 : chW prog_2_method_6_code 64 [225, 177] := chW_of (by decide +kernel)
theorem d_2_6_65 : decode prog_2_method_6_code 65 = .ok (.return_, 1) := D_177 W_prog_2_method_6_code_64 1 rfl rfl
theorem W_prog_9_method_8_code_0 : chW prog_9_method_8_code 0 [42, 180, 0, 22, 180, 0, 40, 5, 46, 8, 100, 61, 28, 16, 7, 27, 104, 28, 100, 16, 12, 184, 0, 120, 96, 62, 7, 29, 104, 16, 7, 184, 0, 120, 54, 4] := chW_of (by decide +kernel)
theorem d_9_8_0 : decode prog_9_method_8_code 0 = .ok (.aload_n 0, 1) := D_42 W_prog_9_method_8_code_0 0 rfl rfl
theorem d_9_8_1 : decode prog_9_method_8_code 1 = .ok (.getfield 22, 3) := D_180 W_prog_9_method_8_code_0 1 rfl rfl rfl
theorem d_9_8_4 : decode prog_9_method_8_code 4 = .ok (.getfield 40, 3) := D_180 W_prog_9_method_8_code_0 4 rfl rfl rfl
theorem d_9_8_7 : decode prog_9_method_8_code 7 = .ok (.iconst 2, 1) := D_5 W_prog_9_method_8_code_0 7 rfl rfl
theorem d_9_8_8 : decode prog_9_method_8_code 8 = .ok (.iaload, 1) := D_46 W_prog_9_method_8_code_0 8 rfl rfl
theorem d_9_8_9 : decode prog_9_method_8_code 9 = .ok (.iconst 5, 1) := D_8 W_prog_9_method_8_code_0 9 rfl rfl
theorem d_9_8_10 : decode prog_9_method_8_code 10 = .ok (.isub, 1) := D_100 W_prog_9_method_8_code_0 10 rfl rfl
theorem d_9_8_11 : decode prog_9_method_8_code 11 = .ok (.istore_n 2, 1) := D_61 W_prog_9_method_8_code_0 11 rfl rfl
theorem d_9_8_12 : decode prog_9_method_8_code 12 = .ok (.iload_n 2, 1) := D_28 W_prog_9_method_8_code_0 12 rfl rfl
theorem d_9_8_13 : decode prog_9_method_8_code 13 = .ok (.bipush 7, 2) := D_16 W_prog_9_method_8_code_0 13 rfl rfl rfl
theorem d_9_8_15 : decode prog_9_method_8_code 15 = .ok (.iload_n 1, 1) := D_27 W_prog_9_method_8_code_0 15 rfl rfl
theorem d_9_8_16 : decode prog_9_method_8_code 16 = .ok (.imul, 1) := D_104 W_prog_9_method_8_code_0 16 rfl rfl
theorem d_9_8_17 : decode prog_9_method_8_code 17 = .ok (.iload_n 2, 1) := D_28 W_prog_9_method_8_code_0 17 rfl rfl
theorem d_9_8_18 : decode prog_9_method_8_code 18 = .ok (.isub, 1) := D_100 W_prog_9_method_8_code_0 18 rfl rfl
theorem d_9_8_19 : decode prog_9_method_8_code 19 = .ok (.bipush 12, 2) := D_16 W_prog_9_method_8_code_0 19 rfl rfl rfl
theorem d_9_8_21 : decode prog_9_method_8_code 21 = .ok (.invokestatic 120, 3) := D_184 W_prog_9_method_8_code_0 21 rfl rfl rfl
theorem d_9_8_24 : decode prog_9_method_8_code 24 = .ok (.iadd, 1) := D_96 W_prog_9_method_8_code_0 24 rfl rfl
theorem d_9_8_25 : decode prog_9_method_8_code 25 = .ok (.istore_n 3, 1) := D_62 W_prog_9_method_8_code_0 25 rfl rfl
theorem d_9_8_26 : decode prog_9_method_8_code 26 = .ok (.iconst 4, 1) := D_7 W_prog_9_method_8_code_0 26 rfl rfl
theorem d_9_8_27 : decode prog_9_method_8_code 27 = .ok (.iload_n 3, 1) := D_29 W_prog_9_method_8_code_0 27 rfl rfl
theorem d_9_8_28 : decode prog_9_method_8_code 28 = .ok (.imul, 1) := D_104 W_prog_9_method_8_code_0 28 rfl rfl
theorem d_9_8_29 : decode prog_9_method_8_code 29 = .ok (.bipush 7, 2) := D_16 W_prog_9_method_8_code_0 29 rfl rfl rfl
theorem d_9_8_31 : decode prog_9_method_8_code 31 = .ok (.invokestatic 120, 3) := D_184 W_prog_9_method_8_code_0 31 rfl rfl rfl
theorem W_prog_9_method_8_code_32 : chW prog_9_method_8_code 32 [0, 120, 54, 4, 29, 4, 96, 16, 7, 184, 0, 123, 54, 5, 27, 178, 0, 126, 21, 4, 46, 100, 21, 5, 100, 16, 12, 184, 0, 123, 4, 100, 54, 6, 21, 6] := chW_of (by decide +kernel)
theorem d_9_8_34 : decode prog_9_method_8_code 34 = .ok (.istore 4, 2) := D_54 W_prog_9_method_8_code_32 2 rfl rfl
theorem d_9_8_36 : decode prog_9_method_8_code 36 = .ok (.iload_n 3, 1) := D_29 W_prog_9_method_8_code_32 4 rfl rfl
theorem d_9_8_37 : decode prog_9_method_8_code 37 = .ok (.iconst 1, 1) := D_4 W_prog_9_method_8_code_32 5 rfl rfl
theorem d_9_8_38 : decode prog_9_method_8_code 38 = .ok (.iadd, 1) := D_96 W_prog_9_method_8_code_32 6 rfl rfl
theorem d_9_8_39 : decode prog_9_method_8_code 39 = .ok (.bipush 7, 2) := D_16 W_prog_9_method_8_code_32 7 rfl rfl rfl
theorem d_9_8_41 : decode prog_9_method_8_code 41 = .ok (.invokestatic 123, 3) := D_184 W_prog_9_method_8_code_32 9 rfl rfl rfl
theorem d_9_8_44 : decode prog_9_method_8_code 44 = .ok (.istore 5, 2) := D_54 W_prog_9_method_8_code_32 12 rfl rfl
theorem d_9_8_46 : decode prog_9_method_8_code 46 = .ok (.iload_n 1, 1) := D_27 W_prog_9_method_8_code_32 14 rfl rfl
theorem d_9_8_47 : decode prog_9_method_8_code 47 = .ok (.getstatic 126, 3) := D_178 W_prog_9_method_8_code_32 15 rfl rfl rfl
theorem d_9_8_50 : decode prog_9_method_8_code 50 = .ok (.iload 4, 2) := D_21 W_prog_9_method_8_code_32 18 rfl rfl
theorem d_9_8_52 : decode prog_9_method_8_code 52 = .ok (.iaload, 1) := D_46 W_prog_9_method_8_code_32 20 rfl rfl
theorem d_9_8_53 : decode prog_9_method_8_code 53 = .ok (.isub, 1) := D_100 W_prog_9_method_8_code_32 21 rfl rfl
theorem d_9_8_54 : decode prog_9_method_8_code 54 = .ok (.iload 5, 2) := D_21 W_prog_9_method_8_code_32 22 rfl rfl
theorem d_9_8_56 : decode prog_9_method_8_code 56 = .ok (.isub, 1) := D_100 W_prog_9_method_8_code_32 24 rfl rfl
theorem d_9_8_57 : decode prog_9_method_8_code 57 = .ok (.bipush 12, 2) := D_16 W_prog_9_method_8_code_32 25 rfl rfl rfl
theorem d_9_8_59 : decode prog_9_method_8_code 59 = .ok (.invokestatic 123, 3) := D_184 W_prog_9_method_8_code_32 27 rfl rfl rfl
theorem d_9_8_62 : decode prog_9_method_8_code 62 = .ok (.iconst 1, 1) := D_4 W_prog_9_method_8_code_32 30 rfl rfl
theorem d_9_8_63 : decode prog_9_method_8_code 63 = .ok (.isub, 1) := D_100 W_prog_9_method_8_code_32 31 rfl rfl
theorem W_prog_9_method_8_code_64 : chW prog_9_method_8_code 64 [54, 6, 21, 6, 155, 0, 28, 21, 6, 16, 8, 163, 0, 21, 42, 180, 0, 12, 16, 7, 21, 6, 104, 21, 4, 96, 21, 5, 182, 0, 129, 87, 177] := chW_of (by decide +kernel)
theorem d_9_8_64 : decode prog_9_method_8_code 64 = .ok (.istore 6, 2) := D_54 W_prog_9_method_8_code_64 0 rfl rfl
theorem d_9_8_66 : decode prog_9_method_8_code 66 = .ok (.iload 6, 2) := D_21 W_prog_9_method_8_code_64 2 rfl rfl
theorem d_9_8_68 : decode prog_9_method_8_code 68 = .ok (.ifCond .lt 28, 3) := D_155 W_prog_9_method_8_code_64 4 rfl rfl rfl
theorem d_9_8_71 : decode prog_9_method_8_code 71 = .ok (.iload 6, 2) := D_21 W_prog_9_method_8_code_64 7 rfl rfl
theorem d_9_8_73 : decode prog_9_method_8_code 73 = .ok (.bipush 8, 2) := D_16 W_prog_9_method_8_code_64 9 rfl rfl rfl
theorem d_9_8_75 : decode prog_9_method_8_code 75 = .ok (.if_icmp .gt 21, 3) := D_163 W_prog_9_method_8_code_64 11 rfl rfl rfl
theorem d_9_8_78 : decode prog_9_method_8_code 78 = .ok (.aload_n 0, 1) := D_42 W_prog_9_method_8_code_64 14 rfl rfl
theorem d_9_8_79 : decode prog_9_method_8_code 79 = .ok (.getfield 12, 3) := D_180 W_prog_9_method_8_code_64 15 rfl rfl rfl
theorem d_9_8_82 : decode prog_9_method_8_code 82 = .ok (.bipush 7, 2) := D_16 W_prog_9_method_8_code_64 18 rfl rfl rfl
theorem d_9_8_84 : decode prog_9_method_8_code 84 = .ok (.iload 6, 2) := D_21 W_prog_9_method_8_code_64 20 rfl rfl
theorem d_9_8_86 : decode prog_9_method_8_code 86 = .ok (.imul, 1) := D_104 W_prog_9_method_8_code_64 22 rfl rfl
theorem d_9_8_87 : decode prog_9_method_8_code 87 = .ok (.iload 4, 2) := D_21 W_prog_9_method_8_code_64 23 rfl rfl
theorem d_9_8_89 : decode prog_9_method_8_code 89 = .ok (.iadd, 1) := D_96 W_prog_9_method_8_code_64 25 rfl rfl
theorem d_9_8_90 : decode prog_9_method_8_code 90 = .ok (.iload 5, 2) := D_21 W_prog_9_method_8_code_64 26 rfl rfl
theorem d_9_8_92 : decode prog_9_method_8_code 92 = .ok (.invokevirtual 129, 3) := D_182 W_prog_9_method_8_code_64 28 rfl rfl rfl
theorem d_9_8_95 : decode prog_9_method_8_code 95 = .ok (.pop, 1) := D_87 W_prog_9_method_8_code_64 31 rfl rfl
theorem W_prog_9_method_8_code_96 : chW prog_9_method_8_code 96 [177] := chW_of (by decide +kernel)
theorem d_9_8_96 : decode prog_9_method_8_code 96 = .ok (.return_, 1) := D_177 W_prog_9_method_8_code_96 0 rfl rfl
set_option maxRecDepth 20000 in
theorem inW_7 : ∀ w ∈ u_ws RX7 TX7 9, w ∈ wAll := by
  show ∀ w ∈ [(Jvm.Cond.lays "StaveHouse$Scribe" "StaveHouse$Scribe" "source" "LStaveHouse$SoundFile;"), (Jvm.Cond.lays "StaveHouse$Scribe" "StaveHouse$Scribe" "page" "LStaveHouse$ByteRow;"), (Jvm.Cond.lays "StaveHouse$Scribe" "StaveHouse$Scribe" "grid" "I"), (Jvm.Cond.lays "StaveHouse$Scribe" "StaveHouse$Scribe" "bar" "I"), (Jvm.Cond.laysFinal "StaveHouse$Scribe" "StaveHouse$Scribe" "event" "LStaveHouse$Event;"), (Jvm.Cond.lays "StaveHouse$Scribe" "StaveHouse$Scribe" "from" "J"), (Jvm.Cond.lays "StaveHouse$Scribe" "StaveHouse$Scribe" "to" "J"), (Jvm.Cond.lays "StaveHouse$Scribe" "StaveHouse$Scribe" "next" "I"), (Jvm.Cond.laysFinal "StaveHouse$Scribe" "StaveHouse$Scribe" "hasTone" "[Z")], w ∈ wAll
  exact List.forall_mem_cons.mpr ⟨k_2_107, List.forall_mem_cons.mpr ⟨k_2_109, List.forall_mem_cons.mpr ⟨k_2_111, List.forall_mem_cons.mpr ⟨k_2_113, List.forall_mem_cons.mpr ⟨k_2_115, List.forall_mem_cons.mpr ⟨k_2_117, List.forall_mem_cons.mpr ⟨k_2_119, List.forall_mem_cons.mpr ⟨k_2_121, List.forall_mem_cons.mpr ⟨k_2_123, fun _ h => absurd h List.not_mem_nil⟩⟩⟩⟩⟩⟩⟩⟩⟩
set_option maxRecDepth 20000 in
theorem inW_8 : ∀ w ∈ u_ws RX8 TX8 15, w ∈ wAll := by
  show ∀ w ∈ [(Jvm.Cond.laysFinal "StaveHouse$SoundFile" "StaveHouse$SoundFile" "head" "[I"), (Jvm.Cond.laysFinal "StaveHouse$SoundFile" "StaveHouse$SoundFile" "sounds" "[[J"), (Jvm.Cond.lays "StaveHouse$SoundFile" "StaveHouse$SoundFile" "count" "I"), (Jvm.Cond.laysFinal "StaveHouse$SoundFile" "StaveHouse$SoundFile" "numbers" "[I"), (Jvm.Cond.lays "StaveHouse$SoundFile" "StaveHouse$SoundFile" "row" "LStaveHouse$ByteRow;"), (Jvm.Cond.lays "StaveHouse$SoundFile" "StaveHouse$SoundFile" "at" "I"), (Jvm.Cond.lays "StaveHouse$SoundFile" "StaveHouse$SoundFile" "limit" "I"), (Jvm.Cond.lays "StaveHouse$SoundFile" "StaveHouse$SoundFile" "wrong" "I"), (Jvm.Cond.lays "StaveHouse$SoundFile" "StaveHouse$SoundFile" "track" "I"), (Jvm.Cond.lays "StaveHouse$SoundFile" "StaveHouse$SoundFile" "status" "I"), (Jvm.Cond.lays "StaveHouse$SoundFile" "StaveHouse$SoundFile" "tick" "J"), (Jvm.Cond.lays "StaveHouse$SoundFile" "StaveHouse$SoundFile" "trackDone" "Z"), (Jvm.Cond.lays "StaveHouse$SoundFile" "StaveHouse$SoundFile" "keyTold" "Z"), (Jvm.Cond.lays "StaveHouse$SoundFile" "StaveHouse$SoundFile" "timeTold" "Z"), (Jvm.Cond.lays "StaveHouse$SoundFile" "StaveHouse$SoundFile" "tempoTold" "Z")], w ∈ wAll
  exact List.forall_mem_cons.mpr ⟨k_7_239, List.forall_mem_cons.mpr ⟨k_8_1, List.forall_mem_cons.mpr ⟨k_8_3, List.forall_mem_cons.mpr ⟨k_8_5, List.forall_mem_cons.mpr ⟨k_8_7, List.forall_mem_cons.mpr ⟨k_8_9, List.forall_mem_cons.mpr ⟨k_8_11, List.forall_mem_cons.mpr ⟨k_8_13, List.forall_mem_cons.mpr ⟨k_8_15, List.forall_mem_cons.mpr ⟨k_8_17, List.forall_mem_cons.mpr ⟨k_8_19, List.forall_mem_cons.mpr ⟨k_8_21, List.forall_mem_cons.mpr ⟨k_8_23, List.forall_mem_cons.mpr ⟨k_8_25, List.forall_mem_cons.mpr ⟨k_8_27, fun _ h => absurd h List.not_mem_nil⟩⟩⟩⟩⟩⟩⟩⟩⟩⟩⟩⟩⟩⟩⟩
noncomputable abbrev Q_Layout_columnX (K : zK) (D : va_G) (ca : Nat → ClassId) (ad : Nat → Int → Nat → Nat) (L : List Nat) (r : Int) (F : zF) (B : zB) (A : Nat → Prop) : Array Value → State → Outcome → State → Prop := va_Qi (S := Unit) (fun p _ => p = iI r) (fun _ => zPo D ca ad lnC K.2 L F B A) A
noncomputable def f_Layout_columnX_27 (K : zK) : Nat → Int → Int → Int → Int → zF → zB → zO
  | 0, _, _, _, _, _, _ => none
  | n + 1, l4, l0, l1, l2, F, B => if 0 ≤ l0 ∧ l0 < K.2 2 then if 0 ≤ (l1 + 1) ∧ (l1 + 1) < 101 then if r32 l4 then if r32 (B 2 l0 5 (l1 + 1)) then (if (B 2 l0 5 (l1 + 1)) ≤ l4 then some ((-1), F, B) else if 0 ≤ l4 ∧ l4 < 3200 then if r64 (B 2 l0 1 l4) then if r64 l2 then (if (zcmp (B 2 l0 1 l4) l2) = 0 then some (B 2 l0 3 l4, F, B) else f_Layout_columnX_27 K n (l4 + 1) l0 l1 l2 F B) else none else none else none) else none else none else none else none
set_option maxHeartbeats 4000000 in
set_option maxRecDepth 100000 in
theorem b_Layout_columnX_27 {D : va_G} {ca : Nat → ClassId} {ad : Nat → Int → Nat → Nat} {L : List Nat} {aS vS : Nat → Nat} {A : Nat → Prop} {p : Program} {l : Launch} {e : Env} {s : State} {m : MethodId} {args : Array Value} {below : List Frame} {meth : Method} {c : Code} {K : zK} {r : Int} {F9 : zF} {B9 : zB} (X : zX D ca L aS vS A p s m args meth c prog_4_method_14_code 5 (Option.some Jvm.ClassFile.FieldType.int) "StaveHouse$Layout") : ∀ {n : Nat} {l4 : Int} {l0 : Int} {l1 : Int} {l2 : Int} {F : zF} {B : zB} {H : Heap} {locs : List Loc} {ls : Array Slot}, f_Layout_columnX_27 K n l4 l0 l1 l2 F B = some (r, F9, B9) → zH D ca ad lnC K.2 L F B A H → va_S A s.heap H locs → lv_has ls 5 [(4, .int (iI l4)), (0, .ref (ad 2 l0 0)), (1, .int (iI l1)), (2, .long (lI l2))] → W p l e ({ frames := 0, cells := 0, slots := 0, locals := 0 } : Room) s m args below meth c H locs 0 0 (MQ below (Q_Layout_columnX K D ca ad L r F9 B9 A) args s 0 0 A) (F0 m 27 ls []) := by
  obtain ⟨hx, hb, hr, hml, hown, hts, hlk, hK, hA, hL, hX⟩ := id X
  intro n
  induction n with
  | zero =>
    intros
    rename_i hf _ _ _
    cases hf
  | succ n ih =>
    intro l4 l0 l1 l2 F B H locs ls hf hZ hS hl
    replace hf : (if 0 ≤ l0 ∧ l0 < K.2 2 then if 0 ≤ (l1 + 1) ∧ (l1 + 1) < 101 then if r32 l4 then if r32 (B 2 l0 5 (l1 + 1)) then (if (B 2 l0 5 (l1 + 1)) ≤ l4 then some ((-1), F, B) else if 0 ≤ l4 ∧ l4 < 3200 then if r64 (B 2 l0 1 l4) then if r64 l2 then (if (zcmp (B 2 l0 1 l4) l2) = 0 then some (B 2 l0 3 l4, F, B) else f_Layout_columnX_27 K n (l4 + 1) l0 l1 l2 F B) else none else none else none) else none else none else none else none) = some (r, F9, B9) := hf
    refine lv_iload hx hb d_4_14_27 (lv_at hl 0 rfl) ?_
    refine lv_aload_n hx hb d_4_14_29 rfl (lv_at hl 1 rfl) ?_
    obtain ⟨g8, hf⟩ := gif hf
    refine zget (ci := 2) (C := RX2) (T := TX2) (v := .ref (ad 2 l0 (5 + 1))) (k := 5) hx hb hts inW_2 hown hK hZ g8.1 g8.2 rfl (by decide) k_6_222 rfl d_4_14_30 ?_
    refine lv_iload_n hx hb d_4_14_33 rfl (lv_at hl 2 rfl) ?_
    refine lv_iconst (v := iI 1) hx hb d_4_14_34 rfl ?_
    refine zadd hx hb d_4_14_35 ?_
    obtain ⟨g9, hf⟩ := gif hf
    refine zald (ci := 2) (k := 5) hx hb hK rfl hZ g8.1 g8.2 rfl (Nat.le_of_ble_eq_true rfl) g9.1 g9.2 d_4_14_36 ?_
    obtain ⟨g10, hf⟩ := gif hf
    obtain ⟨g11, hf⟩ := gif hf
    refine zge (tgt := 66) hx hb g10 g11 d_4_14_37 (by decide) (fun h12 => ?_) (fun h12 => ?_)
    · replace hf := gpos hf h12
      refine lv_iconst (v := iI (-1)) hx hb d_4_14_66 rfl ?_
      cases hf
      exact W.iret hx hb hr (fun t ht hW => ⟨⟨_, (), rfl, rfl, by rw [ht]; exact hZ, va_K.moved hW.alike hK⟩, hS.F ht⟩) hS.2.2 d_4_14_67 hlk
    · replace hf := gneg hf h12
      refine lv_aload_n hx hb d_4_14_40 rfl (lv_at hl 1 rfl) ?_
      refine zget (ci := 2) (C := RX2) (T := TX2) (v := .ref (ad 2 l0 (1 + 1))) (k := 1) hx hb hts inW_2 hown hK hZ g8.1 g8.2 rfl (by decide) k_6_218 rfl d_4_14_41 ?_
      refine lv_iload hx hb d_4_14_44 (lv_at hl 0 rfl) ?_
      obtain ⟨g13, hf⟩ := gif hf
      refine zlald (ci := 2) (k := 1) hx hb hK rfl hZ g8.1 g8.2 rfl (Nat.le_of_ble_eq_true rfl) g13.1 g13.2 d_4_14_46 ?_
      refine lv_lload_n hx hb d_4_14_47 rfl (lv_at hl 3 rfl) ?_
      obtain ⟨g14, hf⟩ := gif hf
      obtain ⟨g15, hf⟩ := gif hf
      refine zcmp_r hx hb g14 g15 d_4_14_48 ?_
      refine z0ne (tgt := 60) hx hb zcmp_32 d_4_14_49 (by decide) (fun h16 => ?_) (fun h16 => ?_)
      · replace hf := gneg hf h16
        refine lv_iinc (v := iI (l4 + 1)) (lv' := [(4, .int (iI (l4 + 1))), (0, .ref (ad 2 l0 0)), (1, .int (iI l1)), (2, .long (lI l2))]) hx hb d_4_14_60 hl (k := 0) rfl (iI_add _ 1) (by decide) rfl (fun ls hl => ?_)
        refine lv_goto (tgt := 27) hx hb d_4_14_63 (by decide) ?_
        exact ih hf hZ hS (lv_sub hl [0, 1, 2, 3] rfl)
      · replace hf := gpos hf h16
        refine lv_aload_n hx hb d_4_14_52 rfl (lv_at hl 1 rfl) ?_
        refine zget (ci := 2) (C := RX2) (T := TX2) (v := .ref (ad 2 l0 (3 + 1))) (k := 3) hx hb hts inW_2 hown hK hZ g8.1 g8.2 rfl (by decide) k_6_220 rfl d_4_14_53 ?_
        refine lv_iload hx hb d_4_14_56 (lv_at hl 0 rfl) ?_
        refine zald (ci := 2) (k := 3) hx hb hK rfl hZ g8.1 g8.2 rfl (Nat.le_of_ble_eq_true rfl) g13.1 g13.2 d_4_14_58 ?_
        cases hf
        exact W.iret hx hb hr (fun t ht hW => ⟨⟨_, (), rfl, rfl, by rw [ht]; exact hZ, va_K.moved hW.alike hK⟩, hS.F ht⟩) hS.2.2 d_4_14_59 hlk

noncomputable def f_Layout_columnX_17 (K : zK)  (F : zF) (B : zB) : zO := some ((-1), F, B)
set_option maxHeartbeats 4000000 in
set_option maxRecDepth 100000 in
theorem b_Layout_columnX_17 {D : va_G} {ca : Nat → ClassId} {ad : Nat → Int → Nat → Nat} {L : List Nat} {aS vS : Nat → Nat} {A : Nat → Prop} {p : Program} {l : Launch} {e : Env} {s : State} {m : MethodId} {args : Array Value} {below : List Frame} {meth : Method} {c : Code} {K : zK} {r : Int} {F9 : zF} {B9 : zB} (X : zX D ca L aS vS A p s m args meth c prog_4_method_14_code 5 (Option.some Jvm.ClassFile.FieldType.int) "StaveHouse$Layout")  {F : zF} {B : zB} {H : Heap} {locs : List Loc} {ls : Array Slot} (hf : f_Layout_columnX_17 K  F B = some (r, F9, B9)) (hZ : zH D ca ad lnC K.2 L F B A H) (hS : va_S A s.heap H locs) (hl : lv_has ls 5 []) : W p l e ({ frames := 0, cells := 0, slots := 0, locals := 0 } : Room) s m args below meth c H locs 0 0 (MQ below (Q_Layout_columnX K D ca ad L r F9 B9 A) args s 0 0 A) (F0 m 17 ls []) := by
  obtain ⟨hx, hb, hr, hml, hown, hts, hlk, hK, hA, hL, hX⟩ := id X
  replace hf : (some ((-1), F, B)) = some (r, F9, B9) := hf
  refine lv_iconst (v := iI (-1)) hx hb d_4_14_17 rfl ?_
  cases hf
  exact W.iret hx hb hr (fun t ht hW => ⟨⟨_, (), rfl, rfl, by rw [ht]; exact hZ, va_K.moved hW.alike hK⟩, hS.F ht⟩) hS.2.2 d_4_14_18 hlk

noncomputable def f_Layout_columnX (K : zK) (l0 : Int) (l1 : Int) (l2 : Int) (F : zF) (B : zB) : zO := if 0 ≤ l0 ∧ l0 < K.2 2 then if r32 (F 2 l0 0) then (if (F 2 l0 0) = 0 then f_Layout_columnX_17 K F B else if r32 l1 then (if l1 < 0 then f_Layout_columnX_17 K F B else (if l1 < 100 then if 0 ≤ l1 ∧ l1 < 101 then f_Layout_columnX_27 K K.1 (B 2 l0 5 l1) l0 l1 l2 F B else none else f_Layout_columnX_17 K F B)) else none) else none else none
set_option maxHeartbeats 4000000 in
set_option maxRecDepth 100000 in
theorem c_Layout_columnX {l : Launch} {D : va_G} {ca : Nat → ClassId} {ad : Nat → Int → Nat → Nat} {L : List Nat} {aS vS : Nat → Nat} {sz : Nat} {K : zK}  {l0 : Int} {l1 : Int} {l2 : Int} {F F9 : zF} {B B9 : zB} {r : Int} (hf : f_Layout_columnX K l0 l1 l2 F B = some (r, F9, B9)) : Met l ({ cls := "StaveHouse$Layout", name := "columnX", desc := "(IJ)I" } : Jvm.MethodName) (Cond.code ({ cls := "StaveHouse$Layout", name := "columnX", desc := "(IJ)I" } : Jvm.MethodName) prog_4_method_14_code 5 (Option.some Jvm.ClassFile.FieldType.int) :: wAll) ({ frames := 0, cells := 0, slots := 0, locals := 0 } : Room) (va_Pc [.ref (ad 2 l0 0), .int (iI l1), .long (lI l2)] (zPre D ca ad lnC K.2 L aS vS F B sz)) (Q_Layout_columnX K D ca ad L r F9 B9 (zA L sz)) 0 0 (zA L sz) := by
  refine zMet (Qc := Q_Layout_columnX K D ca ad L r F9 B9) (lv := [(0, .ref (ad 2 l0 0)), (1, .int (iI l1)), (2, .long (lI l2))]) (by decide) (Nat.le_of_ble_eq_true rfl) rfl (fun A p e s m below meth c ls X hZ hS hl => ?_)
  obtain ⟨hx, hb, hr, hml, hown, hts, hlk, hK, hA, hL, hX⟩ := id X
  replace hf : (if 0 ≤ l0 ∧ l0 < K.2 2 then if r32 (F 2 l0 0) then (if (F 2 l0 0) = 0 then f_Layout_columnX_17 K F B else if r32 l1 then (if l1 < 0 then f_Layout_columnX_17 K F B else (if l1 < 100 then if 0 ≤ l1 ∧ l1 < 101 then f_Layout_columnX_27 K K.1 (B 2 l0 5 l1) l0 l1 l2 F B else none else f_Layout_columnX_17 K F B)) else none) else none else none) = some (r, F9, B9) := hf
  refine lv_aload_n hx hb d_4_14_0 rfl (lv_at hl 0 rfl) ?_
  obtain ⟨g1, hf⟩ := gif hf
  refine zget (ci := 2) (C := RX2) (T := TX2) (v := .int (iI (F 2 l0 0))) (k := 0) hx hb hts inW_2 hown hK hZ g1.1 g1.2 rfl (by decide) k_6_215 rfl d_4_14_1 ?_
  obtain ⟨g2, hf⟩ := gif hf
  refine z0eq (tgt := 17) hx hb g2 d_4_14_4 (by decide) (fun h3 => ?_) (fun h3 => ?_)
  · replace hf := gpos hf h3
    exact b_Layout_columnX_17 X hf hZ hS (lv_sub hl [] rfl)
  · replace hf := gneg hf h3
    refine lv_iload_n hx hb d_4_14_7 rfl (lv_at hl 1 rfl) ?_
    obtain ⟨g4, hf⟩ := gif hf
    refine z0lt (tgt := 17) hx hb g4 d_4_14_8 (by decide) (fun h5 => ?_) (fun h5 => ?_)
    · replace hf := gpos hf h5
      exact b_Layout_columnX_17 X hf hZ hS (lv_sub hl [] rfl)
    · replace hf := gneg hf h5
      refine lv_iload_n hx hb d_4_14_11 rfl (lv_at hl 1 rfl) ?_
      refine lv_bipush (v := iI 100) hx hb d_4_14_12 (by decide) ?_
      refine zlt (tgt := 19) hx hb g4 (by decide) d_4_14_14 (by decide) (fun h6 => ?_) (fun h6 => ?_)
      · replace hf := gpos hf h6
        refine lv_aload_n hx hb d_4_14_19 rfl (lv_at hl 0 rfl) ?_
        refine zget (ci := 2) (C := RX2) (T := TX2) (v := .ref (ad 2 l0 (5 + 1))) (k := 5) hx hb hts inW_2 hown hK hZ g1.1 g1.2 rfl (by decide) k_6_222 rfl d_4_14_20 ?_
        refine lv_iload_n hx hb d_4_14_23 rfl (lv_at hl 1 rfl) ?_
        obtain ⟨g7, hf⟩ := gif hf
        refine zald (ci := 2) (k := 5) hx hb hK rfl hZ g1.1 g1.2 rfl (Nat.le_of_ble_eq_true rfl) g7.1 g7.2 d_4_14_24 ?_
        refine lv_istore (lv' := [(4, .int (iI (B 2 l0 5 l1))), (0, .ref (ad 2 l0 0)), (1, .int (iI l1)), (2, .long (lI l2))]) hx hb d_4_14_25 hl (by decide) rfl (fun ls hl => ?_)
        exact b_Layout_columnX_27 X hf hZ hS (lv_sub hl [0, 1, 2, 3] rfl)
      · replace hf := gneg hf h6
        exact b_Layout_columnX_17 X hf hZ hS (lv_sub hl [] rfl)

noncomputable abbrev Q_Performance_strokeKey (K : zK) (D : va_G) (ca : Nat → ClassId) (ad : Nat → Int → Nat → Nat) (L : List Nat) (r : Int) (F : zF) (B : zB) (A : Nat → Prop) : Array Value → State → Outcome → State → Prop := va_Ql (S := Unit) (fun p _ => p = lI r) (fun _ => zPo D ca ad lnC K.2 L F B A) A
noncomputable def f_Performance_strokeKey (K : zK) (l0 : Int) (l1 : Int) (l2 : Int) (l4 : Int) (F : zF) (B : zB) : zO := if r32 l4 then if 0 ≤ l0 ∧ l0 < K.2 5 then if 0 ≤ l1 ∧ l1 < 2000 then if r32 (B 5 l0 340 l1) then if r32 (B 5 l0 342 l1) then if r32 (B 5 l0 341 l1) then if r32 l1 then some (zlor (zlshl (zlor (zlshl (zlor (zlshl (zlor (zlshl ((l2 * 2) + l4) 2) (B 5 l0 340 l1)) 7) (B 5 l0 342 l1)) 8) (B 5 l0 341 l1)) 11) l1, F, B) else none else none else none else none else none else none else none
set_option maxHeartbeats 4000000 in
set_option maxRecDepth 100000 in
theorem c_Performance_strokeKey {l : Launch} {D : va_G} {ca : Nat → ClassId} {ad : Nat → Int → Nat → Nat} {L : List Nat} {aS vS : Nat → Nat} {sz : Nat} {K : zK}  {l0 : Int} {l1 : Int} {l2 : Int} {l4 : Int} {F F9 : zF} {B B9 : zB} {r : Int} (hf : f_Performance_strokeKey K l0 l1 l2 l4 F B = some (r, F9, B9)) : Met l ({ cls := "StaveHouse$Performance", name := "strokeKey", desc := "(IJI)J" } : Jvm.MethodName) (Cond.code ({ cls := "StaveHouse$Performance", name := "strokeKey", desc := "(IJI)J" } : Jvm.MethodName) prog_7_method_12_code 7 (Option.some Jvm.ClassFile.FieldType.long) :: wAll) ({ frames := 0, cells := 0, slots := 0, locals := 0 } : Room) (va_Pc [.ref (ad 5 l0 0), .int (iI l1), .long (lI l2), .int (iI l4)] (zPre D ca ad lnC K.2 L aS vS F B sz)) (Q_Performance_strokeKey K D ca ad L r F9 B9 (zA L sz)) 0 0 (zA L sz) := by
  refine zMet (Qc := Q_Performance_strokeKey K D ca ad L r F9 B9) (lv := [(0, .ref (ad 5 l0 0)), (1, .int (iI l1)), (2, .long (lI l2)), (4, .int (iI l4))]) (by decide) (Nat.le_of_ble_eq_true rfl) rfl (fun A p e s m below meth c ls X hZ hS hl => ?_)
  obtain ⟨hx, hb, hr, hml, hown, hts, hlk, hK, hA, hL, hX⟩ := id X
  replace hf : (if r32 l4 then if 0 ≤ l0 ∧ l0 < K.2 5 then if 0 ≤ l1 ∧ l1 < 2000 then if r32 (B 5 l0 340 l1) then if r32 (B 5 l0 342 l1) then if r32 (B 5 l0 341 l1) then if r32 l1 then some (zlor (zlshl (zlor (zlshl (zlor (zlshl (zlor (zlshl ((l2 * 2) + l4) 2) (B 5 l0 340 l1)) 7) (B 5 l0 342 l1)) 8) (B 5 l0 341 l1)) 11) l1, F, B) else none else none else none else none else none else none else none) = some (r, F9, B9) := hf
  refine lv_lload_n hx hb d_7_12_0 rfl (lv_at hl 2 rfl) ?_
  refine lv_ldc2 hx hb hown (hts _ k_7_95) d_7_12_1 ?_
  refine W.eq (g2 := F0 m 4 ls [.long (lI 2), .long (lI l2)]) rfl ?_
  refine zlmul hx hb d_7_12_4 ?_
  refine lv_iload hx hb d_7_12_5 (lv_at hl 3 rfl) ?_
  obtain ⟨g1, hf⟩ := gif hf
  refine zi2l hx hb g1 d_7_12_7 ?_
  refine zladd hx hb d_7_12_8 ?_
  refine lv_lstore (lv' := [(5, .long (lI ((l2 * 2) + l4))), (0, .ref (ad 5 l0 0)), (1, .int (iI l1)), (2, .long (lI l2)), (4, .int (iI l4))]) hx hb d_7_12_9 hl (by decide) rfl (fun ls hl => ?_)
  refine lv_lload hx hb d_7_12_11 (lv_at hl 0 rfl) ?_
  refine lv_iconst (v := iI 2) hx hb d_7_12_13 rfl ?_
  refine zlshl_r hx hb d_7_12_14 ?_
  refine lv_aload_n hx hb d_7_12_15 rfl (lv_at hl 1 rfl) ?_
  obtain ⟨g2, hf⟩ := gif hf
  refine zget (ci := 5) (C := RX5) (T := TX5) (v := .ref (ad 5 l0 (7 + 1))) (k := 7) hx hb hts inW_5 hown hK hZ g2.1 g2.2 rfl (by decide) k_6_76 rfl d_7_12_16 ?_
  refine lv_iconst (v := iI 0) hx hb d_7_12_19 rfl ?_
  refine zaldQ (t := 0) (ci := 5) (k := 7) hx hb hK rfl hZ g2.1 g2.2 rfl (Nat.le_of_ble_eq_true rfl) (by decide) (by decide) d_7_12_20 ?_
  refine W.eq (g2 := F0 m 21 ls [.ref (ad 5 l0 (340 + 1)), .long (lI (zlshl ((l2 * 2) + l4) 2))]) rfl ?_
  refine lv_iload_n hx hb d_7_12_21 rfl (lv_at hl 2 rfl) ?_
  obtain ⟨g3, hf⟩ := gif hf
  refine zald (ci := 5) (k := 340) hx hb hK rfl hZ g2.1 g2.2 rfl (Nat.le_of_ble_eq_true rfl) g3.1 g3.2 d_7_12_22 ?_
  obtain ⟨g4, hf⟩ := gif hf
  refine zi2l hx hb g4 d_7_12_23 ?_
  refine zlor_r hx hb d_7_12_24 ?_
  refine lv_lstore (lv' := [(5, .long (lI (zlor (zlshl ((l2 * 2) + l4) 2) (B 5 l0 340 l1)))), (0, .ref (ad 5 l0 0)), (1, .int (iI l1)), (2, .long (lI l2)), (4, .int (iI l4))]) hx hb d_7_12_25 hl (by decide) rfl (fun ls hl => ?_)
  refine lv_lload hx hb d_7_12_27 (lv_at hl 0 rfl) ?_
  refine lv_bipush (v := iI 7) hx hb d_7_12_29 (by decide) ?_
  refine zlshl_r hx hb d_7_12_31 ?_
  refine lv_aload_n hx hb d_7_12_32 rfl (lv_at hl 1 rfl) ?_
  refine zget (ci := 5) (C := RX5) (T := TX5) (v := .ref (ad 5 l0 (7 + 1))) (k := 7) hx hb hts inW_5 hown hK hZ g2.1 g2.2 rfl (by decide) k_6_76 rfl d_7_12_33 ?_
  refine lv_iconst (v := iI 2) hx hb d_7_12_36 rfl ?_
  refine zaldQ (t := 0) (ci := 5) (k := 7) hx hb hK rfl hZ g2.1 g2.2 rfl (Nat.le_of_ble_eq_true rfl) (by decide) (by decide) d_7_12_37 ?_
  refine W.eq (g2 := F0 m 38 ls [.ref (ad 5 l0 (342 + 1)), .long (lI (zlshl (zlor (zlshl ((l2 * 2) + l4) 2) (B 5 l0 340 l1)) 7))]) rfl ?_
  refine lv_iload_n hx hb d_7_12_38 rfl (lv_at hl 2 rfl) ?_
  refine zald (ci := 5) (k := 342) hx hb hK rfl hZ g2.1 g2.2 rfl (Nat.le_of_ble_eq_true rfl) g3.1 g3.2 d_7_12_39 ?_
  obtain ⟨g5, hf⟩ := gif hf
  refine zi2l hx hb g5 d_7_12_40 ?_
  refine zlor_r hx hb d_7_12_41 ?_
  refine lv_lstore (lv' := [(5, .long (lI (zlor (zlshl (zlor (zlshl ((l2 * 2) + l4) 2) (B 5 l0 340 l1)) 7) (B 5 l0 342 l1)))), (0, .ref (ad 5 l0 0)), (1, .int (iI l1)), (2, .long (lI l2)), (4, .int (iI l4))]) hx hb d_7_12_42 hl (by decide) rfl (fun ls hl => ?_)
  refine lv_lload hx hb d_7_12_44 (lv_at hl 0 rfl) ?_
  refine lv_bipush (v := iI 8) hx hb d_7_12_46 (by decide) ?_
  refine zlshl_r hx hb d_7_12_48 ?_
  refine lv_aload_n hx hb d_7_12_49 rfl (lv_at hl 1 rfl) ?_
  refine zget (ci := 5) (C := RX5) (T := TX5) (v := .ref (ad 5 l0 (7 + 1))) (k := 7) hx hb hts inW_5 hown hK hZ g2.1 g2.2 rfl (by decide) k_6_76 rfl d_7_12_50 ?_
  refine lv_iconst (v := iI 1) hx hb d_7_12_53 rfl ?_
  refine zaldQ (t := 0) (ci := 5) (k := 7) hx hb hK rfl hZ g2.1 g2.2 rfl (Nat.le_of_ble_eq_true rfl) (by decide) (by decide) d_7_12_54 ?_
  refine W.eq (g2 := F0 m 55 ls [.ref (ad 5 l0 (341 + 1)), .long (lI (zlshl (zlor (zlshl (zlor (zlshl ((l2 * 2) + l4) 2) (B 5 l0 340 l1)) 7) (B 5 l0 342 l1)) 8))]) rfl ?_
  refine lv_iload_n hx hb d_7_12_55 rfl (lv_at hl 2 rfl) ?_
  refine zald (ci := 5) (k := 341) hx hb hK rfl hZ g2.1 g2.2 rfl (Nat.le_of_ble_eq_true rfl) g3.1 g3.2 d_7_12_56 ?_
  obtain ⟨g6, hf⟩ := gif hf
  refine zi2l hx hb g6 d_7_12_57 ?_
  refine zlor_r hx hb d_7_12_58 ?_
  refine lv_lstore (lv' := [(5, .long (lI (zlor (zlshl (zlor (zlshl (zlor (zlshl ((l2 * 2) + l4) 2) (B 5 l0 340 l1)) 7) (B 5 l0 342 l1)) 8) (B 5 l0 341 l1)))), (0, .ref (ad 5 l0 0)), (1, .int (iI l1)), (2, .long (lI l2)), (4, .int (iI l4))]) hx hb d_7_12_59 hl (by decide) rfl (fun ls hl => ?_)
  refine lv_lload hx hb d_7_12_61 (lv_at hl 0 rfl) ?_
  refine lv_bipush (v := iI 11) hx hb d_7_12_63 (by decide) ?_
  refine zlshl_r hx hb d_7_12_65 ?_
  refine lv_iload_n hx hb d_7_12_66 rfl (lv_at hl 2 rfl) ?_
  obtain ⟨g7, hf⟩ := gif hf
  refine zi2l hx hb g7 d_7_12_67 ?_
  refine zlor_r hx hb d_7_12_68 ?_
  cases hf
  exact W.lret hx hb hr (fun t ht hW => ⟨⟨_, (), rfl, rfl, by rw [ht]; exact hZ, va_K.moved hW.alike hK⟩, hS.F ht⟩) hS.2.2 d_7_12_69 hlk

noncomputable abbrev Q_Performance_merge (K : zK) (D : va_G) (ca : Nat → ClassId) (ad : Nat → Int → Nat → Nat) (L : List Nat) (r : Int) (F : zF) (B : zB) (A : Nat → Prop) : Array Value → State → Outcome → State → Prop := va_Qv (S := Unit) (fun _ => True) (fun _ => zPo D ca ad lnC K.2 L F B A) A
noncomputable def f_Performance_merge_108 (rec9 : Int → Int → Int → Int → Int → Int → zF → zB → zO) (K : zK) (l4 : Int) (l6 : Int) (l0 : Int) (l2 : Int) (l3 : Int) (s0 : Int) (s1 : Int) (F : zF) (B : zB) : zO := rec9 (l6 + 1) (s0 + s1) l4 l0 l2 l3 F B
set_option maxHeartbeats 4000000 in
set_option maxRecDepth 100000 in
theorem b_Performance_merge_108 {D : va_G} {ca : Nat → ClassId} {ad : Nat → Int → Nat → Nat} {L : List Nat} {aS vS : Nat → Nat} {A : Nat → Prop} {p : Program} {l : Launch} {e : Env} {s : State} {m : MethodId} {args : Array Value} {below : List Frame} {meth : Method} {c : Code} {K : zK} {r : Int} {F9 : zF} {B9 : zB} (X : zX D ca L aS vS A p s m args meth c prog_7_method_14_code 8 (Option.none : Option Jvm.ClassFile.FieldType) "StaveHouse$Performance") {rec9 : Int → Int → Int → Int → Int → Int → zF → zB → zO} (hrec9 : ∀ {l6 : Int} {l5 : Int} {l4 : Int} {l0 : Int} {l2 : Int} {l3 : Int} {F : zF} {B : zB} {H : Heap} {locs : List Loc} {ls : Array Slot}, rec9 l6 l5 l4 l0 l2 l3 F B = some (r, F9, B9) → zH D ca ad lnC K.2 L F B A H → va_S A s.heap H locs → lv_has ls 8 [(6, .int (iI l6)), (5, .int (iI l5)), (4, .int (iI l4)), (0, .ref (ad 5 l0 0)), (2, .int (iI l2)), (3, .int (iI l3))] → W p l e ({ frames := 0, cells := 0, slots := 0, locals := 0 } : Room) s m args below meth c H locs 0 0 (MQ below (Q_Performance_merge K D ca ad L r F9 B9 A) args s 0 0 A) (F0 m 9 ls [])) {l4 : Int} {l6 : Int} {l0 : Int} {l2 : Int} {l3 : Int} {s0 : Int} {s1 : Int} {F : zF} {B : zB} {H : Heap} {locs : List Loc} {ls : Array Slot} (hf : f_Performance_merge_108 rec9 K l4 l6 l0 l2 l3 s0 s1 F B = some (r, F9, B9)) (hZ : zH D ca ad lnC K.2 L F B A H) (hS : va_S A s.heap H locs) (hl : lv_has ls 8 [(4, .int (iI l4)), (6, .int (iI l6)), (0, .ref (ad 5 l0 0)), (2, .int (iI l2)), (3, .int (iI l3))]) : W p l e ({ frames := 0, cells := 0, slots := 0, locals := 0 } : Room) s m args below meth c H locs 0 0 (MQ below (Q_Performance_merge K D ca ad L r F9 B9 A) args s 0 0 A) (F0 m 108 ls [.int (iI s1), .int (iI s0)]) := by
  obtain ⟨hx, hb, hr, hml, hown, hts, hlk, hK, hA, hL, hX⟩ := id X
  replace hf : (rec9 (l6 + 1) (s0 + s1) l4 l0 l2 l3 F B) = some (r, F9, B9) := hf
  refine zadd hx hb d_7_14_108 ?_
  refine lv_istore (lv' := [(5, .int (iI (s0 + s1))), (4, .int (iI l4)), (6, .int (iI l6)), (0, .ref (ad 5 l0 0)), (2, .int (iI l2)), (3, .int (iI l3))]) hx hb d_7_14_109 hl (by decide) rfl (fun ls hl => ?_)
  refine lv_iinc (v := iI (l6 + 1)) (lv' := [(6, .int (iI (l6 + 1))), (5, .int (iI (s0 + s1))), (4, .int (iI l4)), (0, .ref (ad 5 l0 0)), (2, .int (iI l2)), (3, .int (iI l3))]) hx hb d_7_14_111 hl (k := 2) rfl (iI_add _ 1) (by decide) rfl (fun ls hl => ?_)
  refine lv_goto (tgt := 9) hx hb d_7_14_114 (by decide) ?_
  exact hrec9 hf hZ hS (lv_sub hl [0, 1, 2, 3, 4, 5] rfl)

noncomputable def f_Performance_merge_93 (rec9 : Int → Int → Int → Int → Int → Int → zF → zB → zO) (K : zK) (l7 : Int) (l6 : Int) (l5 : Int) (l0 : Int) (l2 : Int) (l3 : Int) (s0 : Int) (s1 : Int) (F : zF) (B : zB) : zO := if r32 l7 then (if l7 = 0 then f_Performance_merge_108 rec9 K (s0 + s1) l6 l0 l2 l3 l5 1 F B else f_Performance_merge_108 rec9 K (s0 + s1) l6 l0 l2 l3 l5 0 F B) else none
set_option maxHeartbeats 4000000 in
set_option maxRecDepth 100000 in
theorem b_Performance_merge_93 {D : va_G} {ca : Nat → ClassId} {ad : Nat → Int → Nat → Nat} {L : List Nat} {aS vS : Nat → Nat} {A : Nat → Prop} {p : Program} {l : Launch} {e : Env} {s : State} {m : MethodId} {args : Array Value} {below : List Frame} {meth : Method} {c : Code} {K : zK} {r : Int} {F9 : zF} {B9 : zB} (X : zX D ca L aS vS A p s m args meth c prog_7_method_14_code 8 (Option.none : Option Jvm.ClassFile.FieldType) "StaveHouse$Performance") {rec9 : Int → Int → Int → Int → Int → Int → zF → zB → zO} (hrec9 : ∀ {l6 : Int} {l5 : Int} {l4 : Int} {l0 : Int} {l2 : Int} {l3 : Int} {F : zF} {B : zB} {H : Heap} {locs : List Loc} {ls : Array Slot}, rec9 l6 l5 l4 l0 l2 l3 F B = some (r, F9, B9) → zH D ca ad lnC K.2 L F B A H → va_S A s.heap H locs → lv_has ls 8 [(6, .int (iI l6)), (5, .int (iI l5)), (4, .int (iI l4)), (0, .ref (ad 5 l0 0)), (2, .int (iI l2)), (3, .int (iI l3))] → W p l e ({ frames := 0, cells := 0, slots := 0, locals := 0 } : Room) s m args below meth c H locs 0 0 (MQ below (Q_Performance_merge K D ca ad L r F9 B9 A) args s 0 0 A) (F0 m 9 ls [])) {l7 : Int} {l6 : Int} {l5 : Int} {l0 : Int} {l2 : Int} {l3 : Int} {s0 : Int} {s1 : Int} {F : zF} {B : zB} {H : Heap} {locs : List Loc} {ls : Array Slot} (hf : f_Performance_merge_93 rec9 K l7 l6 l5 l0 l2 l3 s0 s1 F B = some (r, F9, B9)) (hZ : zH D ca ad lnC K.2 L F B A H) (hS : va_S A s.heap H locs) (hl : lv_has ls 8 [(7, .int (iI l7)), (6, .int (iI l6)), (5, .int (iI l5)), (0, .ref (ad 5 l0 0)), (2, .int (iI l2)), (3, .int (iI l3))]) : W p l e ({ frames := 0, cells := 0, slots := 0, locals := 0 } : Room) s m args below meth c H locs 0 0 (MQ below (Q_Performance_merge K D ca ad L r F9 B9 A) args s 0 0 A) (F0 m 93 ls [.int (iI s1), .int (iI s0)]) := by
  obtain ⟨hx, hb, hr, hml, hown, hts, hlk, hK, hA, hL, hX⟩ := id X
  replace hf : (if r32 l7 then (if l7 = 0 then f_Performance_merge_108 rec9 K (s0 + s1) l6 l0 l2 l3 l5 1 F B else f_Performance_merge_108 rec9 K (s0 + s1) l6 l0 l2 l3 l5 0 F B) else none) = some (r, F9, B9) := hf
  refine zadd hx hb d_7_14_93 ?_
  refine lv_istore (lv' := [(4, .int (iI (s0 + s1))), (7, .int (iI l7)), (6, .int (iI l6)), (5, .int (iI l5)), (0, .ref (ad 5 l0 0)), (2, .int (iI l2)), (3, .int (iI l3))]) hx hb d_7_14_94 hl (by decide) rfl (fun ls hl => ?_)
  refine lv_iload hx hb d_7_14_96 (lv_at hl 3 rfl) ?_
  refine lv_iload hx hb d_7_14_98 (lv_at hl 1 rfl) ?_
  obtain ⟨g34, hf⟩ := gif hf
  refine z0eq (tgt := 107) hx hb g34 d_7_14_100 (by decide) (fun h35 => ?_) (fun h35 => ?_)
  · replace hf := gpos hf h35
    refine lv_iconst (v := iI 1) hx hb d_7_14_107 rfl ?_
    exact b_Performance_merge_108 X hrec9 hf hZ hS (lv_sub hl [0, 2, 4, 5, 6] rfl)
  · replace hf := gneg hf h35
    refine lv_iconst (v := iI 0) hx hb d_7_14_103 rfl ?_
    refine lv_goto (tgt := 108) hx hb d_7_14_104 (by decide) ?_
    exact b_Performance_merge_108 X hrec9 hf hZ hS (lv_sub hl [0, 2, 4, 5, 6] rfl)

noncomputable def f_Performance_merge_80 (rec9 : Int → Int → Int → Int → Int → Int → zF → zB → zO) (K : zK) (l7 : Int) (l6 : Int) (l5 : Int) (l4 : Int) (l0 : Int) (l2 : Int) (l3 : Int) (s0c : Nat) (s0i : Int) (s0k : Nat) (s1 : Int) (s2 : Int) (F : zF) (B : zB) : zO := if 0 ≤ s0i ∧ s0i < K.2 s0c then if 0 ≤ s1 ∧ s1 < (lnC s0c s0i s0k : Int) then if zk s0c s0k = (3, 1) then if lnC s0c s0i s0k ≤ 2147483647 then if r32 l7 then (if l7 = 0 then f_Performance_merge_93 rec9 K l7 l6 l5 l0 l2 l3 l4 0 F (zup4 B s0c s0i s0k s1 s2) else f_Performance_merge_93 rec9 K l7 l6 l5 l0 l2 l3 l4 1 F (zup4 B s0c s0i s0k s1 s2)) else none else none else none else none else none
set_option maxHeartbeats 4000000 in
set_option maxRecDepth 100000 in
theorem b_Performance_merge_80 {D : va_G} {ca : Nat → ClassId} {ad : Nat → Int → Nat → Nat} {L : List Nat} {aS vS : Nat → Nat} {A : Nat → Prop} {p : Program} {l : Launch} {e : Env} {s : State} {m : MethodId} {args : Array Value} {below : List Frame} {meth : Method} {c : Code} {K : zK} {r : Int} {F9 : zF} {B9 : zB} (X : zX D ca L aS vS A p s m args meth c prog_7_method_14_code 8 (Option.none : Option Jvm.ClassFile.FieldType) "StaveHouse$Performance") {rec9 : Int → Int → Int → Int → Int → Int → zF → zB → zO} (hrec9 : ∀ {l6 : Int} {l5 : Int} {l4 : Int} {l0 : Int} {l2 : Int} {l3 : Int} {F : zF} {B : zB} {H : Heap} {locs : List Loc} {ls : Array Slot}, rec9 l6 l5 l4 l0 l2 l3 F B = some (r, F9, B9) → zH D ca ad lnC K.2 L F B A H → va_S A s.heap H locs → lv_has ls 8 [(6, .int (iI l6)), (5, .int (iI l5)), (4, .int (iI l4)), (0, .ref (ad 5 l0 0)), (2, .int (iI l2)), (3, .int (iI l3))] → W p l e ({ frames := 0, cells := 0, slots := 0, locals := 0 } : Room) s m args below meth c H locs 0 0 (MQ below (Q_Performance_merge K D ca ad L r F9 B9 A) args s 0 0 A) (F0 m 9 ls [])) {l7 : Int} {l6 : Int} {l5 : Int} {l4 : Int} {l0 : Int} {l2 : Int} {l3 : Int} {s0c : Nat} {s0i : Int} {s0k : Nat} {s1 : Int} {s2 : Int} {F : zF} {B : zB} {H : Heap} {locs : List Loc} {ls : Array Slot} (hf : f_Performance_merge_80 rec9 K l7 l6 l5 l4 l0 l2 l3 s0c s0i s0k s1 s2 F B = some (r, F9, B9)) (hZ : zH D ca ad lnC K.2 L F B A H) (hS : va_S A s.heap H locs) (hl : lv_has ls 8 [(7, .int (iI l7)), (6, .int (iI l6)), (5, .int (iI l5)), (4, .int (iI l4)), (0, .ref (ad 5 l0 0)), (2, .int (iI l2)), (3, .int (iI l3))]) : W p l e ({ frames := 0, cells := 0, slots := 0, locals := 0 } : Room) s m args below meth c H locs 0 0 (MQ below (Q_Performance_merge K D ca ad L r F9 B9 A) args s 0 0 A) (F0 m 80 ls [.long (lI s2), .int (iI s1), .ref (ad s0c s0i (s0k + 1))]) := by
  obtain ⟨hx, hb, hr, hml, hown, hts, hlk, hK, hA, hL, hX⟩ := id X
  replace hf : (if 0 ≤ s0i ∧ s0i < K.2 s0c then if 0 ≤ s1 ∧ s1 < (lnC s0c s0i s0k : Int) then if zk s0c s0k = (3, 1) then if lnC s0c s0i s0k ≤ 2147483647 then if r32 l7 then (if l7 = 0 then f_Performance_merge_93 rec9 K l7 l6 l5 l0 l2 l3 l4 0 F (zup4 B s0c s0i s0k s1 s2) else f_Performance_merge_93 rec9 K l7 l6 l5 l0 l2 l3 l4 1 F (zup4 B s0c s0i s0k s1 s2)) else none else none else none else none else none) = some (r, F9, B9) := hf
  obtain ⟨g26, hf⟩ := gif hf
  obtain ⟨g27, hf⟩ := gif hf
  obtain ⟨g28, hf⟩ := gif hf
  obtain ⟨g29, hf⟩ := gif hf
  refine zlast (ci := s0c) (k := s0k) hx hb hK rfl hZ hS g26.1 g26.2 g28 g29 g27.1 g27.2 d_7_14_80 (fun H30 locs30 hZ30 hS30 => ?_)
  refine lv_iload hx hb d_7_14_81 (lv_at hl 3 rfl) ?_
  refine lv_iload hx hb d_7_14_83 (lv_at hl 0 rfl) ?_
  obtain ⟨g31, hf⟩ := gif hf
  refine z0eq (tgt := 92) hx hb g31 d_7_14_85 (by decide) (fun h33 => ?_) (fun h33 => ?_)
  · replace hf := gpos hf h33
    refine lv_iconst (v := iI 0) hx hb d_7_14_92 rfl ?_
    exact b_Performance_merge_93 X hrec9 hf hZ30 hS30 (lv_sub hl [0, 1, 2, 4, 5, 6] rfl)
  · replace hf := gneg hf h33
    refine lv_iconst (v := iI 1) hx hb d_7_14_88 rfl ?_
    refine lv_goto (tgt := 93) hx hb d_7_14_89 (by decide) ?_
    exact b_Performance_merge_93 X hrec9 hf hZ30 hS30 (lv_sub hl [0, 1, 2, 4, 5, 6] rfl)

noncomputable def f_Performance_merge_50 (rec9 : Int → Int → Int → Int → Int → Int → zF → zB → zO) (K : zK) (l6 : Int) (l5 : Int) (l4 : Int) (l0 : Int) (l2 : Int) (l3 : Int) (s0 : Int) (F : zF) (B : zB) : zO := if 0 ≤ l0 ∧ l0 < K.2 5 then if r32 s0 then (if s0 = 0 then if 0 ≤ l5 ∧ l5 < (lnC 5 l0 (F 5 l0 8).toNat : Int) then if zk 5 (F 5 l0 8).toNat = (3, 1) then if lnC 5 l0 (F 5 l0 8).toNat ≤ 2147483647 then f_Performance_merge_80 rec9 K s0 l6 l5 l4 l0 l2 l3 5 l0 ((F 5 l0 9).toNat) l6 (B 5 l0 (F 5 l0 8).toNat l5) F B else none else none else none else if 0 ≤ l4 ∧ l4 < (lnC 5 l0 (F 5 l0 8).toNat : Int) then if zk 5 (F 5 l0 8).toNat = (3, 1) then if lnC 5 l0 (F 5 l0 8).toNat ≤ 2147483647 then f_Performance_merge_80 rec9 K s0 l6 l5 l4 l0 l2 l3 5 l0 ((F 5 l0 9).toNat) l6 (B 5 l0 (F 5 l0 8).toNat l4) F B else none else none else none) else none else none
set_option maxHeartbeats 4000000 in
set_option maxRecDepth 100000 in
theorem b_Performance_merge_50 {D : va_G} {ca : Nat → ClassId} {ad : Nat → Int → Nat → Nat} {L : List Nat} {aS vS : Nat → Nat} {A : Nat → Prop} {p : Program} {l : Launch} {e : Env} {s : State} {m : MethodId} {args : Array Value} {below : List Frame} {meth : Method} {c : Code} {K : zK} {r : Int} {F9 : zF} {B9 : zB} (X : zX D ca L aS vS A p s m args meth c prog_7_method_14_code 8 (Option.none : Option Jvm.ClassFile.FieldType) "StaveHouse$Performance") {rec9 : Int → Int → Int → Int → Int → Int → zF → zB → zO} (hrec9 : ∀ {l6 : Int} {l5 : Int} {l4 : Int} {l0 : Int} {l2 : Int} {l3 : Int} {F : zF} {B : zB} {H : Heap} {locs : List Loc} {ls : Array Slot}, rec9 l6 l5 l4 l0 l2 l3 F B = some (r, F9, B9) → zH D ca ad lnC K.2 L F B A H → va_S A s.heap H locs → lv_has ls 8 [(6, .int (iI l6)), (5, .int (iI l5)), (4, .int (iI l4)), (0, .ref (ad 5 l0 0)), (2, .int (iI l2)), (3, .int (iI l3))] → W p l e ({ frames := 0, cells := 0, slots := 0, locals := 0 } : Room) s m args below meth c H locs 0 0 (MQ below (Q_Performance_merge K D ca ad L r F9 B9 A) args s 0 0 A) (F0 m 9 ls [])) {l6 : Int} {l5 : Int} {l4 : Int} {l0 : Int} {l2 : Int} {l3 : Int} {s0 : Int} {F : zF} {B : zB} {H : Heap} {locs : List Loc} {ls : Array Slot} (hf : f_Performance_merge_50 rec9 K l6 l5 l4 l0 l2 l3 s0 F B = some (r, F9, B9)) (hZ : zH D ca ad lnC K.2 L F B A H) (hS : va_S A s.heap H locs) (hl : lv_has ls 8 [(6, .int (iI l6)), (5, .int (iI l5)), (4, .int (iI l4)), (0, .ref (ad 5 l0 0)), (2, .int (iI l2)), (3, .int (iI l3))]) : W p l e ({ frames := 0, cells := 0, slots := 0, locals := 0 } : Room) s m args below meth c H locs 0 0 (MQ below (Q_Performance_merge K D ca ad L r F9 B9 A) args s 0 0 A) (F0 m 50 ls [.int (iI s0)]) := by
  obtain ⟨hx, hb, hr, hml, hown, hts, hlk, hK, hA, hL, hX⟩ := id X
  replace hf : (if 0 ≤ l0 ∧ l0 < K.2 5 then if r32 s0 then (if s0 = 0 then if 0 ≤ l5 ∧ l5 < (lnC 5 l0 (F 5 l0 8).toNat : Int) then if zk 5 (F 5 l0 8).toNat = (3, 1) then if lnC 5 l0 (F 5 l0 8).toNat ≤ 2147483647 then f_Performance_merge_80 rec9 K s0 l6 l5 l4 l0 l2 l3 5 l0 ((F 5 l0 9).toNat) l6 (B 5 l0 (F 5 l0 8).toNat l5) F B else none else none else none else if 0 ≤ l4 ∧ l4 < (lnC 5 l0 (F 5 l0 8).toNat : Int) then if zk 5 (F 5 l0 8).toNat = (3, 1) then if lnC 5 l0 (F 5 l0 8).toNat ≤ 2147483647 then f_Performance_merge_80 rec9 K s0 l6 l5 l4 l0 l2 l3 5 l0 ((F 5 l0 9).toNat) l6 (B 5 l0 (F 5 l0 8).toNat l4) F B else none else none else none) else none else none) = some (r, F9, B9) := hf
  refine lv_istore (lv' := [(7, .int (iI s0)), (6, .int (iI l6)), (5, .int (iI l5)), (4, .int (iI l4)), (0, .ref (ad 5 l0 0)), (2, .int (iI l2)), (3, .int (iI l3))]) hx hb d_7_14_50 hl (by decide) rfl (fun ls hl => ?_)
  refine lv_aload_n hx hb d_7_14_52 rfl (lv_at hl 4 rfl) ?_
  obtain ⟨g17, hf⟩ := gif hf
  refine zget (ci := 5) (C := RX5) (T := TX5) (v := .ref (ad 5 l0 ((F 5 l0 9).toNat + 1))) (k := 9) hx hb hts inW_5 hown hK hZ g17.1 g17.2 rfl (by decide) k_6_78 rfl d_7_14_53 ?_
  refine lv_iload hx hb d_7_14_56 (lv_at hl 1 rfl) ?_
  refine lv_iload hx hb d_7_14_58 (lv_at hl 0 rfl) ?_
  obtain ⟨g18, hf⟩ := gif hf
  refine z0eq (tgt := 73) hx hb g18 d_7_14_60 (by decide) (fun h19 => ?_) (fun h19 => ?_)
  · replace hf := gpos hf h19
    refine lv_aload_n hx hb d_7_14_73 rfl (lv_at hl 4 rfl) ?_
    refine zget (ci := 5) (C := RX5) (T := TX5) (v := .ref (ad 5 l0 ((F 5 l0 8).toNat + 1))) (k := 8) hx hb hts inW_5 hown hK hZ g17.1 g17.2 rfl (by decide) k_6_77 rfl d_7_14_74 ?_
    refine lv_iload hx hb d_7_14_77 (lv_at hl 2 rfl) ?_
    obtain ⟨g20, hf⟩ := gif hf
    obtain ⟨g21, hf⟩ := gif hf
    obtain ⟨g22, hf⟩ := gif hf
    refine zlald (ci := 5) (k := (F 5 l0 8).toNat) hx hb hK rfl hZ g17.1 g17.2 g21 g22 g20.1 g20.2 d_7_14_79 ?_
    exact b_Performance_merge_80 X hrec9 hf hZ hS (lv_sub hl [0, 1, 2, 3, 4, 5, 6] rfl)
  · replace hf := gneg hf h19
    refine lv_aload_n hx hb d_7_14_63 rfl (lv_at hl 4 rfl) ?_
    refine zget (ci := 5) (C := RX5) (T := TX5) (v := .ref (ad 5 l0 ((F 5 l0 8).toNat + 1))) (k := 8) hx hb hts inW_5 hown hK hZ g17.1 g17.2 rfl (by decide) k_6_77 rfl d_7_14_64 ?_
    refine lv_iload hx hb d_7_14_67 (lv_at hl 3 rfl) ?_
    obtain ⟨g23, hf⟩ := gif hf
    obtain ⟨g24, hf⟩ := gif hf
    obtain ⟨g25, hf⟩ := gif hf
    refine zlald (ci := 5) (k := (F 5 l0 8).toNat) hx hb hK rfl hZ g17.1 g17.2 g24 g25 g23.1 g23.2 d_7_14_69 ?_
    refine lv_goto (tgt := 80) hx hb d_7_14_70 (by decide) ?_
    exact b_Performance_merge_80 X hrec9 hf hZ hS (lv_sub hl [0, 1, 2, 3, 4, 5, 6] rfl)

noncomputable def f_Performance_merge_49 (rec9 : Int → Int → Int → Int → Int → Int → zF → zB → zO) (K : zK) (l6 : Int) (l5 : Int) (l4 : Int) (l0 : Int) (l2 : Int) (l3 : Int) (F : zF) (B : zB) : zO := f_Performance_merge_50 rec9 K l6 l5 l4 l0 l2 l3 0 F B
set_option maxHeartbeats 4000000 in
set_option maxRecDepth 100000 in
theorem b_Performance_merge_49 {D : va_G} {ca : Nat → ClassId} {ad : Nat → Int → Nat → Nat} {L : List Nat} {aS vS : Nat → Nat} {A : Nat → Prop} {p : Program} {l : Launch} {e : Env} {s : State} {m : MethodId} {args : Array Value} {below : List Frame} {meth : Method} {c : Code} {K : zK} {r : Int} {F9 : zF} {B9 : zB} (X : zX D ca L aS vS A p s m args meth c prog_7_method_14_code 8 (Option.none : Option Jvm.ClassFile.FieldType) "StaveHouse$Performance") {rec9 : Int → Int → Int → Int → Int → Int → zF → zB → zO} (hrec9 : ∀ {l6 : Int} {l5 : Int} {l4 : Int} {l0 : Int} {l2 : Int} {l3 : Int} {F : zF} {B : zB} {H : Heap} {locs : List Loc} {ls : Array Slot}, rec9 l6 l5 l4 l0 l2 l3 F B = some (r, F9, B9) → zH D ca ad lnC K.2 L F B A H → va_S A s.heap H locs → lv_has ls 8 [(6, .int (iI l6)), (5, .int (iI l5)), (4, .int (iI l4)), (0, .ref (ad 5 l0 0)), (2, .int (iI l2)), (3, .int (iI l3))] → W p l e ({ frames := 0, cells := 0, slots := 0, locals := 0 } : Room) s m args below meth c H locs 0 0 (MQ below (Q_Performance_merge K D ca ad L r F9 B9 A) args s 0 0 A) (F0 m 9 ls [])) {l6 : Int} {l5 : Int} {l4 : Int} {l0 : Int} {l2 : Int} {l3 : Int} {F : zF} {B : zB} {H : Heap} {locs : List Loc} {ls : Array Slot} (hf : f_Performance_merge_49 rec9 K l6 l5 l4 l0 l2 l3 F B = some (r, F9, B9)) (hZ : zH D ca ad lnC K.2 L F B A H) (hS : va_S A s.heap H locs) (hl : lv_has ls 8 [(6, .int (iI l6)), (5, .int (iI l5)), (4, .int (iI l4)), (0, .ref (ad 5 l0 0)), (2, .int (iI l2)), (3, .int (iI l3))]) : W p l e ({ frames := 0, cells := 0, slots := 0, locals := 0 } : Room) s m args below meth c H locs 0 0 (MQ below (Q_Performance_merge K D ca ad L r F9 B9 A) args s 0 0 A) (F0 m 49 ls []) := by
  obtain ⟨hx, hb, hr, hml, hown, hts, hlk, hK, hA, hL, hX⟩ := id X
  replace hf : (f_Performance_merge_50 rec9 K l6 l5 l4 l0 l2 l3 0 F B) = some (r, F9, B9) := hf
  refine lv_iconst (v := iI 0) hx hb d_7_14_49 rfl ?_
  exact b_Performance_merge_50 X hrec9 hf hZ hS (lv_sub hl [0, 1, 2, 3, 4, 5] rfl)

noncomputable def f_Performance_merge_45 (rec9 : Int → Int → Int → Int → Int → Int → zF → zB → zO) (K : zK) (l6 : Int) (l5 : Int) (l4 : Int) (l0 : Int) (l2 : Int) (l3 : Int) (F : zF) (B : zB) : zO := f_Performance_merge_50 rec9 K l6 l5 l4 l0 l2 l3 1 F B
set_option maxHeartbeats 4000000 in
set_option maxRecDepth 100000 in
theorem b_Performance_merge_45 {D : va_G} {ca : Nat → ClassId} {ad : Nat → Int → Nat → Nat} {L : List Nat} {aS vS : Nat → Nat} {A : Nat → Prop} {p : Program} {l : Launch} {e : Env} {s : State} {m : MethodId} {args : Array Value} {below : List Frame} {meth : Method} {c : Code} {K : zK} {r : Int} {F9 : zF} {B9 : zB} (X : zX D ca L aS vS A p s m args meth c prog_7_method_14_code 8 (Option.none : Option Jvm.ClassFile.FieldType) "StaveHouse$Performance") {rec9 : Int → Int → Int → Int → Int → Int → zF → zB → zO} (hrec9 : ∀ {l6 : Int} {l5 : Int} {l4 : Int} {l0 : Int} {l2 : Int} {l3 : Int} {F : zF} {B : zB} {H : Heap} {locs : List Loc} {ls : Array Slot}, rec9 l6 l5 l4 l0 l2 l3 F B = some (r, F9, B9) → zH D ca ad lnC K.2 L F B A H → va_S A s.heap H locs → lv_has ls 8 [(6, .int (iI l6)), (5, .int (iI l5)), (4, .int (iI l4)), (0, .ref (ad 5 l0 0)), (2, .int (iI l2)), (3, .int (iI l3))] → W p l e ({ frames := 0, cells := 0, slots := 0, locals := 0 } : Room) s m args below meth c H locs 0 0 (MQ below (Q_Performance_merge K D ca ad L r F9 B9 A) args s 0 0 A) (F0 m 9 ls [])) {l6 : Int} {l5 : Int} {l4 : Int} {l0 : Int} {l2 : Int} {l3 : Int} {F : zF} {B : zB} {H : Heap} {locs : List Loc} {ls : Array Slot} (hf : f_Performance_merge_45 rec9 K l6 l5 l4 l0 l2 l3 F B = some (r, F9, B9)) (hZ : zH D ca ad lnC K.2 L F B A H) (hS : va_S A s.heap H locs) (hl : lv_has ls 8 [(6, .int (iI l6)), (5, .int (iI l5)), (4, .int (iI l4)), (0, .ref (ad 5 l0 0)), (2, .int (iI l2)), (3, .int (iI l3))]) : W p l e ({ frames := 0, cells := 0, slots := 0, locals := 0 } : Room) s m args below meth c H locs 0 0 (MQ below (Q_Performance_merge K D ca ad L r F9 B9 A) args s 0 0 A) (F0 m 45 ls []) := by
  obtain ⟨hx, hb, hr, hml, hown, hts, hlk, hK, hA, hL, hX⟩ := id X
  replace hf : (f_Performance_merge_50 rec9 K l6 l5 l4 l0 l2 l3 1 F B) = some (r, F9, B9) := hf
  refine lv_iconst (v := iI 1) hx hb d_7_14_45 rfl ?_
  refine lv_goto (tgt := 50) hx hb d_7_14_46 (by decide) ?_
  exact b_Performance_merge_50 X hrec9 hf hZ hS (lv_sub hl [0, 1, 2, 3, 4, 5] rfl)

noncomputable def f_Performance_merge_9 (K : zK) : Nat → Int → Int → Int → Int → Int → Int → zF → zB → zO
  | 0, _, _, _, _, _, _, _, _ => none
  | n + 1, l6, l5, l4, l0, l2, l3, F, B => if r32 l6 then if r32 l3 then (if l3 ≤ l6 then some (0, F, B) else if r32 l4 then if r32 l2 then (if l2 ≤ l4 then f_Performance_merge_49 (f_Performance_merge_9 K n) K l6 l5 l4 l0 l2 l3 F B else if r32 l5 then (if l3 ≤ l5 then f_Performance_merge_45 (f_Performance_merge_9 K n) K l6 l5 l4 l0 l2 l3 F B else if 0 ≤ l0 ∧ l0 < K.2 5 then if 0 ≤ l4 ∧ l4 < (lnC 5 l0 (F 5 l0 8).toNat : Int) then if zk 5 (F 5 l0 8).toNat = (3, 1) then if lnC 5 l0 (F 5 l0 8).toNat ≤ 2147483647 then if 0 ≤ l5 ∧ l5 < (lnC 5 l0 (F 5 l0 8).toNat : Int) then if r64 (B 5 l0 (F 5 l0 8).toNat l4) then if r64 (B 5 l0 (F 5 l0 8).toNat l5) then (if 0 < (zcmp (B 5 l0 (F 5 l0 8).toNat l4) (B 5 l0 (F 5 l0 8).toNat l5)) then f_Performance_merge_49 (f_Performance_merge_9 K n) K l6 l5 l4 l0 l2 l3 F B else f_Performance_merge_45 (f_Performance_merge_9 K n) K l6 l5 l4 l0 l2 l3 F B) else none else none else none else none else none else none else none) else none) else none else none) else none else none
