theorem d_19_50_46 : decode prog_19_method_50_code 46 = .ok (.ladd, 1) := D_97 W_prog_19_method_50_code_32 14 rfl rfl
theorem d_19_50_47 : decode prog_19_method_50_code 47 = .ok (.lstore_n 0, 1) := D_63 W_prog_19_method_50_code_32 15 rfl rfl
theorem d_19_50_48 : decode prog_19_method_50_code 48 = .ok (.lload_n 0, 1) := D_30 W_prog_19_method_50_code_32 16 rfl rfl
theorem d_19_50_49 : decode prog_19_method_50_code 49 = .ok (.lload_n 0, 1) := D_30 W_prog_19_method_50_code_32 17 rfl rfl
theorem d_19_50_50 : decode prog_19_method_50_code 50 = .ok (.bipush 32, 2) := D_16 W_prog_19_method_50_code_32 18 rfl rfl rfl
theorem d_19_50_52 : decode prog_19_method_50_code 52 = .ok (.lushr, 1) := D_125 W_prog_19_method_50_code_32 20 rfl rfl
theorem d_19_50_53 : decode prog_19_method_50_code 53 = .ok (.ladd, 1) := D_97 W_prog_19_method_50_code_32 21 rfl rfl
theorem d_19_50_54 : decode prog_19_method_50_code 54 = .ok (.lstore_n 0, 1) := D_63 W_prog_19_method_50_code_32 22 rfl rfl
theorem d_19_50_55 : decode prog_19_method_50_code 55 = .ok (.lload_n 0, 1) := D_30 W_prog_19_method_50_code_32 23 rfl rfl
theorem d_19_50_56 : decode prog_19_method_50_code 56 = .ok (.l2i, 1) := D_136 W_prog_19_method_50_code_32 24 rfl rfl
theorem d_19_50_57 : decode prog_19_method_50_code 57 = .ok (.bipush 127, 2) := D_16 W_prog_19_method_50_code_32 25 rfl rfl rfl
theorem d_19_50_59 : decode prog_19_method_50_code 59 = .ok (.iand, 1) := D_126 W_prog_19_method_50_code_32 27 rfl rfl
theorem d_19_50_60 : decode prog_19_method_50_code 60 = .ok (.ireturn, 1) := D_172 W_prog_19_method_50_code_32 28 rfl rfl
theorem W_prog_5_method_28_code_0 : chW prog_5_method_28_code 0 [42, 180, 0, 48, 180, 0, 108, 7, 160, 0, 19, 178, 0, 215, 42, 180, 0, 48, 180, 0, 173, 184, 0, 193, 167, 0, 4, 2, 61, 28, 2, 160, 0, 9, 42, 5] := chW_of (by decide +kernel)
theorem d_5_28_0 : decode prog_5_method_28_code 0 = .ok (.aload_n 0, 1) := D_42 W_prog_5_method_28_code_0 0 rfl rfl
theorem d_5_28_1 : decode prog_5_method_28_code 1 = .ok (.getfield 48, 3) := D_180 W_prog_5_method_28_code_0 1 rfl rfl rfl
theorem d_5_28_4 : decode prog_5_method_28_code 4 = .ok (.getfield 108, 3) := D_180 W_prog_5_method_28_code_0 4 rfl rfl rfl
theorem d_5_28_7 : decode prog_5_method_28_code 7 = .ok (.iconst 4, 1) := D_7 W_prog_5_method_28_code_0 7 rfl rfl
theorem d_5_28_8 : decode prog_5_method_28_code 8 = .ok (.if_icmp .ne 19, 3) := D_160 W_prog_5_method_28_code_0 8 rfl rfl rfl
theorem d_5_28_27 : decode prog_5_method_28_code 27 = .ok (.iconst (-1), 1) := D_2 W_prog_5_method_28_code_0 27 rfl rfl
theorem d_5_28_11 : decode prog_5_method_28_code 11 = .ok (.getstatic 215, 3) := D_178 W_prog_5_method_28_code_0 11 rfl rfl rfl
theorem d_5_28_14 : decode prog_5_method_28_code 14 = .ok (.aload_n 0, 1) := D_42 W_prog_5_method_28_code_0 14 rfl rfl
theorem d_5_28_15 : decode prog_5_method_28_code 15 = .ok (.getfield 48, 3) := D_180 W_prog_5_method_28_code_0 15 rfl rfl rfl
theorem d_5_28_18 : decode prog_5_method_28_code 18 = .ok (.getfield 173, 3) := D_180 W_prog_5_method_28_code_0 18 rfl rfl rfl
theorem d_5_28_21 : decode prog_5_method_28_code 21 = .ok (.invokestatic 193, 3) := D_184 W_prog_5_method_28_code_0 21 rfl rfl rfl
theorem d_5_28_24 : decode prog_5_method_28_code 24 = .ok (.goto 4, 3) := D_167 W_prog_5_method_28_code_0 24 rfl rfl rfl
theorem d_5_28_28 : decode prog_5_method_28_code 28 = .ok (.istore_n 2, 1) := D_61 W_prog_5_method_28_code_0 28 rfl rfl
theorem d_5_28_29 : decode prog_5_method_28_code 29 = .ok (.iload_n 2, 1) := D_28 W_prog_5_method_28_code_0 29 rfl rfl
theorem d_5_28_30 : decode prog_5_method_28_code 30 = .ok (.iconst (-1), 1) := D_2 W_prog_5_method_28_code_0 30 rfl rfl
theorem d_5_28_31 : decode prog_5_method_28_code 31 = .ok (.if_icmp .ne 9, 3) := D_160 W_prog_5_method_28_code_0 31 rfl rfl rfl
theorem W_prog_5_method_28_code_32 : chW prog_5_method_28_code 32 [0, 9, 42, 5, 182, 0, 101, 172, 42, 180, 0, 18, 27, 28, 79, 42, 180, 0, 48, 182, 0, 122, 4, 172] := chW_of (by decide +kernel)
theorem d_5_28_40 : decode prog_5_method_28_code 40 = .ok (.aload_n 0, 1) := D_42 W_prog_5_method_28_code_32 8 rfl rfl
theorem d_5_28_41 : decode prog_5_method_28_code 41 = .ok (.getfield 18, 3) := D_180 W_prog_5_method_28_code_32 9 rfl rfl rfl
theorem d_5_28_44 : decode prog_5_method_28_code 44 = .ok (.iload_n 1, 1) := D_27 W_prog_5_method_28_code_32 12 rfl rfl
theorem d_5_28_45 : decode prog_5_method_28_code 45 = .ok (.iload_n 2, 1) := D_28 W_prog_5_method_28_code_32 13 rfl rfl
theorem d_5_28_46 : decode prog_5_method_28_code 46 = .ok (.iastore, 1) := D_79 W_prog_5_method_28_code_32 14 rfl rfl
theorem d_5_28_47 : decode prog_5_method_28_code 47 = .ok (.aload_n 0, 1) := D_42 W_prog_5_method_28_code_32 15 rfl rfl
theorem d_5_28_48 : decode prog_5_method_28_code 48 = .ok (.getfield 48, 3) := D_180 W_prog_5_method_28_code_32 16 rfl rfl rfl
theorem d_5_28_51 : decode prog_5_method_28_code 51 = .ok (.invokevirtual 122, 3) := D_182 W_prog_5_method_28_code_32 19 rfl rfl rfl
theorem d_5_28_54 : decode prog_5_method_28_code 54 = .ok (.iconst 1, 1) := D_4 W_prog_5_method_28_code_32 22 rfl rfl
theorem d_5_28_55 : decode prog_5_method_28_code 55 = .ok (.ireturn, 1) := D_172 W_prog_5_method_28_code_32 23 rfl rfl
theorem d_5_28_34 : decode prog_5_method_28_code 34 = .ok (.aload_n 0, 1) := D_42 W_prog_5_method_28_code_32 2 rfl rfl
theorem d_5_28_35 : decode prog_5_method_28_code 35 = .ok (.iconst 2, 1) := D_5 W_prog_5_method_28_code_32 3 rfl rfl
theorem d_5_28_36 : decode prog_5_method_28_code 36 = .ok (.invokevirtual 101, 3) := D_182 W_prog_5_method_28_code_32 4 rfl rfl rfl
theorem d_5_28_39 : decode prog_5_method_28_code 39 = .ok (.ireturn, 1) := D_172 W_prog_5_method_28_code_32 7 rfl rfl
theorem W_prog_20_method_47_code_0 : chW prog_20_method_47_code 0 [26, 27, 108, 61, 26, 27, 130, 156, 0, 14, 28, 27, 104, 26, 159, 0, 7, 28, 4, 100, 172, 28, 172] := chW_of (by decide +kernel)
theorem d_20_47_0 : decode prog_20_method_47_code 0 = .ok (.iload_n 0, 1) := D_26 W_prog_20_method_47_code_0 0 rfl rfl
theorem d_20_47_1 : decode prog_20_method_47_code 1 = .ok (.iload_n 1, 1) := D_27 W_prog_20_method_47_code_0 1 rfl rfl
theorem d_20_47_2 : decode prog_20_method_47_code 2 = .ok (.idiv, 1) := D_108 W_prog_20_method_47_code_0 2 rfl rfl
theorem d_20_47_3 : decode prog_20_method_47_code 3 = .ok (.istore_n 2, 1) := D_61 W_prog_20_method_47_code_0 3 rfl rfl
theorem d_20_47_4 : decode prog_20_method_47_code 4 = .ok (.iload_n 0, 1) := D_26 W_prog_20_method_47_code_0 4 rfl rfl
theorem d_20_47_5 : decode prog_20_method_47_code 5 = .ok (.iload_n 1, 1) := D_27 W_prog_20_method_47_code_0 5 rfl rfl
theorem d_20_47_6 : decode prog_20_method_47_code 6 = .ok (.ixor, 1) := D_130 W_prog_20_method_47_code_0 6 rfl rfl
theorem d_20_47_7 : decode prog_20_method_47_code 7 = .ok (.ifCond .ge 14, 3) := D_156 W_prog_20_method_47_code_0 7 rfl rfl rfl
theorem d_20_47_10 : decode prog_20_method_47_code 10 = .ok (.iload_n 2, 1) := D_28 W_prog_20_method_47_code_0 10 rfl rfl
theorem d_20_47_11 : decode prog_20_method_47_code 11 = .ok (.iload_n 1, 1) := D_27 W_prog_20_method_47_code_0 11 rfl rfl
theorem d_20_47_12 : decode prog_20_method_47_code 12 = .ok (.imul, 1) := D_104 W_prog_20_method_47_code_0 12 rfl rfl
theorem d_20_47_13 : decode prog_20_method_47_code 13 = .ok (.iload_n 0, 1) := D_26 W_prog_20_method_47_code_0 13 rfl rfl
theorem d_20_47_14 : decode prog_20_method_47_code 14 = .ok (.if_icmp .eq 7, 3) := D_159 W_prog_20_method_47_code_0 14 rfl rfl rfl
theorem d_20_47_17 : decode prog_20_method_47_code 17 = .ok (.iload_n 2, 1) := D_28 W_prog_20_method_47_code_0 17 rfl rfl
theorem d_20_47_18 : decode prog_20_method_47_code 18 = .ok (.iconst 1, 1) := D_4 W_prog_20_method_47_code_0 18 rfl rfl
theorem d_20_47_19 : decode prog_20_method_47_code 19 = .ok (.isub, 1) := D_100 W_prog_20_method_47_code_0 19 rfl rfl
theorem d_20_47_20 : decode prog_20_method_47_code 20 = .ok (.ireturn, 1) := D_172 W_prog_20_method_47_code_0 20 rfl rfl
theorem d_20_47_21 : decode prog_20_method_47_code 21 = .ok (.iload_n 2, 1) := D_28 W_prog_20_method_47_code_0 21 rfl rfl
theorem d_20_47_22 : decode prog_20_method_47_code 22 = .ok (.ireturn, 1) := D_172 W_prog_20_method_47_code_0 22 rfl rfl
theorem W_prog_20_method_50_code_0 : chW prog_20_method_50_code 0 [26, 27, 112, 61, 26, 27, 130, 156, 0, 11, 28, 153, 0, 7, 28, 27, 96, 172, 28, 172] := chW_of (by decide +kernel)
theorem d_20_50_0 : decode prog_20_method_50_code 0 = .ok (.iload_n 0, 1) := D_26 W_prog_20_method_50_code_0 0 rfl rfl
theorem d_20_50_1 : decode prog_20_method_50_code 1 = .ok (.iload_n 1, 1) := D_27 W_prog_20_method_50_code_0 1 rfl rfl
theorem d_20_50_2 : decode prog_20_method_50_code 2 = .ok (.irem, 1) := D_112 W_prog_20_method_50_code_0 2 rfl rfl
theorem d_20_50_3 : decode prog_20_method_50_code 3 = .ok (.istore_n 2, 1) := D_61 W_prog_20_method_50_code_0 3 rfl rfl
theorem d_20_50_4 : decode prog_20_method_50_code 4 = .ok (.iload_n 0, 1) := D_26 W_prog_20_method_50_code_0 4 rfl rfl
theorem d_20_50_5 : decode prog_20_method_50_code 5 = .ok (.iload_n 1, 1) := D_27 W_prog_20_method_50_code_0 5 rfl rfl
theorem d_20_50_6 : decode prog_20_method_50_code 6 = .ok (.ixor, 1) := D_130 W_prog_20_method_50_code_0 6 rfl rfl
theorem d_20_50_7 : decode prog_20_method_50_code 7 = .ok (.ifCond .ge 11, 3) := D_156 W_prog_20_method_50_code_0 7 rfl rfl rfl
theorem d_20_50_10 : decode prog_20_method_50_code 10 = .ok (.iload_n 2, 1) := D_28 W_prog_20_method_50_code_0 10 rfl rfl
theorem d_20_50_11 : decode prog_20_method_50_code 11 = .ok (.ifCond .eq 7, 3) := D_153 W_prog_20_method_50_code_0 11 rfl rfl rfl
theorem d_20_50_14 : decode prog_20_method_50_code 14 = .ok (.iload_n 2, 1) := D_28 W_prog_20_method_50_code_0 14 rfl rfl
theorem d_20_50_15 : decode prog_20_method_50_code 15 = .ok (.iload_n 1, 1) := D_27 W_prog_20_method_50_code_0 15 rfl rfl
theorem d_20_50_16 : decode prog_20_method_50_code 16 = .ok (.iadd, 1) := D_96 W_prog_20_method_50_code_0 16 rfl rfl
theorem d_20_50_17 : decode prog_20_method_50_code 17 = .ok (.ireturn, 1) := D_172 W_prog_20_method_50_code_0 17 rfl rfl
theorem d_20_50_18 : decode prog_20_method_50_code 18 = .ok (.iload_n 2, 1) := D_28 W_prog_20_method_50_code_0 18 rfl rfl
theorem d_20_50_19 : decode prog_20_method_50_code 19 = .ok (.ireturn, 1) := D_172 W_prog_20_method_50_code_0 19 rfl rfl
set_option maxRecDepth 20000 in
theorem inW_0 : ∀ w ∈ u_ws RX0 TX0 3, w ∈ wAll := by
  show ∀ w ∈ [(Jvm.Cond.laysFinal "StaveHouse$ByteRow" "StaveHouse$ByteRow" "bytes" "[I"), (Jvm.Cond.lays "StaveHouse$ByteRow" "StaveHouse$ByteRow" "size" "I"), (Jvm.Cond.lays "StaveHouse$ByteRow" "StaveHouse$ByteRow" "full" "Z")], w ∈ wAll
  exact List.forall_mem_cons.mpr ⟨k_1_50, List.forall_mem_cons.mpr ⟨k_1_52, List.forall_mem_cons.mpr ⟨k_1_54, fun _ h => absurd h List.not_mem_nil⟩⟩⟩
set_option maxRecDepth 20000 in
theorem inW_2 : ∀ w ∈ u_ws RX2 TX2 13, w ∈ wAll := by
  show ∀ w ∈ [(Jvm.Cond.lays "StaveHouse$Layout" "StaveHouse$Layout" "lineCount" "I"), (Jvm.Cond.laysFinal "StaveHouse$Layout" "StaveHouse$Layout" "columnPlaces" "[J"), (Jvm.Cond.laysFinal "StaveHouse$Layout" "StaveHouse$Layout" "columnWidths" "[I"), (Jvm.Cond.laysFinal "StaveHouse$Layout" "StaveHouse$Layout" "columnXs" "[I"), (Jvm.Cond.lays "StaveHouse$Layout" "StaveHouse$Layout" "columns" "I"), (Jvm.Cond.laysFinal "StaveHouse$Layout" "StaveHouse$Layout" "barFirsts" "[I"), (Jvm.Cond.laysFinal "StaveHouse$Layout" "StaveHouse$Layout" "barWidths" "[I"), (Jvm.Cond.laysFinal "StaveHouse$Layout" "StaveHouse$Layout" "lineFirsts" "[I"), (Jvm.Cond.laysFinal "StaveHouse$Layout" "StaveHouse$Layout" "lineWidths" "[I"), (Jvm.Cond.laysFinal "StaveHouse$Layout" "StaveHouse$Layout" "linePrices" "[J"), (Jvm.Cond.laysFinal "StaveHouse$Layout" "StaveHouse$Layout" "best" "[J"), (Jvm.Cond.laysFinal "StaveHouse$Layout" "StaveHouse$Layout" "breaks" "[I"), (Jvm.Cond.laysFinal "StaveHouse$Layout" "StaveHouse$Layout" "nexts" "[I")], w ∈ wAll
  exact List.forall_mem_cons.mpr ⟨k_6_230, List.forall_mem_cons.mpr ⟨k_6_232, List.forall_mem_cons.mpr ⟨k_6_234, List.forall_mem_cons.mpr ⟨k_6_236, List.forall_mem_cons.mpr ⟨k_6_238, List.forall_mem_cons.mpr ⟨k_7_0, List.forall_mem_cons.mpr ⟨k_7_2, List.forall_mem_cons.mpr ⟨k_7_4, List.forall_mem_cons.mpr ⟨k_7_6, List.forall_mem_cons.mpr ⟨k_7_8, List.forall_mem_cons.mpr ⟨k_7_10, List.forall_mem_cons.mpr ⟨k_7_12, List.forall_mem_cons.mpr ⟨k_7_14, fun _ h => absurd h List.not_mem_nil⟩⟩⟩⟩⟩⟩⟩⟩⟩⟩⟩⟩⟩
set_option maxRecDepth 20000 in
theorem inW_3 : ∀ w ∈ u_ws RX3 TX3 22, w ∈ wAll := by
  show ∀ w ∈ [(Jvm.Cond.laysFinal "StaveHouse$Parser" "StaveHouse$Parser" "kind" "[I"), (Jvm.Cond.laysFinal "StaveHouse$Parser" "StaveHouse$Parser" "place" "[I"), (Jvm.Cond.laysFinal "StaveHouse$Parser" "StaveHouse$Parser" "first" "[I"), (Jvm.Cond.laysFinal "StaveHouse$Parser" "StaveHouse$Parser" "second" "[I"), (Jvm.Cond.laysFinal "StaveHouse$Parser" "StaveHouse$Parser" "child" "[I"), (Jvm.Cond.laysFinal "StaveHouse$Parser" "StaveHouse$Parser" "next" "[I"), (Jvm.Cond.laysFinal "StaveHouse$Parser" "StaveHouse$Parser" "count" "[I"), (Jvm.Cond.laysFinal "StaveHouse$Parser" "StaveHouse$Parser" "marks" "[I"), (Jvm.Cond.laysFinal "StaveHouse$Parser" "StaveHouse$Parser" "pitchSteps" "[I"), (Jvm.Cond.laysFinal "StaveHouse$Parser" "StaveHouse$Parser" "pitchAlterations" "[I"), (Jvm.Cond.laysFinal "StaveHouse$Parser" "StaveHouse$Parser" "pitchPlaces" "[I"), (Jvm.Cond.laysFinal "StaveHouse$Parser" "StaveHouse$Parser" "token" "LStaveHouse$Tokens;"), (Jvm.Cond.laysFinal "StaveHouse$Parser" "StaveHouse$Parser" "letNames" "[J"), (Jvm.Cond.laysFinal "StaveHouse$Parser" "StaveHouse$Parser" "letItems" "[I"), (Jvm.Cond.lays "StaveHouse$Parser" "StaveHouse$Parser" "items" "I"), (Jvm.Cond.lays "StaveHouse$Parser" "StaveHouse$Parser" "pitches" "I"), (Jvm.Cond.lays "StaveHouse$Parser" "StaveHouse$Parser" "lets" "I"), (Jvm.Cond.lays "StaveHouse$Parser" "StaveHouse$Parser" "headsTold" "I"), (Jvm.Cond.lays "StaveHouse$Parser" "StaveHouse$Parser" "depth" "I"), (Jvm.Cond.lays "StaveHouse$Parser" "StaveHouse$Parser" "number" "I"), (Jvm.Cond.lays "StaveHouse$Parser" "StaveHouse$Parser" "length" "I"), (Jvm.Cond.lays "StaveHouse$Parser" "StaveHouse$Parser" "wrong" "I")], w ∈ wAll
  exact List.forall_mem_cons.mpr ⟨k_1_139, List.forall_mem_cons.mpr ⟨k_1_141, List.forall_mem_cons.mpr ⟨k_1_143, List.forall_mem_cons.mpr ⟨k_1_145, List.forall_mem_cons.mpr ⟨k_1_147, List.forall_mem_cons.mpr ⟨k_1_149, List.forall_mem_cons.mpr ⟨k_1_151, List.forall_mem_cons.mpr ⟨k_1_153, List.forall_mem_cons.mpr ⟨k_1_155, List.forall_mem_cons.mpr ⟨k_1_157, List.forall_mem_cons.mpr ⟨k_1_159, List.forall_mem_cons.mpr ⟨k_1_161, List.forall_mem_cons.mpr ⟨k_1_163, List.forall_mem_cons.mpr ⟨k_1_165, List.forall_mem_cons.mpr ⟨k_1_167, List.forall_mem_cons.mpr ⟨k_1_169, List.forall_mem_cons.mpr ⟨k_1_171, List.forall_mem_cons.mpr ⟨k_1_173, List.forall_mem_cons.mpr ⟨k_1_175, List.forall_mem_cons.mpr ⟨k_1_177, List.forall_mem_cons.mpr ⟨k_1_179, List.forall_mem_cons.mpr ⟨k_1_181, fun _ h => absurd h List.not_mem_nil⟩⟩⟩⟩⟩⟩⟩⟩⟩⟩⟩⟩⟩⟩⟩⟩⟩⟩⟩⟩⟩⟩
set_option maxRecDepth 20000 in
theorem inW_6 : ∀ w ∈ u_ws RX6 TX6 14, w ∈ wAll := by
  show ∀ w ∈ [(Jvm.Cond.laysFinal "StaveHouse$Piece" "StaveHouse$Piece" "parts" "[LStaveHouse$Part;"), (Jvm.Cond.lays "StaveHouse$Piece" "StaveHouse$Piece" "partCount" "I"), (Jvm.Cond.lays "StaveHouse$Piece" "StaveHouse$Piece" "fifths" "I"), (Jvm.Cond.lays "StaveHouse$Piece" "StaveHouse$Piece" "minor" "I"), (Jvm.Cond.lays "StaveHouse$Piece" "StaveHouse$Piece" "above" "I"), (Jvm.Cond.lays "StaveHouse$Piece" "StaveHouse$Piece" "below" "I"), (Jvm.Cond.lays "StaveHouse$Piece" "StaveHouse$Piece" "tempo" "I"), (Jvm.Cond.lays "StaveHouse$Piece" "StaveHouse$Piece" "bars" "I"), (Jvm.Cond.lays "StaveHouse$Piece" "StaveHouse$Piece" "layout" "LStaveHouse$Layout;"), (Jvm.Cond.lays "StaveHouse$Piece" "StaveHouse$Piece" "performance" "LStaveHouse$Performance;"), (Jvm.Cond.lays "StaveHouse$Piece" "StaveHouse$Piece" "performed" "Z"), (Jvm.Cond.lays "StaveHouse$Piece" "StaveHouse$Piece" "sounded" "Z"), (Jvm.Cond.lays "StaveHouse$Piece" "StaveHouse$Piece" "study" "LStaveHouse$Study;"), (Jvm.Cond.lays "StaveHouse$Piece" "StaveHouse$Piece" "studied" "Z")], w ∈ wAll
  exact List.forall_mem_cons.mpr ⟨k_2_233, List.forall_mem_cons.mpr ⟨k_2_235, List.forall_mem_cons.mpr ⟨k_2_237, List.forall_mem_cons.mpr ⟨k_2_239, List.forall_mem_cons.mpr ⟨k_3_1, List.forall_mem_cons.mpr ⟨k_3_3, List.forall_mem_cons.mpr ⟨k_3_5, List.forall_mem_cons.mpr ⟨k_3_7, List.forall_mem_cons.mpr ⟨k_3_9, List.forall_mem_cons.mpr ⟨k_3_11, List.forall_mem_cons.mpr ⟨k_3_13, List.forall_mem_cons.mpr ⟨k_3_15, List.forall_mem_cons.mpr ⟨k_3_17, List.forall_mem_cons.mpr ⟨k_3_19, fun _ h => absurd h List.not_mem_nil⟩⟩⟩⟩⟩⟩⟩⟩⟩⟩⟩⟩⟩⟩
set_option maxRecDepth 20000 in
theorem inW_10 : ∀ w ∈ u_ws RX10 TX10 9, w ∈ wAll := by
  show ∀ w ∈ [(Jvm.Cond.lays "StaveHouse$Tokens" "StaveHouse$Tokens" "kind" "I"), (Jvm.Cond.lays "StaveHouse$Tokens" "StaveHouse$Tokens" "place" "I"), (Jvm.Cond.lays "StaveHouse$Tokens" "StaveHouse$Tokens" "value" "J"), (Jvm.Cond.lays "StaveHouse$Tokens" "StaveHouse$Tokens" "step" "I"), (Jvm.Cond.lays "StaveHouse$Tokens" "StaveHouse$Tokens" "alteration" "I"), (Jvm.Cond.laysFinal "StaveHouse$Tokens" "StaveHouse$Tokens" "kinds" "[I"), (Jvm.Cond.laysFinal "StaveHouse$Tokens" "StaveHouse$Tokens" "places" "[I"), (Jvm.Cond.laysFinal "StaveHouse$Tokens" "StaveHouse$Tokens" "values" "[J"), (Jvm.Cond.lays "StaveHouse$Tokens" "StaveHouse$Tokens" "next" "I")], w ∈ wAll
  exact List.forall_mem_cons.mpr ⟨k_1_86, List.forall_mem_cons.mpr ⟨k_1_88, List.forall_mem_cons.mpr ⟨k_1_90, List.forall_mem_cons.mpr ⟨k_1_92, List.forall_mem_cons.mpr ⟨k_1_94, List.forall_mem_cons.mpr ⟨k_1_96, List.forall_mem_cons.mpr ⟨k_1_98, List.forall_mem_cons.mpr ⟨k_1_100, List.forall_mem_cons.mpr ⟨k_1_102, fun _ h => absurd h List.not_mem_nil⟩⟩⟩⟩⟩⟩⟩⟩⟩
set_option maxRecDepth 20000 in
theorem inW_12 : ∀ w ∈ u_ws RX12 TX12 10, w ∈ wAll := by
  show ∀ w ∈ [(Jvm.Cond.laysFinal "StaveHouse" "StaveHouse" "tape" "LStaveHouse$ByteRow;"), (Jvm.Cond.laysFinal "StaveHouse" "StaveHouse" "waiting" "[I"), (Jvm.Cond.laysFinal "StaveHouse" "StaveHouse" "written" "LStaveHouse$ByteRow;"), (Jvm.Cond.laysFinal "StaveHouse" "StaveHouse" "pieces" "[LStaveHouse$Piece;"), (Jvm.Cond.laysFinal "StaveHouse" "StaveHouse" "parser" "LStaveHouse$Parser;"), (Jvm.Cond.laysFinal "StaveHouse" "StaveHouse" "walker" "LStaveHouse$Walker;"), (Jvm.Cond.laysFinal "StaveHouse" "StaveHouse" "scribe" "LStaveHouse$Scribe;"), (Jvm.Cond.lays "StaveHouse" "StaveHouse" "spare" "LStaveHouse$Piece;"), (Jvm.Cond.lays "StaveHouse" "StaveHouse" "opened" "LStaveHouse$SoundFile;"), (Jvm.Cond.lays "StaveHouse" "StaveHouse" "spareFile" "LStaveHouse$SoundFile;")], w ∈ wAll
  exact List.forall_mem_cons.mpr ⟨k_2_137, List.forall_mem_cons.mpr ⟨k_2_139, List.forall_mem_cons.mpr ⟨k_2_141, List.forall_mem_cons.mpr ⟨k_2_143, List.forall_mem_cons.mpr ⟨k_2_145, List.forall_mem_cons.mpr ⟨k_2_147, List.forall_mem_cons.mpr ⟨k_2_149, List.forall_mem_cons.mpr ⟨k_2_151, List.forall_mem_cons.mpr ⟨k_2_153, List.forall_mem_cons.mpr ⟨k_2_155, fun _ h => absurd h List.not_mem_nil⟩⟩⟩⟩⟩⟩⟩⟩⟩⟩
noncomputable abbrev Q_CPreconditions_checkFromToIndex (K : zK) (D : va_G) (ca : Nat → ClassId) (ad : Nat → Int → Nat → Nat) (L : List Nat) (r : Int) (F : zF) (B : zB) (A : Nat → Prop) : Array Value → State → Outcome → State → Prop := va_Qi (S := Unit) (fun p _ => p = iI r) (fun _ => zPo D ca ad lnC K.2 L F B A) A
noncomputable def f_CPreconditions_checkFromToIndex_14 (K : zK) (l0 : Int) (l1 : Int) (l2 : Int) (F : zF) (B : zB) : zO := none
set_option maxHeartbeats 4000000 in
set_option maxRecDepth 100000 in
theorem b_CPreconditions_checkFromToIndex_14 {D : va_G} {ca : Nat → ClassId} {ad : Nat → Int → Nat → Nat} {L : List Nat} {aS vS : Nat → Nat} {A : Nat → Prop} {p : Program} {l : Launch} {e : Env} {s : State} {m : MethodId} {args : Array Value} {below : List Frame} {meth : Method} {c : Code} {K : zK} {r : Int} {F9 : zF} {B9 : zB} (X : zX D ca L aS vS A p s m args meth c prog_24_method_12_code 4 (Option.some Jvm.ClassFile.FieldType.int) "jdk/internal/util/Preconditions") {l0 : Int} {l1 : Int} {l2 : Int} {F : zF} {B : zB} {H : Heap} {locs : List Loc} {ls : Array Slot} (hf : f_CPreconditions_checkFromToIndex_14 K l0 l1 l2 F B = some (r, F9, B9)) (hZ : zH D ca ad lnC K.2 L F B A H) (hS : va_S A s.heap H locs) (hl : lv_has ls 4 [(0, .int (iI l0)), (1, .int (iI l1)), (2, .int (iI l2))]) : W p l e ({ frames := 0, cells := 0, slots := 0, locals := 0 } : Room) s m args below meth c H locs 0 0 (MQ below (Q_CPreconditions_checkFromToIndex K D ca ad L r F9 B9 A) args s 0 0 A) (F0 m 14 ls []) := by
  obtain ⟨hx, hb, hr, hml, hown, hts, hlk, hK, hA, hL, hX⟩ := id X
  replace hf : (none) = some (r, F9, B9) := hf
  cases hf

noncomputable def f_CPreconditions_checkFromToIndex (K : zK) (l0 : Int) (l1 : Int) (l2 : Int) (F : zF) (B : zB) : zO := if r32 l0 then (if l0 < 0 then f_CPreconditions_checkFromToIndex_14 K l0 l1 l2 F B else if r32 l1 then (if l1 < l0 then f_CPreconditions_checkFromToIndex_14 K l0 l1 l2 F B else if r32 l2 then (if l1 ≤ l2 then some (l0, F, B) else f_CPreconditions_checkFromToIndex_14 K l0 l1 l2 F B) else none) else none) else none
set_option maxHeartbeats 4000000 in
set_option maxRecDepth 100000 in
theorem c_CPreconditions_checkFromToIndex {l : Launch} {D : va_G} {ca : Nat → ClassId} {ad : Nat → Int → Nat → Nat} {L : List Nat} {aS vS : Nat → Nat} {sz : Nat} {K : zK} {l3 : Option Nat} {l0 : Int} {l1 : Int} {l2 : Int} {F F9 : zF} {B B9 : zB} {r : Int} (hf : f_CPreconditions_checkFromToIndex K l0 l1 l2 F B = some (r, F9, B9)) : Met l ({ cls := "jdk/internal/util/Preconditions", name := "checkFromToIndex", desc := "(IIILjava/util/function/BiFunction;)I" } : Jvm.MethodName) (Cond.code ({ cls := "jdk/internal/util/Preconditions", name := "checkFromToIndex", desc := "(IIILjava/util/function/BiFunction;)I" } : Jvm.MethodName) prog_24_method_12_code 4 (Option.some Jvm.ClassFile.FieldType.int) :: wAll) ({ frames := 0, cells := 0, slots := 0, locals := 0 } : Room) (va_Pc [.int (iI l0), .int (iI l1), .int (iI l2), va_rf l3] (zPre D ca ad lnC K.2 L aS vS F B sz)) (Q_CPreconditions_checkFromToIndex K D ca ad L r F9 B9 (zA L sz)) 0 0 (zA L sz) := by
  refine zMet (Qc := Q_CPreconditions_checkFromToIndex K D ca ad L r F9 B9) (lv := [(0, .int (iI l0)), (1, .int (iI l1)), (2, .int (iI l2)), (3, va_rf l3)]) (by decide) (by cases l3 <;> exact Nat.le_of_ble_eq_true rfl) (by cases l3 <;> rfl) (fun A p e s m below meth c ls X hZ hS hl => ?_)
  obtain ⟨hx, hb, hr, hml, hown, hts, hlk, hK, hA, hL, hX⟩ := id X
  replace hf : (if r32 l0 then (if l0 < 0 then f_CPreconditions_checkFromToIndex_14 K l0 l1 l2 F B else if r32 l1 then (if l1 < l0 then f_CPreconditions_checkFromToIndex_14 K l0 l1 l2 F B else if r32 l2 then (if l1 ≤ l2 then some (l0, F, B) else f_CPreconditions_checkFromToIndex_14 K l0 l1 l2 F B) else none) else none) else none) = some (r, F9, B9) := hf
  refine lv_iload_n hx hb d_24_12_0 rfl (lv_at hl 0 rfl) ?_
  obtain ⟨g1, hf⟩ := gif hf
  refine z0lt (tgt := 14) hx hb g1 d_24_12_1 (by decide) (fun h2 => ?_) (fun h2 => ?_)
  · replace hf := gpos hf h2
    exact b_CPreconditions_checkFromToIndex_14 X hf hZ hS (lv_sub hl [0, 1, 2] rfl)
  · replace hf := gneg hf h2
    refine lv_iload_n hx hb d_24_12_4 rfl (lv_at hl 0 rfl) ?_
    refine lv_iload_n hx hb d_24_12_5 rfl (lv_at hl 1 rfl) ?_
    obtain ⟨g3, hf⟩ := gif hf
    refine zgt (tgt := 14) hx hb g1 g3 d_24_12_6 (by decide) (fun h4 => ?_) (fun h4 => ?_)
    · replace hf := gpos hf h4
      exact b_CPreconditions_checkFromToIndex_14 X hf hZ hS (lv_sub hl [0, 1, 2] rfl)
    · replace hf := gneg hf h4
      refine lv_iload_n hx hb d_24_12_9 rfl (lv_at hl 1 rfl) ?_
      refine lv_iload_n hx hb d_24_12_10 rfl (lv_at hl 2 rfl) ?_
      obtain ⟨g5, hf⟩ := gif hf
      refine zle (tgt := 22) hx hb g3 g5 d_24_12_11 (by decide) (fun h6 => ?_) (fun h6 => ?_)
      · replace hf := gpos hf h6
        refine lv_iload_n hx hb d_24_12_22 rfl (lv_at hl 0 rfl) ?_
        cases hf
        exact W.iret hx hb hr (fun t ht hW => ⟨⟨_, (), rfl, rfl, by rw [ht]; exact hZ, va_K.moved hW.alike hK⟩, hS.F ht⟩) hS.2.2 d_24_12_23 hlk
      · replace hf := gneg hf h6
        exact b_CPreconditions_checkFromToIndex_14 X hf hZ hS (lv_sub hl [0, 1, 2] rfl)

noncomputable abbrev Q_CPreconditions_checkIndex (K : zK) (D : va_G) (ca : Nat → ClassId) (ad : Nat → Int → Nat → Nat) (L : List Nat) (r : Int) (F : zF) (B : zB) (A : Nat → Prop) : Array Value → State → Outcome → State → Prop := va_Qi (S := Unit) (fun p _ => p = iI r) (fun _ => zPo D ca ad lnC K.2 L F B A) A
noncomputable def f_CPreconditions_checkIndex_9 (K : zK) (l0 : Int) (l1 : Int) (F : zF) (B : zB) : zO := none
set_option maxHeartbeats 4000000 in
set_option maxRecDepth 100000 in
theorem b_CPreconditions_checkIndex_9 {D : va_G} {ca : Nat → ClassId} {ad : Nat → Int → Nat → Nat} {L : List Nat} {aS vS : Nat → Nat} {A : Nat → Prop} {p : Program} {l : Launch} {e : Env} {s : State} {m : MethodId} {args : Array Value} {below : List Frame} {meth : Method} {c : Code} {K : zK} {r : Int} {F9 : zF} {B9 : zB} (X : zX D ca L aS vS A p s m args meth c prog_24_method_11_code 3 (Option.some Jvm.ClassFile.FieldType.int) "jdk/internal/util/Preconditions") {l0 : Int} {l1 : Int} {F : zF} {B : zB} {H : Heap} {locs : List Loc} {ls : Array Slot} (hf : f_CPreconditions_checkIndex_9 K l0 l1 F B = some (r, F9, B9)) (hZ : zH D ca ad lnC K.2 L F B A H) (hS : va_S A s.heap H locs) (hl : lv_has ls 3 [(0, .int (iI l0)), (1, .int (iI l1))]) : W p l e ({ frames := 0, cells := 0, slots := 0, locals := 0 } : Room) s m args below meth c H locs 0 0 (MQ below (Q_CPreconditions_checkIndex K D ca ad L r F9 B9 A) args s 0 0 A) (F0 m 9 ls []) := by
  obtain ⟨hx, hb, hr, hml, hown, hts, hlk, hK, hA, hL, hX⟩ := id X
  replace hf : (none) = some (r, F9, B9) := hf
  cases hf

noncomputable def f_CPreconditions_checkIndex (K : zK) (l0 : Int) (l1 : Int) (F : zF) (B : zB) : zO := if r32 l0 then (if l0 < 0 then f_CPreconditions_checkIndex_9 K l0 l1 F B else if r32 l1 then (if l0 < l1 then some (l0, F, B) else f_CPreconditions_checkIndex_9 K l0 l1 F B) else none) else none
set_option maxHeartbeats 4000000 in
set_option maxRecDepth 100000 in
theorem c_CPreconditions_checkIndex {l : Launch} {D : va_G} {ca : Nat → ClassId} {ad : Nat → Int → Nat → Nat} {L : List Nat} {aS vS : Nat → Nat} {sz : Nat} {K : zK} {l2 : Option Nat} {l0 : Int} {l1 : Int} {F F9 : zF} {B B9 : zB} {r : Int} (hf : f_CPreconditions_checkIndex K l0 l1 F B = some (r, F9, B9)) : Met l ({ cls := "jdk/internal/util/Preconditions", name := "checkIndex", desc := "(IILjava/util/function/BiFunction;)I" } : Jvm.MethodName) (Cond.code ({ cls := "jdk/internal/util/Preconditions", name := "checkIndex", desc := "(IILjava/util/function/BiFunction;)I" } : Jvm.MethodName) prog_24_method_11_code 3 (Option.some Jvm.ClassFile.FieldType.int) :: wAll) ({ frames := 0, cells := 0, slots := 0, locals := 0 } : Room) (va_Pc [.int (iI l0), .int (iI l1), va_rf l2] (zPre D ca ad lnC K.2 L aS vS F B sz)) (Q_CPreconditions_checkIndex K D ca ad L r F9 B9 (zA L sz)) 0 0 (zA L sz) := by
  refine zMet (Qc := Q_CPreconditions_checkIndex K D ca ad L r F9 B9) (lv := [(0, .int (iI l0)), (1, .int (iI l1)), (2, va_rf l2)]) (by decide) (by cases l2 <;> exact Nat.le_of_ble_eq_true rfl) (by cases l2 <;> rfl) (fun A p e s m below meth c ls X hZ hS hl => ?_)
  obtain ⟨hx, hb, hr, hml, hown, hts, hlk, hK, hA, hL, hX⟩ := id X
  replace hf : (if r32 l0 then (if l0 < 0 then f_CPreconditions_checkIndex_9 K l0 l1 F B else if r32 l1 then (if l0 < l1 then some (l0, F, B) else f_CPreconditions_checkIndex_9 K l0 l1 F B) else none) else none) = some (r, F9, B9) := hf
  refine lv_iload_n hx hb d_24_11_0 rfl (lv_at hl 0 rfl) ?_
  obtain ⟨g1, hf⟩ := gif hf
  refine z0lt (tgt := 9) hx hb g1 d_24_11_1 (by decide) (fun h2 => ?_) (fun h2 => ?_)
  · replace hf := gpos hf h2
    exact b_CPreconditions_checkIndex_9 X hf hZ hS (lv_sub hl [0, 1] rfl)
  · replace hf := gneg hf h2
    refine lv_iload_n hx hb d_24_11_4 rfl (lv_at hl 0 rfl) ?_
    refine lv_iload_n hx hb d_24_11_5 rfl (lv_at hl 1 rfl) ?_
    obtain ⟨g3, hf⟩ := gif hf
    refine zlt (tgt := 16) hx hb g1 g3 d_24_11_6 (by decide) (fun h4 => ?_) (fun h4 => ?_)
    · replace hf := gpos hf h4
      refine lv_iload_n hx hb d_24_11_16 rfl (lv_at hl 0 rfl) ?_
      cases hf
      exact W.iret hx hb hr (fun t ht hW => ⟨⟨_, (), rfl, rfl, by rw [ht]; exact hZ, va_K.moved hW.alike hK⟩, hS.F ht⟩) hS.2.2 d_24_11_17 hlk
    · replace hf := gneg hf h4
      exact b_CPreconditions_checkIndex_9 X hf hZ hS (lv_sub hl [0, 1] rfl)

noncomputable abbrev Q_S_waitWord (K : zK) (D : va_G) (ca : Nat → ClassId) (ad : Nat → Int → Nat → Nat) (L : List Nat) (r : Int) (F : zF) (B : zB) (A : Nat → Prop) : Array Value → State → Outcome → State → Prop := va_Qv (S := Unit) (fun _ => True) (fun _ => zPo D ca ad lnC K.2 L F B A) A
noncomputable def f_S_waitWord_42 (K : zK)  (F : zF) (B : zB) : zO := some (0, F, B)
set_option maxHeartbeats 4000000 in
set_option maxRecDepth 100000 in
theorem b_S_waitWord_42 {D : va_G} {ca : Nat → ClassId} {ad : Nat → Int → Nat → Nat} {L : List Nat} {aS vS : Nat → Nat} {A : Nat → Prop} {p : Program} {l : Launch} {e : Env} {s : State} {m : MethodId} {args : Array Value} {below : List Frame} {meth : Method} {c : Code} {K : zK} {r : Int} {F9 : zF} {B9 : zB} (X : zX D ca L aS vS A p s m args meth c prog_1_method_3_code 4 (Option.none : Option Jvm.ClassFile.FieldType) "StaveHouse")  {F : zF} {B : zB} {H : Heap} {locs : List Loc} {ls : Array Slot} (hf : f_S_waitWord_42 K  F B = some (r, F9, B9)) (hZ : zH D ca ad lnC K.2 L F B A H) (hS : va_S A s.heap H locs) (hl : lv_has ls 4 []) : W p l e ({ frames := 0, cells := 0, slots := 0, locals := 0 } : Room) s m args below meth c H locs 0 0 (MQ below (Q_S_waitWord K D ca ad L r F9 B9 A) args s 0 0 A) (F0 m 42 ls []) := by
  obtain ⟨hx, hb, hr, hml, hown, hts, hlk, hK, hA, hL, hX⟩ := id X
  replace hf : (some (0, F, B)) = some (r, F9, B9) := hf
  cases hf
  exact W.vret hx hb hr (fun t ht hW => ⟨⟨(), rfl, trivial, by rw [ht]; exact hZ, va_K.moved hW.alike hK⟩, hS.F ht⟩) hS.2.2 d_1_3_42 hlk

noncomputable def f_S_waitWord_2 (K : zK) : Nat → Int → Int → Int → Int → zF → zB → zO
  | 0, _, _, _, _, _, _ => none
  | n + 1, l3, l0, l1, l2, F, B => if r32 l3 then (if 4 ≤ l3 then f_S_waitWord_42 K F B else if r32 (l1 + l3) then (if 20 ≤ (l1 + l3) then f_S_waitWord_42 K F B else if 0 ≤ l0 ∧ l0 < K.2 12 then if 0 ≤ (l1 + l3) ∧ (l1 + l3) < 20 then f_S_waitWord_2 K n (l3 + 1) l0 l1 l2 F (zup4 B 12 l0 1 (l1 + l3) (zand (zushr l2 (24 - (8 * l3))) 255)) else none else none) else none) else none
set_option maxHeartbeats 4000000 in
set_option maxRecDepth 100000 in
theorem b_S_waitWord_2 {D : va_G} {ca : Nat → ClassId} {ad : Nat → Int → Nat → Nat} {L : List Nat} {aS vS : Nat → Nat} {A : Nat → Prop} {p : Program} {l : Launch} {e : Env} {s : State} {m : MethodId} {args : Array Value} {below : List Frame} {meth : Method} {c : Code} {K : zK} {r : Int} {F9 : zF} {B9 : zB} (X : zX D ca L aS vS A p s m args meth c prog_1_method_3_code 4 (Option.none : Option Jvm.ClassFile.FieldType) "StaveHouse") : ∀ {n : Nat} {l3 : Int} {l0 : Int} {l1 : Int} {l2 : Int} {F : zF} {B : zB} {H : Heap} {locs : List Loc} {ls : Array Slot}, f_S_waitWord_2 K n l3 l0 l1 l2 F B = some (r, F9, B9) → zH D ca ad lnC K.2 L F B A H → va_S A s.heap H locs → lv_has ls 4 [(3, .int (iI l3)), (0, .ref (ad 12 l0 0)), (1, .int (iI l1)), (2, .int (iI l2))] → W p l e ({ frames := 0, cells := 0, slots := 0, locals := 0 } : Room) s m args below meth c H locs 0 0 (MQ below (Q_S_waitWord K D ca ad L r F9 B9 A) args s 0 0 A) (F0 m 2 ls []) := by
  obtain ⟨hx, hb, hr, hml, hown, hts, hlk, hK, hA, hL, hX⟩ := id X
  intro n
  induction n with
  | zero =>
    intros
    rename_i hf _ _ _
    cases hf
  | succ n ih =>
    intro l3 l0 l1 l2 F B H locs ls hf hZ hS hl
    replace hf : (if r32 l3 then (if 4 ≤ l3 then f_S_waitWord_42 K F B else if r32 (l1 + l3) then (if 20 ≤ (l1 + l3) then f_S_waitWord_42 K F B else if 0 ≤ l0 ∧ l0 < K.2 12 then if 0 ≤ (l1 + l3) ∧ (l1 + l3) < 20 then f_S_waitWord_2 K n (l3 + 1) l0 l1 l2 F (zup4 B 12 l0 1 (l1 + l3) (zand (zushr l2 (24 - (8 * l3))) 255)) else none else none) else none) else none) = some (r, F9, B9) := hf
    refine lv_iload_n hx hb d_1_3_2 rfl (lv_at hl 0 rfl) ?_
    refine lv_iconst (v := iI 4) hx hb d_1_3_3 rfl ?_
    obtain ⟨g1, hf⟩ := gif hf
    refine zge (tgt := 42) hx hb g1 (by decide) d_1_3_4 (by decide) (fun h2 => ?_) (fun h2 => ?_)
    · replace hf := gpos hf h2
      exact b_S_waitWord_42 X hf hZ hS (lv_sub hl [] rfl)
    · replace hf := gneg hf h2
      refine lv_iload_n hx hb d_1_3_7 rfl (lv_at hl 2 rfl) ?_
      refine lv_iload_n hx hb d_1_3_8 rfl (lv_at hl 0 rfl) ?_
      refine zadd hx hb d_1_3_9 ?_
      refine lv_bipush (v := iI 20) hx hb d_1_3_10 (by decide) ?_
      obtain ⟨g3, hf⟩ := gif hf
      refine zge (tgt := 42) hx hb g3 (by decide) d_1_3_12 (by decide) (fun h4 => ?_) (fun h4 => ?_)
      · replace hf := gpos hf h4
        exact b_S_waitWord_42 X hf hZ hS (lv_sub hl [] rfl)
      · replace hf := gneg hf h4
        refine lv_aload_n hx hb d_1_3_15 rfl (lv_at hl 1 rfl) ?_
        obtain ⟨g5, hf⟩ := gif hf
        refine zget (ci := 12) (C := RX12) (T := TX12) (v := .ref (ad 12 l0 (1 + 1))) (k := 1) hx hb hts inW_12 hown hK hZ g5.1 g5.2 rfl (by decide) k_2_128 rfl d_1_3_16 ?_
        refine lv_iload_n hx hb d_1_3_19 rfl (lv_at hl 2 rfl) ?_
        refine lv_iload_n hx hb d_1_3_20 rfl (lv_at hl 0 rfl) ?_
        refine zadd hx hb d_1_3_21 ?_
        refine lv_iload_n hx hb d_1_3_22 rfl (lv_at hl 3 rfl) ?_
        refine lv_bipush (v := iI 24) hx hb d_1_3_23 (by decide) ?_
        refine lv_bipush (v := iI 8) hx hb d_1_3_25 (by decide) ?_
        refine lv_iload_n hx hb d_1_3_27 rfl (lv_at hl 0 rfl) ?_
        refine zmul hx hb d_1_3_28 ?_
        refine zsub hx hb d_1_3_29 ?_
        refine zushr_r hx hb d_1_3_30 ?_
        refine lv_sipush (v := iI 255) hx hb d_1_3_31 (by decide) ?_
        refine zand_r hx hb d_1_3_34 ?_
        obtain ⟨g6, hf⟩ := gif hf
        refine zast (ci := 12) (k := 1) hx hb hK rfl hZ hS g5.1 g5.2 rfl (Nat.le_of_ble_eq_true rfl) g6.1 g6.2 d_1_3_35 (fun H7 locs7 hZ7 hS7 => ?_)
        refine lv_iinc (v := iI (l3 + 1)) (lv' := [(3, .int (iI (l3 + 1))), (0, .ref (ad 12 l0 0)), (1, .int (iI l1)), (2, .int (iI l2))]) hx hb d_1_3_36 hl (k := 0) rfl (iI_add _ 1) (by decide) rfl (fun ls hl => ?_)
        refine lv_goto (tgt := 2) hx hb d_1_3_39 (by decide) ?_
        exact ih hf hZ7 hS7 (lv_sub hl [0, 1, 2, 3] rfl)

noncomputable def f_S_waitWord (K : zK) (l0 : Int) (l1 : Int) (l2 : Int) (F : zF) (B : zB) : zO := f_S_waitWord_2 K K.1 0 l0 l1 l2 F B
set_option maxHeartbeats 4000000 in
set_option maxRecDepth 100000 in
theorem c_S_waitWord {l : Launch} {D : va_G} {ca : Nat → ClassId} {ad : Nat → Int → Nat → Nat} {L : List Nat} {aS vS : Nat → Nat} {sz : Nat} {K : zK}  {l0 : Int} {l1 : Int} {l2 : Int} {F F9 : zF} {B B9 : zB} {r : Int} (hf : f_S_waitWord K l0 l1 l2 F B = some (r, F9, B9)) : Met l ({ cls := "StaveHouse", name := "waitWord", desc := "(II)V" } : Jvm.MethodName) (Cond.code ({ cls := "StaveHouse", name := "waitWord", desc := "(II)V" } : Jvm.MethodName) prog_1_method_3_code 4 (Option.none : Option Jvm.ClassFile.FieldType) :: wAll) ({ frames := 0, cells := 0, slots := 0, locals := 0 } : Room) (va_Pc [.ref (ad 12 l0 0), .int (iI l1), .int (iI l2)] (zPre D ca ad lnC K.2 L aS vS F B sz)) (Q_S_waitWord K D ca ad L r F9 B9 (zA L sz)) 0 0 (zA L sz) := by
  refine zMet (Qc := Q_S_waitWord K D ca ad L r F9 B9) (lv := [(0, .ref (ad 12 l0 0)), (1, .int (iI l1)), (2, .int (iI l2))]) (by decide) (Nat.le_of_ble_eq_true rfl) rfl (fun A p e s m below meth c ls X hZ hS hl => ?_)
  obtain ⟨hx, hb, hr, hml, hown, hts, hlk, hK, hA, hL, hX⟩ := id X
  replace hf : (f_S_waitWord_2 K K.1 0 l0 l1 l2 F B) = some (r, F9, B9) := hf
  refine lv_iconst (v := iI 0) hx hb d_1_3_0 rfl ?_
  refine lv_istore_n (lv' := [(3, .int (iI 0)), (0, .ref (ad 12 l0 0)), (1, .int (iI l1)), (2, .int (iI l2))]) hx hb d_1_3_1 rfl hl (by decide) rfl (fun ls hl => ?_)
  exact b_S_waitWord_2 X hf hZ hS (lv_sub hl [0, 1, 2, 3] rfl)

noncomputable abbrev Q_ByteRow_put (K : zK) (D : va_G) (ca : Nat → ClassId) (ad : Nat → Int → Nat → Nat) (L : List Nat) (r : Int) (F : zF) (B : zB) (A : Nat → Prop) : Array Value → State → Outcome → State → Prop := va_Qv (S := Unit) (fun _ => True) (fun _ => zPo D ca ad lnC K.2 L F B A) A
noncomputable def f_ByteRow_put (K : zK) (l0 : Int) (l1 : Int) (F : zF) (B : zB) : zO := if 0 ≤ l0 ∧ l0 < K.2 0 then if r32 (F 0 l0 1) then if r32 (lnC 0 l0 0 : Int) then (if (F 0 l0 1) < (lnC 0 l0 0 : Int) then if 0 ≤ (F 0 l0 1) ∧ (F 0 l0 1) < (lnC 0 l0 0 : Int) then some (0, (zup3 F 0 l0 1 ((F 0 l0 1) + 1)), (zup4 B 0 l0 0 (F 0 l0 1) (zand l1 255))) else none else some (0, (zup3 F 0 l0 2 1), B)) else none else none else none
set_option maxHeartbeats 4000000 in
set_option maxRecDepth 100000 in
theorem c_ByteRow_put {l : Launch} {D : va_G} {ca : Nat → ClassId} {ad : Nat → Int → Nat → Nat} {L : List Nat} {aS vS : Nat → Nat} {sz : Nat} {K : zK}  {l0 : Int} {l1 : Int} {F F9 : zF} {B B9 : zB} {r : Int} (hf : f_ByteRow_put K l0 l1 F B = some (r, F9, B9)) : Met l ({ cls := "StaveHouse$ByteRow", name := "put", desc := "(I)V" } : Jvm.MethodName) (Cond.code ({ cls := "StaveHouse$ByteRow", name := "put", desc := "(I)V" } : Jvm.MethodName) prog_2_method_4_code 2 (Option.none : Option Jvm.ClassFile.FieldType) :: wAll) ({ frames := 0, cells := 0, slots := 0, locals := 0 } : Room) (va_Pc [.ref (ad 0 l0 0), .int (iI l1)] (zPre D ca ad lnC K.2 L aS vS F B sz)) (Q_ByteRow_put K D ca ad L r F9 B9 (zA L sz)) 0 0 (zA L sz) := by
  refine zMet (Qc := Q_ByteRow_put K D ca ad L r F9 B9) (lv := [(0, .ref (ad 0 l0 0)), (1, .int (iI l1))]) (by decide) (Nat.le_of_ble_eq_true rfl) rfl (fun A p e s m below meth c ls X hZ hS hl => ?_)
  obtain ⟨hx, hb, hr, hml, hown, hts, hlk, hK, hA, hL, hX⟩ := id X
  replace hf : (if 0 ≤ l0 ∧ l0 < K.2 0 then if r32 (F 0 l0 1) then if r32 (lnC 0 l0 0 : Int) then (if (F 0 l0 1) < (lnC 0 l0 0 : Int) then if 0 ≤ (F 0 l0 1) ∧ (F 0 l0 1) < (lnC 0 l0 0 : Int) then some (0, (zup3 F 0 l0 1 ((F 0 l0 1) + 1)), (zup4 B 0 l0 0 (F 0 l0 1) (zand l1 255))) else none else some (0, (zup3 F 0 l0 2 1), B)) else none else none else none) = some (r, F9, B9) := hf
  refine lv_aload_n hx hb d_2_4_0 rfl (lv_at hl 0 rfl) ?_
  obtain ⟨g1, hf⟩ := gif hf
  refine zget (ci := 0) (C := RX0) (T := TX0) (v := .int (iI (F 0 l0 1))) (k := 1) hx hb hts inW_0 hown hK hZ g1.1 g1.2 rfl (by decide) k_1_42 rfl d_2_4_1 ?_
  refine lv_aload_n hx hb d_2_4_4 rfl (lv_at hl 0 rfl) ?_
  refine zget (ci := 0) (C := RX0) (T := TX0) (v := .ref (ad 0 l0 (0 + 1))) (k := 0) hx hb hts inW_0 hown hK hZ g1.1 g1.2 rfl (by decide) k_1_41 rfl d_2_4_5 ?_
  refine zlen (t := 0) (x := 0) (ci := 0) (k := 0) hx hb hK rfl (fun _ _ => ⟨_, rfl⟩) hZ g1.1 g1.2 rfl d_2_4_8 ?_
  refine W.eq (g2 := F0 m 9 ls [.int (iI (lnC 0 l0 0 : Int)), .int (iI (F 0 l0 1))]) rfl ?_
  obtain ⟨g2, hf⟩ := gif hf
  obtain ⟨g3, hf⟩ := gif hf
  refine zlt (tgt := 18) hx hb g2 g3 d_2_4_9 (by decide) (fun h4 => ?_) (fun h4 => ?_)
  · replace hf := gpos hf h4
    refine lv_aload_n hx hb d_2_4_18 rfl (lv_at hl 0 rfl) ?_
    refine zget (ci := 0) (C := RX0) (T := TX0) (v := .ref (ad 0 l0 (0 + 1))) (k := 0) hx hb hts inW_0 hown hK hZ g1.1 g1.2 rfl (by decide) k_1_41 rfl d_2_4_19 ?_
    refine lv_aload_n hx hb d_2_4_22 rfl (lv_at hl 0 rfl) ?_
    refine zget (ci := 0) (C := RX0) (T := TX0) (v := .int (iI (F 0 l0 1))) (k := 1) hx hb hts inW_0 hown hK hZ g1.1 g1.2 rfl (by decide) k_1_42 rfl d_2_4_23 ?_
    refine lv_iload_n hx hb d_2_4_26 rfl (lv_at hl 1 rfl) ?_
    refine lv_sipush (v := iI 255) hx hb d_2_4_27 (by decide) ?_
    refine zand_r hx hb d_2_4_30 ?_
    obtain ⟨g5, hf⟩ := gif hf
    refine zast (ci := 0) (k := 0) hx hb hK rfl hZ hS g1.1 g1.2 rfl lnC0_le g5.1 g5.2 d_2_4_31 (fun H6 locs6 hZ6 hS6 => ?_)
    refine lv_aload_n hx hb d_2_4_32 rfl (lv_at hl 0 rfl) ?_
    refine lv_dup hx hb d_2_4_33 rfl ?_
    refine zget (ci := 0) (C := RX0) (T := TX0) (v := .int (iI (F 0 l0 1))) (k := 1) hx hb hts inW_0 hown hK hZ6 g1.1 g1.2 rfl (by decide) k_1_42 rfl d_2_4_34 ?_
    refine lv_iconst (v := iI 1) hx hb d_2_4_37 rfl ?_
    refine zadd hx hb d_2_4_38 ?_
    refine zput (ci := 0) (C := RX0) (T := TX0) (k := 1) (v := ((F 0 l0 1) + 1)) (w := .int (iI ((F 0 l0 1) + 1))) hx hb hts inW_0 tyX0 tyX0_ok nmX0 hown hK hZ6 hS6 g1.1 g1.2 rfl (by decide) k_1_42 rfl (fun G h => congrArg (fun q => Value.int (iI q)) h) rfl rfl (zno (by decide)) d_2_4_39 (fun H7 locs7 hZ7 hS7 => ?_)
    cases hf
    exact W.vret hx hb hr (fun t ht hW => ⟨⟨(), rfl, trivial, by rw [ht]; exact hZ7, va_K.moved hW.alike hK⟩, hS7.F ht⟩) hS7.2.2 d_2_4_42 hlk
  · replace hf := gneg hf h4
    refine lv_aload_n hx hb d_2_4_12 rfl (lv_at hl 0 rfl) ?_
    refine lv_iconst (v := iI 1) hx hb d_2_4_13 rfl ?_
    refine zput (ci := 0) (C := RX0) (T := TX0) (k := 2) (v := 1) (w := .int (iI 1)) hx hb hts inW_0 tyX0 tyX0_ok nmX0 hown hK hZ hS g1.1 g1.2 rfl (by decide) k_1_48 rfl (fun G h => congrArg (fun q => Value.int (iI q)) h) rfl rfl (zno (by decide)) d_2_4_14 (fun H8 locs8 hZ8 hS8 => ?_)
    cases hf
    exact W.vret hx hb hr (fun t ht hW => ⟨⟨(), rfl, trivial, by rw [ht]; exact hZ8, va_K.moved hW.alike hK⟩, hS8.F ht⟩) hS8.2.2 d_2_4_17 hlk

noncomputable abbrev Q_Piece_clear (K : zK) (D : va_G) (ca : Nat → ClassId) (ad : Nat → Int → Nat → Nat) (L : List Nat) (r : Int) (F : zF) (B : zB) (A : Nat → Prop) : Array Value → State → Outcome → State → Prop := va_Qv (S := Unit) (fun _ => True) (fun _ => zPo D ca ad lnC K.2 L F B A) A
noncomputable def f_Piece_clear_66 (K : zK)  (F : zF) (B : zB) : zO := some (0, F, B)
set_option maxHeartbeats 4000000 in
set_option maxRecDepth 100000 in
theorem b_Piece_clear_66 {D : va_G} {ca : Nat → ClassId} {ad : Nat → Int → Nat → Nat} {L : List Nat} {aS vS : Nat → Nat} {A : Nat → Prop} {p : Program} {l : Launch} {e : Env} {s : State} {m : MethodId} {args : Array Value} {below : List Frame} {meth : Method} {c : Code} {K : zK} {r : Int} {F9 : zF} {B9 : zB} (X : zX D ca L aS vS A p s m args meth c prog_8_method_2_code 1 (Option.none : Option Jvm.ClassFile.FieldType) "StaveHouse$Piece")  {F : zF} {B : zB} {H : Heap} {locs : List Loc} {ls : Array Slot} (hf : f_Piece_clear_66 K  F B = some (r, F9, B9)) (hZ : zH D ca ad lnC K.2 L F B A H) (hS : va_S A s.heap H locs) (hl : lv_has ls 1 []) : W p l e ({ frames := 0, cells := 0, slots := 0, locals := 0 } : Room) s m args below meth c H locs 0 0 (MQ below (Q_Piece_clear K D ca ad L r F9 B9 A) args s 0 0 A) (F0 m 66 ls []) := by
  obtain ⟨hx, hb, hr, hml, hown, hts, hlk, hK, hA, hL, hX⟩ := id X
  replace hf : (some (0, F, B)) = some (r, F9, B9) := hf
  cases hf
  exact W.vret hx hb hr (fun t ht hW => ⟨⟨(), rfl, trivial, by rw [ht]; exact hZ, va_K.moved hW.alike hK⟩, hS.F ht⟩) hS.2.2 d_8_2_66 hlk

noncomputable def f_Piece_clear (K : zK) (l0 : Int) (F : zF) (B : zB) : zO := if 0 ≤ l0 ∧ l0 < K.2 6 then (if (F 6 l0 8) < 0 then f_Piece_clear_66 K (zup3 (zup3 (zup3 (zup3 (zup3 (zup3 (zup3 (zup3 (zup3 (zup3 F 6 l0 1 0) 6 l0 2 0) 6 l0 3 0) 6 l0 4 4) 6 l0 5 4) 6 l0 6 120) 6 l0 7 0) 6 l0 10 0) 6 l0 11 0) 6 l0 13 0) B else if 0 ≤ (F 6 l0 8) ∧ (F 6 l0 8) < K.2 2 then f_Piece_clear_66 K (zup3 (zup3 (zup3 (zup3 (zup3 (zup3 (zup3 (zup3 (zup3 (zup3 (zup3 F 6 l0 1 0) 6 l0 2 0) 6 l0 3 0) 6 l0 4 4) 6 l0 5 4) 6 l0 6 120) 6 l0 7 0) 6 l0 10 0) 6 l0 11 0) 6 l0 13 0) 2 (F 6 l0 8) 0 0) B else none) else none
set_option maxHeartbeats 4000000 in
set_option maxRecDepth 100000 in
theorem c_Piece_clear {l : Launch} {D : va_G} {ca : Nat → ClassId} {ad : Nat → Int → Nat → Nat} {L : List Nat} {aS vS : Nat → Nat} {sz : Nat} {K : zK}  {l0 : Int} {F F9 : zF} {B B9 : zB} {r : Int} (hf : f_Piece_clear K l0 F B = some (r, F9, B9)) : Met l ({ cls := "StaveHouse$Piece", name := "clear", desc := "()V" } : Jvm.MethodName) (Cond.code ({ cls := "StaveHouse$Piece", name := "clear", desc := "()V" } : Jvm.MethodName) prog_8_method_2_code 1 (Option.none : Option Jvm.ClassFile.FieldType) :: wAll) ({ frames := 0, cells := 0, slots := 0, locals := 0 } : Room) (va_Pc [.ref (ad 6 l0 0)] (zPre D ca ad lnC K.2 L aS vS F B sz)) (Q_Piece_clear K D ca ad L r F9 B9 (zA L sz)) 0 0 (zA L sz) := by
  refine zMet (Qc := Q_Piece_clear K D ca ad L r F9 B9) (lv := [(0, .ref (ad 6 l0 0))]) (by decide) (Nat.le_of_ble_eq_true rfl) rfl (fun A p e s m below meth c ls X hZ hS hl => ?_)
  obtain ⟨hx, hb, hr, hml, hown, hts, hlk, hK, hA, hL, hX⟩ := id X
  replace hf : (if 0 ≤ l0 ∧ l0 < K.2 6 then (if (F 6 l0 8) < 0 then f_Piece_clear_66 K (zup3 (zup3 (zup3 (zup3 (zup3 (zup3 (zup3 (zup3 (zup3 (zup3 F 6 l0 1 0) 6 l0 2 0) 6 l0 3 0) 6 l0 4 4) 6 l0 5 4) 6 l0 6 120) 6 l0 7 0) 6 l0 10 0) 6 l0 11 0) 6 l0 13 0) B else if 0 ≤ (F 6 l0 8) ∧ (F 6 l0 8) < K.2 2 then f_Piece_clear_66 K (zup3 (zup3 (zup3 (zup3 (zup3 (zup3 (zup3 (zup3 (zup3 (zup3 (zup3 F 6 l0 1 0) 6 l0 2 0) 6 l0 3 0) 6 l0 4 4) 6 l0 5 4) 6 l0 6 120) 6 l0 7 0) 6 l0 10 0) 6 l0 11 0) 6 l0 13 0) 2 (F 6 l0 8) 0 0) B else none) else none) = some (r, F9, B9) := hf
  refine lv_aload_n hx hb d_8_2_0 rfl (lv_at hl 0 rfl) ?_
  refine lv_iconst (v := iI 0) hx hb d_8_2_1 rfl ?_
  obtain ⟨g1, hf⟩ := gif hf
  refine zput (ci := 6) (C := RX6) (T := TX6) (k := 1) (v := 0) (w := .int (iI 0)) hx hb hts inW_6 tyX6 tyX6_ok nmX6 hown hK hZ hS g1.1 g1.2 rfl (by decide) k_2_190 rfl (fun G h => congrArg (fun q => Value.int (iI q)) h) rfl rfl (zno (by decide)) d_8_2_2 (fun H2 locs2 hZ2 hS2 => ?_)
  refine lv_aload_n hx hb d_8_2_5 rfl (lv_at hl 0 rfl) ?_
  refine lv_iconst (v := iI 0) hx hb d_8_2_6 rfl ?_
  refine zput (ci := 6) (C := RX6) (T := TX6) (k := 2) (v := 0) (w := .int (iI 0)) hx hb hts inW_6 tyX6 tyX6_ok nmX6 hown hK hZ2 hS2 g1.1 g1.2 rfl (by decide) k_2_195 rfl (fun G h => congrArg (fun q => Value.int (iI q)) h) rfl rfl (zno (by decide)) d_8_2_7 (fun H3 locs3 hZ3 hS3 => ?_)
  refine lv_aload_n hx hb d_8_2_10 rfl (lv_at hl 0 rfl) ?_
  refine lv_iconst (v := iI 0) hx hb d_8_2_11 rfl ?_
  refine zput (ci := 6) (C := RX6) (T := TX6) (k := 3) (v := 0) (w := .int (iI 0)) hx hb hts inW_6 tyX6 tyX6_ok nmX6 hown hK hZ3 hS3 g1.1 g1.2 rfl (by decide) k_2_202 rfl (fun G h => congrArg (fun q => Value.int (iI q)) h) rfl rfl (zno (by decide)) d_8_2_12 (fun H4 locs4 hZ4 hS4 => ?_)
  refine lv_aload_n hx hb d_8_2_15 rfl (lv_at hl 0 rfl) ?_
  refine lv_iconst (v := iI 4) hx hb d_8_2_16 rfl ?_
  refine zput (ci := 6) (C := RX6) (T := TX6) (k := 4) (v := 4) (w := .int (iI 4)) hx hb hts inW_6 tyX6 tyX6_ok nmX6 hown hK hZ4 hS4 g1.1 g1.2 rfl (by decide) k_2_207 rfl (fun G h => congrArg (fun q => Value.int (iI q)) h) rfl rfl (zno (by decide)) d_8_2_17 (fun H5 locs5 hZ5 hS5 => ?_)
  refine lv_aload_n hx hb d_8_2_20 rfl (lv_at hl 0 rfl) ?_
  refine lv_iconst (v := iI 4) hx hb d_8_2_21 rfl ?_
  refine zput (ci := 6) (C := RX6) (T := TX6) (k := 5) (v := 4) (w := .int (iI 4)) hx hb hts inW_6 tyX6 tyX6_ok nmX6 hown hK hZ5 hS5 g1.1 g1.2 rfl (by decide) k_2_212 rfl (fun G h => congrArg (fun q => Value.int (iI q)) h) rfl rfl (zno (by decide)) d_8_2_22 (fun H6 locs6 hZ6 hS6 => ?_)
  refine lv_aload_n hx hb d_8_2_25 rfl (lv_at hl 0 rfl) ?_
  refine lv_bipush (v := iI 120) hx hb d_8_2_26 (by decide) ?_
  refine zput (ci := 6) (C := RX6) (T := TX6) (k := 6) (v := 120) (w := .int (iI 120)) hx hb hts inW_6 tyX6 tyX6_ok nmX6 hown hK hZ6 hS6 g1.1 g1.2 rfl (by decide) k_2_217 rfl (fun G h => congrArg (fun q => Value.int (iI q)) h) rfl rfl (zno (by decide)) d_8_2_28 (fun H7 locs7 hZ7 hS7 => ?_)
  refine lv_aload_n hx hb d_8_2_31 rfl (lv_at hl 0 rfl) ?_
  refine lv_iconst (v := iI 0) hx hb d_8_2_32 rfl ?_
  refine zput (ci := 6) (C := RX6) (T := TX6) (k := 7) (v := 0) (w := .int (iI 0)) hx hb hts inW_6 tyX6 tyX6_ok nmX6 hown hK hZ7 hS7 g1.1 g1.2 rfl (by decide) k_2_222 rfl (fun G h => congrArg (fun q => Value.int (iI q)) h) rfl rfl (zno (by decide)) d_8_2_33 (fun H8 locs8 hZ8 hS8 => ?_)
  refine lv_aload_n hx hb d_8_2_36 rfl (lv_at hl 0 rfl) ?_
  refine lv_iconst (v := iI 0) hx hb d_8_2_37 rfl ?_
  refine zput (ci := 6) (C := RX6) (T := TX6) (k := 10) (v := 0) (w := .int (iI 0)) hx hb hts inW_6 tyX6 tyX6_ok nmX6 hown hK hZ8 hS8 g1.1 g1.2 rfl (by decide) k_2_228 rfl (fun G h => congrArg (fun q => Value.int (iI q)) h) rfl rfl (zno (by decide)) d_8_2_38 (fun H9 locs9 hZ9 hS9 => ?_)
  refine lv_aload_n hx hb d_8_2_41 rfl (lv_at hl 0 rfl) ?_
  refine lv_iconst (v := iI 0) hx hb d_8_2_42 rfl ?_
  refine zput (ci := 6) (C := RX6) (T := TX6) (k := 11) (v := 0) (w := .int (iI 0)) hx hb hts inW_6 tyX6 tyX6_ok nmX6 hown hK hZ9 hS9 g1.1 g1.2 rfl (by decide) k_2_230 rfl (fun G h => congrArg (fun q => Value.int (iI q)) h) rfl rfl (zno (by decide)) d_8_2_43 (fun H10 locs10 hZ10 hS10 => ?_)
  refine lv_aload_n hx hb d_8_2_46 rfl (lv_at hl 0 rfl) ?_
  refine lv_iconst (v := iI 0) hx hb d_8_2_47 rfl ?_
  refine zput (ci := 6) (C := RX6) (T := TX6) (k := 13) (v := 0) (w := .int (iI 0)) hx hb hts inW_6 tyX6 tyX6_ok nmX6 hown hK hZ10 hS10 g1.1 g1.2 rfl (by decide) k_2_232 rfl (fun G h => congrArg (fun q => Value.int (iI q)) h) rfl rfl (zno (by decide)) d_8_2_48 (fun H11 locs11 hZ11 hS11 => ?_)
  refine lv_aload_n hx hb d_8_2_51 rfl (lv_at hl 0 rfl) ?_
  refine zget (ci := 6) (C := RX6) (T := TX6) (v := va_rf (zrf ad 2 (F 6 l0 8))) (k := 8) hx hb hts inW_6 hown hK hZ11 g1.1 g1.2 rfl (by decide) k_2_224 (congrArg (fun q : Int => va_rf (zrf ad 2 q)) (show (zup3 (zup3 (zup3 (zup3 (zup3 (zup3 (zup3 (zup3 (zup3 (zup3 F 6 l0 1 0) 6 l0 2 0) 6 l0 3 0) 6 l0 4 4) 6 l0 5 4) 6 l0 6 120) 6 l0 7 0) 6 l0 10 0) 6 l0 11 0) 6 l0 13 0) 6 l0 8 = F 6 l0 8 by simp [zup3])) d_8_2_52 ?_
  refine zifnull (tgt := 66) hx hb d_8_2_55 (by decide) (fun h12 => ?_) (fun h12 => ?_)
  · replace hf := gpos hf h12
    exact b_Piece_clear_66 X hf hZ11 hS11 (lv_sub hl [] rfl)
  · replace hf := gneg hf h12
    refine lv_aload_n hx hb d_8_2_58 rfl (lv_at hl 0 rfl) ?_
    refine zget (ci := 6) (C := RX6) (T := TX6) (v := va_rf (zrf ad 2 (F 6 l0 8))) (k := 8) hx hb hts inW_6 hown hK hZ11 g1.1 g1.2 rfl (by decide) k_2_224 (congrArg (fun q : Int => va_rf (zrf ad 2 q)) (show (zup3 (zup3 (zup3 (zup3 (zup3 (zup3 (zup3 (zup3 (zup3 (zup3 F 6 l0 1 0) 6 l0 2 0) 6 l0 3 0) 6 l0 4 4) 6 l0 5 4) 6 l0 6 120) 6 l0 7 0) 6 l0 10 0) 6 l0 11 0) 6 l0 13 0) 6 l0 8 = F 6 l0 8 by simp [zup3])) d_8_2_59 ?_
    refine lv_iconst (v := iI 0) hx hb d_8_2_62 rfl ?_
    obtain ⟨g13, hf⟩ := gif hf
    refine W.eq (g2 := F0 m 63 ls [.int (iI 0), .ref (ad 2 (F 6 l0 8) 0)]) (by rw [zrf_pos (ad := ad) (t := 2) g13.1]; try rfl) ?_
    refine zput (ci := 2) (C := RX2) (T := TX2) (k := 0) (v := 0) (w := .int (iI 0)) hx hb hts inW_2 tyX2 tyX2_ok nmX2 hown hK hZ11 hS11 g13.1 g13.2 rfl (by decide) k_6_216 rfl (fun G h => congrArg (fun q => Value.int (iI q)) h) rfl rfl (zno (by decide)) d_8_2_63 (fun H14 locs14 hZ14 hS14 => ?_)
    exact b_Piece_clear_66 X hf hZ14 hS14 (lv_sub hl [] rfl)

noncomputable abbrev Q_ByteRow_at (K : zK) (D : va_G) (ca : Nat → ClassId) (ad : Nat → Int → Nat → Nat) (L : List Nat) (r : Int) (F : zF) (B : zB) (A : Nat → Prop) : Array Value → State → Outcome → State → Prop := va_Qi (S := Unit) (fun p _ => p = iI r) (fun _ => zPo D ca ad lnC K.2 L F B A) A
noncomputable def f_ByteRow_at_22 (K : zK) (s0 : Int) (F : zF) (B : zB) : zO := some (s0, F, B)
set_option maxHeartbeats 4000000 in
set_option maxRecDepth 100000 in
theorem b_ByteRow_at_22 {D : va_G} {ca : Nat → ClassId} {ad : Nat → Int → Nat → Nat} {L : List Nat} {aS vS : Nat → Nat} {A : Nat → Prop} {p : Program} {l : Launch} {e : Env} {s : State} {m : MethodId} {args : Array Value} {below : List Frame} {meth : Method} {c : Code} {K : zK} {r : Int} {F9 : zF} {B9 : zB} (X : zX D ca L aS vS A p s m args meth c prog_2_method_3_code 2 (Option.some Jvm.ClassFile.FieldType.int) "StaveHouse$ByteRow") {s0 : Int} {F : zF} {B : zB} {H : Heap} {locs : List Loc} {ls : Array Slot} (hf : f_ByteRow_at_22 K s0 F B = some (r, F9, B9)) (hZ : zH D ca ad lnC K.2 L F B A H) (hS : va_S A s.heap H locs) (hl : lv_has ls 2 []) : W p l e ({ frames := 0, cells := 0, slots := 0, locals := 0 } : Room) s m args below meth c H locs 0 0 (MQ below (Q_ByteRow_at K D ca ad L r F9 B9 A) args s 0 0 A) (F0 m 22 ls [.int (iI s0)]) := by
  obtain ⟨hx, hb, hr, hml, hown, hts, hlk, hK, hA, hL, hX⟩ := id X
  replace hf : (some (s0, F, B)) = some (r, F9, B9) := hf
  cases hf
  exact W.iret hx hb hr (fun t ht hW => ⟨⟨_, (), rfl, rfl, by rw [ht]; exact hZ, va_K.moved hW.alike hK⟩, hS.F ht⟩) hS.2.2 d_2_3_22 hlk

noncomputable def f_ByteRow_at_12 (K : zK)  (F : zF) (B : zB) : zO := f_ByteRow_at_22 K (-1) F B
set_option maxHeartbeats 4000000 in
set_option maxRecDepth 100000 in
theorem b_ByteRow_at_12 {D : va_G} {ca : Nat → ClassId} {ad : Nat → Int → Nat → Nat} {L : List Nat} {aS vS : Nat → Nat} {A : Nat → Prop} {p : Program} {l : Launch} {e : Env} {s : State} {m : MethodId} {args : Array Value} {below : List Frame} {meth : Method} {c : Code} {K : zK} {r : Int} {F9 : zF} {B9 : zB} (X : zX D ca L aS vS A p s m args meth c prog_2_method_3_code 2 (Option.some Jvm.ClassFile.FieldType.int) "StaveHouse$ByteRow")  {F : zF} {B : zB} {H : Heap} {locs : List Loc} {ls : Array Slot} (hf : f_ByteRow_at_12 K  F B = some (r, F9, B9)) (hZ : zH D ca ad lnC K.2 L F B A H) (hS : va_S A s.heap H locs) (hl : lv_has ls 2 []) : W p l e ({ frames := 0, cells := 0, slots := 0, locals := 0 } : Room) s m args below meth c H locs 0 0 (MQ below (Q_ByteRow_at K D ca ad L r F9 B9 A) args s 0 0 A) (F0 m 12 ls []) := by
  obtain ⟨hx, hb, hr, hml, hown, hts, hlk, hK, hA, hL, hX⟩ := id X
  replace hf : (f_ByteRow_at_22 K (-1) F B) = some (r, F9, B9) := hf
  refine lv_iconst (v := iI (-1)) hx hb d_2_3_12 rfl ?_
  refine lv_goto (tgt := 22) hx hb d_2_3_13 (by decide) ?_
  exact b_ByteRow_at_22 X hf hZ hS (lv_sub hl [] rfl)

noncomputable def f_ByteRow_at (K : zK) (l0 : Int) (l1 : Int) (F : zF) (B : zB) : zO := if r32 l1 then (if l1 < 0 then f_ByteRow_at_12 K F B else if 0 ≤ l0 ∧ l0 < K.2 0 then if r32 (F 0 l0 1) then (if l1 < (F 0 l0 1) then if 0 ≤ l1 ∧ l1 < (lnC 0 l0 0 : Int) then f_ByteRow_at_22 K (B 0 l0 0 l1) F B else none else f_ByteRow_at_12 K F B) else none else none) else none
set_option maxHeartbeats 4000000 in
set_option maxRecDepth 100000 in
theorem c_ByteRow_at {l : Launch} {D : va_G} {ca : Nat → ClassId} {ad : Nat → Int → Nat → Nat} {L : List Nat} {aS vS : Nat → Nat} {sz : Nat} {K : zK}  {l0 : Int} {l1 : Int} {F F9 : zF} {B B9 : zB} {r : Int} (hf : f_ByteRow_at K l0 l1 F B = some (r, F9, B9)) : Met l ({ cls := "StaveHouse$ByteRow", name := "at", desc := "(I)I" } : Jvm.MethodName) (Cond.code ({ cls := "StaveHouse$ByteRow", name := "at", desc := "(I)I" } : Jvm.MethodName) prog_2_method_3_code 2 (Option.some Jvm.ClassFile.FieldType.int) :: wAll) ({ frames := 0, cells := 0, slots := 0, locals := 0 } : Room) (va_Pc [.ref (ad 0 l0 0), .int (iI l1)] (zPre D ca ad lnC K.2 L aS vS F B sz)) (Q_ByteRow_at K D ca ad L r F9 B9 (zA L sz)) 0 0 (zA L sz) := by
  refine zMet (Qc := Q_ByteRow_at K D ca ad L r F9 B9) (lv := [(0, .ref (ad 0 l0 0)), (1, .int (iI l1))]) (by decide) (Nat.le_of_ble_eq_true rfl) rfl (fun A p e s m below meth c ls X hZ hS hl => ?_)
  obtain ⟨hx, hb, hr, hml, hown, hts, hlk, hK, hA, hL, hX⟩ := id X
  replace hf : (if r32 l1 then (if l1 < 0 then f_ByteRow_at_12 K F B else if 0 ≤ l0 ∧ l0 < K.2 0 then if r32 (F 0 l0 1) then (if l1 < (F 0 l0 1) then if 0 ≤ l1 ∧ l1 < (lnC 0 l0 0 : Int) then f_ByteRow_at_22 K (B 0 l0 0 l1) F B else none else f_ByteRow_at_12 K F B) else none else none) else none) = some (r, F9, B9) := hf
  refine lv_iload_n hx hb d_2_3_0 rfl (lv_at hl 1 rfl) ?_
  obtain ⟨g1, hf⟩ := gif hf
  refine z0lt (tgt := 12) hx hb g1 d_2_3_1 (by decide) (fun h2 => ?_) (fun h2 => ?_)
  · replace hf := gpos hf h2
    exact b_ByteRow_at_12 X hf hZ hS (lv_sub hl [] rfl)
  · replace hf := gneg hf h2
    refine lv_iload_n hx hb d_2_3_4 rfl (lv_at hl 1 rfl) ?_
    refine lv_aload_n hx hb d_2_3_5 rfl (lv_at hl 0 rfl) ?_
    obtain ⟨g3, hf⟩ := gif hf
    refine zget (ci := 0) (C := RX0) (T := TX0) (v := .int (iI (F 0 l0 1))) (k := 1) hx hb hts inW_0 hown hK hZ g3.1 g3.2 rfl (by decide) k_1_42 rfl d_2_3_6 ?_
    obtain ⟨g4, hf⟩ := gif hf
    refine zlt (tgt := 16) hx hb g1 g4 d_2_3_9 (by decide) (fun h5 => ?_) (fun h5 => ?_)
    · replace hf := gpos hf h5
      refine lv_aload_n hx hb d_2_3_16 rfl (lv_at hl 0 rfl) ?_
      refine zget (ci := 0) (C := RX0) (T := TX0) (v := .ref (ad 0 l0 (0 + 1))) (k := 0) hx hb hts inW_0 hown hK hZ g3.1 g3.2 rfl (by decide) k_1_41 rfl d_2_3_17 ?_
      refine lv_iload_n hx hb d_2_3_20 rfl (lv_at hl 1 rfl) ?_
      obtain ⟨g6, hf⟩ := gif hf
      refine zald (ci := 0) (k := 0) hx hb hK rfl hZ g3.1 g3.2 rfl lnC0_le g6.1 g6.2 d_2_3_21 ?_
      exact b_ByteRow_at_22 X hf hZ hS (lv_sub hl [] rfl)
    · replace hf := gneg hf h5
      exact b_ByteRow_at_12 X hf hZ hS (lv_sub hl [] rfl)

noncomputable abbrev Q_Tokens_isBlank (K : zK) (D : va_G) (ca : Nat → ClassId) (ad : Nat → Int → Nat → Nat) (L : List Nat) (r : Int) (F : zF) (B : zB) (A : Nat → Prop) : Array Value → State → Outcome → State → Prop := va_Qi (S := Unit) (fun p _ => p = iI r) (fun _ => zPo D ca ad lnC K.2 L F B A) A
noncomputable def f_Tokens_isBlank_29 (K : zK) (s0 : Int) (F : zF) (B : zB) : zO := if (s0 = 0 ∨ s0 = 1) then some (s0, F, B) else none
set_option maxHeartbeats 4000000 in
set_option maxRecDepth 100000 in
theorem b_Tokens_isBlank_29 {D : va_G} {ca : Nat → ClassId} {ad : Nat → Int → Nat → Nat} {L : List Nat} {aS vS : Nat → Nat} {A : Nat → Prop} {p : Program} {l : Launch} {e : Env} {s : State} {m : MethodId} {args : Array Value} {below : List Frame} {meth : Method} {c : Code} {K : zK} {r : Int} {F9 : zF} {B9 : zB} (X : zX D ca L aS vS A p s m args meth c prog_12_method_11_code 1 (Option.some Jvm.ClassFile.FieldType.boolean) "StaveHouse$Tokens") {s0 : Int} {F : zF} {B : zB} {H : Heap} {locs : List Loc} {ls : Array Slot} (hf : f_Tokens_isBlank_29 K s0 F B = some (r, F9, B9)) (hZ : zH D ca ad lnC K.2 L F B A H) (hS : va_S A s.heap H locs) (hl : lv_has ls 1 []) : W p l e ({ frames := 0, cells := 0, slots := 0, locals := 0 } : Room) s m args below meth c H locs 0 0 (MQ below (Q_Tokens_isBlank K D ca ad L r F9 B9 A) args s 0 0 A) (F0 m 29 ls [.int (iI s0)]) := by
  obtain ⟨hx, hb, hr, hml, hown, hts, hlk, hK, hA, hL, hX⟩ := id X
  replace hf : (if (s0 = 0 ∨ s0 = 1) then some (s0, F, B) else none) = some (r, F9, B9) := hf
  obtain ⟨g6, hf⟩ := gif hf
  cases hf
  exact W.zret hx hb hr (zbool g6) (fun t ht hW => ⟨⟨_, (), rfl, rfl, by rw [ht]; exact hZ, va_K.moved hW.alike hK⟩, hS.F ht⟩) hS.2.2 d_12_11_29 hlk

noncomputable def f_Tokens_isBlank_24 (K : zK)  (F : zF) (B : zB) : zO := f_Tokens_isBlank_29 K 1 F B
set_option maxHeartbeats 4000000 in
set_option maxRecDepth 100000 in
theorem b_Tokens_isBlank_24 {D : va_G} {ca : Nat → ClassId} {ad : Nat → Int → Nat → Nat} {L : List Nat} {aS vS : Nat → Nat} {A : Nat → Prop} {p : Program} {l : Launch} {e : Env} {s : State} {m : MethodId} {args : Array Value} {below : List Frame} {meth : Method} {c : Code} {K : zK} {r : Int} {F9 : zF} {B9 : zB} (X : zX D ca L aS vS A p s m args meth c prog_12_method_11_code 1 (Option.some Jvm.ClassFile.FieldType.boolean) "StaveHouse$Tokens")  {F : zF} {B : zB} {H : Heap} {locs : List Loc} {ls : Array Slot} (hf : f_Tokens_isBlank_24 K  F B = some (r, F9, B9)) (hZ : zH D ca ad lnC K.2 L F B A H) (hS : va_S A s.heap H locs) (hl : lv_has ls 1 []) : W p l e ({ frames := 0, cells := 0, slots := 0, locals := 0 } : Room) s m args below meth c H locs 0 0 (MQ below (Q_Tokens_isBlank K D ca ad L r F9 B9 A) args s 0 0 A) (F0 m 24 ls []) := by
  obtain ⟨hx, hb, hr, hml, hown, hts, hlk, hK, hA, hL, hX⟩ := id X
  replace hf : (f_Tokens_isBlank_29 K 1 F B) = some (r, F9, B9) := hf
  refine lv_iconst (v := iI 1) hx hb d_12_11_24 rfl ?_
  refine lv_goto (tgt := 29) hx hb d_12_11_25 (by decide) ?_
  exact b_Tokens_isBlank_29 X hf hZ hS (lv_sub hl [] rfl)

noncomputable def f_Tokens_isBlank (K : zK) (l0 : Int) (F : zF) (B : zB) : zO := if r32 l0 then (if l0 = 9 then f_Tokens_isBlank_24 K F B else (if l0 = 10 then f_Tokens_isBlank_24 K F B else (if l0 = 13 then f_Tokens_isBlank_24 K F B else (if l0 = 32 then f_Tokens_isBlank_24 K F B else f_Tokens_isBlank_29 K 0 F B)))) else none
