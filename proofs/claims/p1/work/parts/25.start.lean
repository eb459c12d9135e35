theorem k_6_210 : (Jvm.Cond.instantiable "StaveHouse$Layout" (13 : Nat)) ∈ wAll := wA_6 (j := 210) rfl rfl
theorem k_4_105 : (Jvm.Cond.instantiable "StaveHouse$Part" (13 : Nat)) ∈ wAll := wA_4 (j := 105) rfl rfl
theorem k_6_57 : (Jvm.Cond.instantiable "StaveHouse$Performance" (14 : Nat)) ∈ wAll := wA_6 (j := 57) rfl rfl
theorem k_5_191 : (Jvm.Cond.instantiable "StaveHouse$Study" (11 : Nat)) ∈ wAll := wA_5 (j := 191) rfl rfl
theorem k_1_25 : (Jvm.Cond.instantiable "StaveHouse" (10 : Nat)) ∈ wAll := wA_1 (j := 25) rfl rfl
theorem k_9_113 : (Jvm.Cond.instantiable "StaveHouseModel" (107 : Nat)) ∈ wAll := wA_9 (j := 113) rfl rfl
theorem k_6_230 : (Jvm.Cond.lays "StaveHouse$Layout" "StaveHouse$Layout" "lineCount" "I") ∈ wAll := wA_6 (j := 230) rfl rfl
theorem k_6_232 : (Jvm.Cond.laysFinal "StaveHouse$Layout" "StaveHouse$Layout" "columnPlaces" "[J") ∈ wAll := wA_6 (j := 232) rfl rfl
theorem k_6_234 : (Jvm.Cond.laysFinal "StaveHouse$Layout" "StaveHouse$Layout" "columnWidths" "[I") ∈ wAll := wA_6 (j := 234) rfl rfl
theorem k_6_236 : (Jvm.Cond.laysFinal "StaveHouse$Layout" "StaveHouse$Layout" "columnXs" "[I") ∈ wAll := wA_6 (j := 236) rfl rfl
theorem k_6_238 : (Jvm.Cond.lays "StaveHouse$Layout" "StaveHouse$Layout" "columns" "I") ∈ wAll := wA_6 (j := 238) rfl rfl
theorem k_7_0 : (Jvm.Cond.laysFinal "StaveHouse$Layout" "StaveHouse$Layout" "barFirsts" "[I") ∈ wAll := wA_7 (j := 0) rfl rfl
theorem k_7_2 : (Jvm.Cond.laysFinal "StaveHouse$Layout" "StaveHouse$Layout" "barWidths" "[I") ∈ wAll := wA_7 (j := 2) rfl rfl
theorem k_7_4 : (Jvm.Cond.laysFinal "StaveHouse$Layout" "StaveHouse$Layout" "lineFirsts" "[I") ∈ wAll := wA_7 (j := 4) rfl rfl
theorem k_7_6 : (Jvm.Cond.laysFinal "StaveHouse$Layout" "StaveHouse$Layout" "lineWidths" "[I") ∈ wAll := wA_7 (j := 6) rfl rfl
theorem k_7_8 : (Jvm.Cond.laysFinal "StaveHouse$Layout" "StaveHouse$Layout" "linePrices" "[J") ∈ wAll := wA_7 (j := 8) rfl rfl
theorem k_7_10 : (Jvm.Cond.laysFinal "StaveHouse$Layout" "StaveHouse$Layout" "best" "[J") ∈ wAll := wA_7 (j := 10) rfl rfl
theorem k_7_12 : (Jvm.Cond.laysFinal "StaveHouse$Layout" "StaveHouse$Layout" "breaks" "[I") ∈ wAll := wA_7 (j := 12) rfl rfl
theorem k_7_14 : (Jvm.Cond.laysFinal "StaveHouse$Layout" "StaveHouse$Layout" "nexts" "[I") ∈ wAll := wA_7 (j := 14) rfl rfl
theorem k_4_153 : (Jvm.Cond.lays "StaveHouse$Part" "StaveHouse$Part" "word" "J") ∈ wAll := wA_4 (j := 153) rfl rfl
theorem k_4_155 : (Jvm.Cond.lays "StaveHouse$Part" "StaveHouse$Part" "clef" "I") ∈ wAll := wA_4 (j := 155) rfl rfl
theorem k_4_157 : (Jvm.Cond.lays "StaveHouse$Part" "StaveHouse$Part" "number" "I") ∈ wAll := wA_4 (j := 157) rfl rfl
theorem k_4_159 : (Jvm.Cond.lays "StaveHouse$Part" "StaveHouse$Part" "token" "I") ∈ wAll := wA_4 (j := 159) rfl rfl
theorem k_4_161 : (Jvm.Cond.lays "StaveHouse$Part" "StaveHouse$Part" "root" "I") ∈ wAll := wA_4 (j := 161) rfl rfl
theorem k_4_163 : (Jvm.Cond.laysFinal "StaveHouse$Part" "StaveHouse$Part" "events" "[LStaveHouse$Event;") ∈ wAll := wA_4 (j := 163) rfl rfl
theorem k_4_165 : (Jvm.Cond.lays "StaveHouse$Part" "StaveHouse$Part" "eventCount" "I") ∈ wAll := wA_4 (j := 165) rfl rfl
theorem k_4_167 : (Jvm.Cond.lays "StaveHouse$Part" "StaveHouse$Part" "endPlace" "J") ∈ wAll := wA_4 (j := 167) rfl rfl
theorem k_4_169 : (Jvm.Cond.laysFinal "StaveHouse$Part" "StaveHouse$Part" "notes" "[[I") ∈ wAll := wA_4 (j := 169) rfl rfl
theorem k_4_171 : (Jvm.Cond.laysFinal "StaveHouse$Part" "StaveHouse$Part" "notePlaces" "[J") ∈ wAll := wA_4 (j := 171) rfl rfl
theorem k_4_173 : (Jvm.Cond.lays "StaveHouse$Part" "StaveHouse$Part" "noteCount" "I") ∈ wAll := wA_4 (j := 173) rfl rfl
theorem k_4_175 : (Jvm.Cond.lays "StaveHouse$Part" "StaveHouse$Part" "tooManyNotes" "Z") ∈ wAll := wA_4 (j := 175) rfl rfl
theorem k_4_177 : (Jvm.Cond.laysFinal "StaveHouse$Part" "StaveHouse$Part" "known" "[I") ∈ wAll := wA_4 (j := 177) rfl rfl
theorem k_6_83 : (Jvm.Cond.lays "StaveHouse$Performance" "StaveHouse$Performance" "count" "I") ∈ wAll := wA_6 (j := 83) rfl rfl
theorem k_6_85 : (Jvm.Cond.lays "StaveHouse$Performance" "StaveHouse$Performance" "tooMany" "Z") ∈ wAll := wA_6 (j := 85) rfl rfl
theorem k_6_87 : (Jvm.Cond.lays "StaveHouse$Performance" "StaveHouse$Performance" "made" "I") ∈ wAll := wA_6 (j := 87) rfl rfl
theorem k_6_89 : (Jvm.Cond.lays "StaveHouse$Performance" "StaveHouse$Performance" "latest" "I") ∈ wAll := wA_6 (j := 89) rfl rfl
theorem k_6_91 : (Jvm.Cond.laysFinal "StaveHouse$Performance" "StaveHouse$Performance" "heardRow" "[I") ∈ wAll := wA_6 (j := 91) rfl rfl
theorem k_6_93 : (Jvm.Cond.laysFinal "StaveHouse$Performance" "StaveHouse$Performance" "codeRow" "[I") ∈ wAll := wA_6 (j := 93) rfl rfl
theorem k_6_95 : (Jvm.Cond.laysFinal "StaveHouse$Performance" "StaveHouse$Performance" "mix" "[I") ∈ wAll := wA_6 (j := 95) rfl rfl
theorem k_6_97 : (Jvm.Cond.laysFinal "StaveHouse$Performance" "StaveHouse$Performance" "sounds" "[[I") ∈ wAll := wA_6 (j := 97) rfl rfl
theorem k_6_99 : (Jvm.Cond.lays "StaveHouse$Performance" "StaveHouse$Performance" "strokes" "[J") ∈ wAll := wA_6 (j := 99) rfl rfl
theorem k_6_101 : (Jvm.Cond.lays "StaveHouse$Performance" "StaveHouse$Performance" "otherStrokes" "[J") ∈ wAll := wA_6 (j := 101) rfl rfl
theorem k_6_103 : (Jvm.Cond.laysFinal "StaveHouse$Performance" "StaveHouse$Performance" "keyTicks" "[J") ∈ wAll := wA_6 (j := 103) rfl rfl
theorem k_6_105 : (Jvm.Cond.lays "StaveHouse$Performance" "StaveHouse$Performance" "heard" "I") ∈ wAll := wA_6 (j := 105) rfl rfl
theorem k_6_107 : (Jvm.Cond.lays "StaveHouse$Performance" "StaveHouse$Performance" "predicted" "I") ∈ wAll := wA_6 (j := 107) rfl rfl
theorem k_6_109 : (Jvm.Cond.lays "StaveHouse$Performance" "StaveHouse$Performance" "index" "I") ∈ wAll := wA_6 (j := 109) rfl rfl
theorem k_5_212 : (Jvm.Cond.lays "StaveHouse$Study" "StaveHouse$Study" "moments" "I") ∈ wAll := wA_5 (j := 212) rfl rfl
theorem k_5_214 : (Jvm.Cond.laysFinal "StaveHouse$Study" "StaveHouse$Study" "places" "[J") ∈ wAll := wA_5 (j := 214) rfl rfl
theorem k_5_216 : (Jvm.Cond.lays "StaveHouse$Study" "StaveHouse$Study" "faults" "I") ∈ wAll := wA_5 (j := 216) rfl rfl
theorem k_5_218 : (Jvm.Cond.laysFinal "StaveHouse$Study" "StaveHouse$Study" "faultRows" "[[I") ∈ wAll := wA_5 (j := 218) rfl rfl
theorem k_5_220 : (Jvm.Cond.laysFinal "StaveHouse$Study" "StaveHouse$Study" "eventsAt" "[[I") ∈ wAll := wA_5 (j := 220) rfl rfl
theorem k_5_222 : (Jvm.Cond.laysFinal "StaveHouse$Study" "StaveHouse$Study" "steps" "[I") ∈ wAll := wA_5 (j := 222) rfl rfl
theorem k_5_224 : (Jvm.Cond.laysFinal "StaveHouse$Study" "StaveHouse$Study" "tones" "[I") ∈ wAll := wA_5 (j := 224) rfl rfl
theorem k_5_226 : (Jvm.Cond.laysFinal "StaveHouse$Study" "StaveHouse$Study" "oldSteps" "[I") ∈ wAll := wA_5 (j := 226) rfl rfl
theorem k_5_228 : (Jvm.Cond.laysFinal "StaveHouse$Study" "StaveHouse$Study" "oldTones" "[I") ∈ wAll := wA_5 (j := 228) rfl rfl
theorem k_5_230 : (Jvm.Cond.laysFinal "StaveHouse$Study" "StaveHouse$Study" "begins" "[Z") ∈ wAll := wA_5 (j := 230) rfl rfl
theorem k_5_232 : (Jvm.Cond.laysFinal "StaveHouse$Study" "StaveHouse$Study" "letters" "[I") ∈ wAll := wA_5 (j := 232) rfl rfl

set_option maxRecDepth 20000 in
theorem inW_2 : ∀ w ∈ u_ws RX2 TX2 13, w ∈ wAll := by
  show ∀ w ∈ [(Jvm.Cond.lays "StaveHouse$Layout" "StaveHouse$Layout" "lineCount" "I"), (Jvm.Cond.laysFinal "StaveHouse$Layout" "StaveHouse$Layout" "columnPlaces" "[J"), (Jvm.Cond.laysFinal "StaveHouse$Layout" "StaveHouse$Layout" "columnWidths" "[I"), (Jvm.Cond.laysFinal "StaveHouse$Layout" "StaveHouse$Layout" "columnXs" "[I"), (Jvm.Cond.lays "StaveHouse$Layout" "StaveHouse$Layout" "columns" "I"), (Jvm.Cond.laysFinal "StaveHouse$Layout" "StaveHouse$Layout" "barFirsts" "[I"), (Jvm.Cond.laysFinal "StaveHouse$Layout" "StaveHouse$Layout" "barWidths" "[I"), (Jvm.Cond.laysFinal "StaveHouse$Layout" "StaveHouse$Layout" "lineFirsts" "[I"), (Jvm.Cond.laysFinal "StaveHouse$Layout" "StaveHouse$Layout" "lineWidths" "[I"), (Jvm.Cond.laysFinal "StaveHouse$Layout" "StaveHouse$Layout" "linePrices" "[J"), (Jvm.Cond.laysFinal "StaveHouse$Layout" "StaveHouse$Layout" "best" "[J"), (Jvm.Cond.laysFinal "StaveHouse$Layout" "StaveHouse$Layout" "breaks" "[I"), (Jvm.Cond.laysFinal "StaveHouse$Layout" "StaveHouse$Layout" "nexts" "[I")], w ∈ wAll
  exact List.forall_mem_cons.mpr ⟨k_6_230, List.forall_mem_cons.mpr ⟨k_6_232, List.forall_mem_cons.mpr ⟨k_6_234, List.forall_mem_cons.mpr ⟨k_6_236, List.forall_mem_cons.mpr ⟨k_6_238, List.forall_mem_cons.mpr ⟨k_7_0, List.forall_mem_cons.mpr ⟨k_7_2, List.forall_mem_cons.mpr ⟨k_7_4, List.forall_mem_cons.mpr ⟨k_7_6, List.forall_mem_cons.mpr ⟨k_7_8, List.forall_mem_cons.mpr ⟨k_7_10, List.forall_mem_cons.mpr ⟨k_7_12, List.forall_mem_cons.mpr ⟨k_7_14, fun _ h => absurd h List.not_mem_nil⟩⟩⟩⟩⟩⟩⟩⟩⟩⟩⟩⟩⟩
set_option maxRecDepth 20000 in
theorem inW_4 : ∀ w ∈ u_ws RX4 TX4 13, w ∈ wAll := by
  show ∀ w ∈ [(Jvm.Cond.lays "StaveHouse$Part" "StaveHouse$Part" "word" "J"), (Jvm.Cond.lays "StaveHouse$Part" "StaveHouse$Part" "clef" "I"), (Jvm.Cond.lays "StaveHouse$Part" "StaveHouse$Part" "number" "I"), (Jvm.Cond.lays "StaveHouse$Part" "StaveHouse$Part" "token" "I"), (Jvm.Cond.lays "StaveHouse$Part" "StaveHouse$Part" "root" "I"), (Jvm.Cond.laysFinal "StaveHouse$Part" "StaveHouse$Part" "events" "[LStaveHouse$Event;"), (Jvm.Cond.lays "StaveHouse$Part" "StaveHouse$Part" "eventCount" "I"), (Jvm.Cond.lays "StaveHouse$Part" "StaveHouse$Part" "endPlace" "J"), (Jvm.Cond.laysFinal "StaveHouse$Part" "StaveHouse$Part" "notes" "[[I"), (Jvm.Cond.laysFinal "StaveHouse$Part" "StaveHouse$Part" "notePlaces" "[J"), (Jvm.Cond.lays "StaveHouse$Part" "StaveHouse$Part" "noteCount" "I"), (Jvm.Cond.lays "StaveHouse$Part" "StaveHouse$Part" "tooManyNotes" "Z"), (Jvm.Cond.laysFinal "StaveHouse$Part" "StaveHouse$Part" "known" "[I")], w ∈ wAll
  exact List.forall_mem_cons.mpr ⟨k_4_153, List.forall_mem_cons.mpr ⟨k_4_155, List.forall_mem_cons.mpr ⟨k_4_157, List.forall_mem_cons.mpr ⟨k_4_159, List.forall_mem_cons.mpr ⟨k_4_161, List.forall_mem_cons.mpr ⟨k_4_163, List.forall_mem_cons.mpr ⟨k_4_165, List.forall_mem_cons.mpr ⟨k_4_167, List.forall_mem_cons.mpr ⟨k_4_169, List.forall_mem_cons.mpr ⟨k_4_171, List.forall_mem_cons.mpr ⟨k_4_173, List.forall_mem_cons.mpr ⟨k_4_175, List.forall_mem_cons.mpr ⟨k_4_177, fun _ h => absurd h List.not_mem_nil⟩⟩⟩⟩⟩⟩⟩⟩⟩⟩⟩⟩⟩
set_option maxRecDepth 20000 in
theorem inW_5 : ∀ w ∈ u_ws RX5 TX5 14, w ∈ wAll := by
  show ∀ w ∈ [(Jvm.Cond.lays "StaveHouse$Performance" "StaveHouse$Performance" "count" "I"), (Jvm.Cond.lays "StaveHouse$Performance" "StaveHouse$Performance" "tooMany" "Z"), (Jvm.Cond.lays "StaveHouse$Performance" "StaveHouse$Performance" "made" "I"), (Jvm.Cond.lays "StaveHouse$Performance" "StaveHouse$Performance" "latest" "I"), (Jvm.Cond.laysFinal "StaveHouse$Performance" "StaveHouse$Performance" "heardRow" "[I"), (Jvm.Cond.laysFinal "StaveHouse$Performance" "StaveHouse$Performance" "codeRow" "[I"), (Jvm.Cond.laysFinal "StaveHouse$Performance" "StaveHouse$Performance" "mix" "[I"), (Jvm.Cond.laysFinal "StaveHouse$Performance" "StaveHouse$Performance" "sounds" "[[I"), (Jvm.Cond.lays "StaveHouse$Performance" "StaveHouse$Performance" "strokes" "[J"), (Jvm.Cond.lays "StaveHouse$Performance" "StaveHouse$Performance" "otherStrokes" "[J"), (Jvm.Cond.laysFinal "StaveHouse$Performance" "StaveHouse$Performance" "keyTicks" "[J"), (Jvm.Cond.lays "StaveHouse$Performance" "StaveHouse$Performance" "heard" "I"), (Jvm.Cond.lays "StaveHouse$Performance" "StaveHouse$Performance" "predicted" "I"), (Jvm.Cond.lays "StaveHouse$Performance" "StaveHouse$Performance" "index" "I")], w ∈ wAll
  exact List.forall_mem_cons.mpr ⟨k_6_83, List.forall_mem_cons.mpr ⟨k_6_85, List.forall_mem_cons.mpr ⟨k_6_87, List.forall_mem_cons.mpr ⟨k_6_89, List.forall_mem_cons.mpr ⟨k_6_91, List.forall_mem_cons.mpr ⟨k_6_93, List.forall_mem_cons.mpr ⟨k_6_95, List.forall_mem_cons.mpr ⟨k_6_97, List.forall_mem_cons.mpr ⟨k_6_99, List.forall_mem_cons.mpr ⟨k_6_101, List.forall_mem_cons.mpr ⟨k_6_103, List.forall_mem_cons.mpr ⟨k_6_105, List.forall_mem_cons.mpr ⟨k_6_107, List.forall_mem_cons.mpr ⟨k_6_109, fun _ h => absurd h List.not_mem_nil⟩⟩⟩⟩⟩⟩⟩⟩⟩⟩⟩⟩⟩⟩
set_option maxRecDepth 20000 in
theorem inW_9 : ∀ w ∈ u_ws RX9 TX9 11, w ∈ wAll := by
  show ∀ w ∈ [(Jvm.Cond.lays "StaveHouse$Study" "StaveHouse$Study" "moments" "I"), (Jvm.Cond.laysFinal "StaveHouse$Study" "StaveHouse$Study" "places" "[J"), (Jvm.Cond.lays "StaveHouse$Study" "StaveHouse$Study" "faults" "I"), (Jvm.Cond.laysFinal "StaveHouse$Study" "StaveHouse$Study" "faultRows" "[[I"), (Jvm.Cond.laysFinal "StaveHouse$Study" "StaveHouse$Study" "eventsAt" "[[I"), (Jvm.Cond.laysFinal "StaveHouse$Study" "StaveHouse$Study" "steps" "[I"), (Jvm.Cond.laysFinal "StaveHouse$Study" "StaveHouse$Study" "tones" "[I"), (Jvm.Cond.laysFinal "StaveHouse$Study" "StaveHouse$Study" "oldSteps" "[I"), (Jvm.Cond.laysFinal "StaveHouse$Study" "StaveHouse$Study" "oldTones" "[I"), (Jvm.Cond.laysFinal "StaveHouse$Study" "StaveHouse$Study" "begins" "[Z"), (Jvm.Cond.laysFinal "StaveHouse$Study" "StaveHouse$Study" "letters" "[I")], w ∈ wAll
  exact List.forall_mem_cons.mpr ⟨k_5_212, List.forall_mem_cons.mpr ⟨k_5_214, List.forall_mem_cons.mpr ⟨k_5_216, List.forall_mem_cons.mpr ⟨k_5_218, List.forall_mem_cons.mpr ⟨k_5_220, List.forall_mem_cons.mpr ⟨k_5_222, List.forall_mem_cons.mpr ⟨k_5_224, List.forall_mem_cons.mpr ⟨k_5_226, List.forall_mem_cons.mpr ⟨k_5_228, List.forall_mem_cons.mpr ⟨k_5_230, List.forall_mem_cons.mpr ⟨k_5_232, fun _ h => absurd h List.not_mem_nil⟩⟩⟩⟩⟩⟩⟩⟩⟩⟩⟩
theorem tb_1 {j : Nat} {w : Cond} (h : tables_1_1[j]? = some w) : w ∈ lw_tbl := List.mem_append_right _ (by unfold tables_1; exact (List.mem_append_left _ (List.mem_of_getElem? h)))
theorem tb_2 {j : Nat} {w : Cond} (h : tables_1_2[j]? = some w) : w ∈ lw_tbl := List.mem_append_right _ (by unfold tables_1; exact (List.mem_append_right _ (List.mem_append_left _ (List.mem_of_getElem? h))))
theorem tb_3 {j : Nat} {w : Cond} (h : tables_1_3[j]? = some w) : w ∈ lw_tbl := List.mem_append_right _ (by unfold tables_1; exact (List.mem_append_right _ (List.mem_append_right _ (List.mem_append_left _ (List.mem_of_getElem? h)))))
theorem tb_4 {j : Nat} {w : Cond} (h : tables_1_4[j]? = some w) : w ∈ lw_tbl := List.mem_append_right _ (by unfold tables_1; exact (List.mem_append_right _ (List.mem_append_right _ (List.mem_append_right _ (List.mem_append_left _ (List.mem_of_getElem? h))))))
theorem tb_5 {j : Nat} {w : Cond} (h : tables_1_5[j]? = some w) : w ∈ lw_tbl := List.mem_append_right _ (by unfold tables_1; exact (List.mem_append_right _ (List.mem_append_right _ (List.mem_append_right _ (List.mem_append_right _ (List.mem_append_left _ (List.mem_of_getElem? h)))))))
theorem tb_6 {j : Nat} {w : Cond} (h : tables_1_6[j]? = some w) : w ∈ lw_tbl := List.mem_append_right _ (by unfold tables_1; exact (List.mem_append_right _ (List.mem_append_right _ (List.mem_append_right _ (List.mem_append_right _ (List.mem_append_right _ (List.mem_append_left _ (List.mem_of_getElem? h))))))))
theorem tb_7 {j : Nat} {w : Cond} (h : tables_1_7[j]? = some w) : w ∈ lw_tbl := List.mem_append_right _ (by unfold tables_1; exact (List.mem_append_right _ (List.mem_append_right _ (List.mem_append_right _ (List.mem_append_right _ (List.mem_append_right _ (List.mem_append_right _ (List.mem_append_left _ (List.mem_of_getElem? h)))))))))
theorem tb_8 {j : Nat} {w : Cond} (h : tables_1_8[j]? = some w) : w ∈ lw_tbl := List.mem_append_right _ (by unfold tables_1; exact (List.mem_append_right _ (List.mem_append_right _ (List.mem_append_right _ (List.mem_append_right _ (List.mem_append_right _ (List.mem_append_right _ (List.mem_append_right _ (List.mem_append_left _ (List.mem_of_getElem? h))))))))))
theorem tb_9 {j : Nat} {w : Cond} (h : tables_1_9[j]? = some w) : w ∈ lw_tbl := List.mem_append_right _ (by unfold tables_1; exact (List.mem_append_right _ (List.mem_append_right _ (List.mem_append_right _ (List.mem_append_right _ (List.mem_append_right _ (List.mem_append_right _ (List.mem_append_right _ (List.mem_append_right _ (List.mem_append_left _ (List.mem_of_getElem? h)))))))))))
theorem tb_10 {j : Nat} {w : Cond} (h : tables_1_10[j]? = some w) : w ∈ lw_tbl := List.mem_append_right _ (by unfold tables_1; exact (List.mem_append_right _ (List.mem_append_right _ (List.mem_append_right _ (List.mem_append_right _ (List.mem_append_right _ (List.mem_append_right _ (List.mem_append_right _ (List.mem_append_right _ (List.mem_append_right _ (List.mem_append_left _ (List.mem_of_getElem? h))))))))))))
theorem tb_11 {j : Nat} {w : Cond} (h : tables_1_11[j]? = some w) : w ∈ lw_tbl := List.mem_append_right _ (by unfold tables_1; exact (List.mem_append_right _ (List.mem_append_right _ (List.mem_append_right _ (List.mem_append_right _ (List.mem_append_right _ (List.mem_append_right _ (List.mem_append_right _ (List.mem_append_right _ (List.mem_append_right _ (List.mem_append_right _ (List.mem_append_left _ (List.mem_of_getElem? h)))))))))))))
theorem tb_12 {j : Nat} {w : Cond} (h : tables_1_12[j]? = some w) : w ∈ lw_tbl := List.mem_append_right _ (by unfold tables_1; exact (List.mem_append_right _ (List.mem_append_right _ (List.mem_append_right _ (List.mem_append_right _ (List.mem_append_right _ (List.mem_append_right _ (List.mem_append_right _ (List.mem_append_right _ (List.mem_append_right _ (List.mem_append_right _ (List.mem_append_right _ (List.mem_append_left _ (List.mem_of_getElem? h))))))))))))))
theorem tb_13 {j : Nat} {w : Cond} (h : tables_1_13[j]? = some w) : w ∈ lw_tbl := List.mem_append_right _ (by unfold tables_1; exact (List.mem_append_right _ (List.mem_append_right _ (List.mem_append_right _ (List.mem_append_right _ (List.mem_append_right _ (List.mem_append_right _ (List.mem_append_right _ (List.mem_append_right _ (List.mem_append_right _ (List.mem_append_right _ (List.mem_append_right _ (List.mem_append_right _ (List.mem_append_left _ (List.mem_of_getElem? h)))))))))))))))
theorem tb_14 {j : Nat} {w : Cond} (h : tables_1_14[j]? = some w) : w ∈ lw_tbl := List.mem_append_right _ (by unfold tables_1; exact (List.mem_append_right _ (List.mem_append_right _ (List.mem_append_right _ (List.mem_append_right _ (List.mem_append_right _ (List.mem_append_right _ (List.mem_append_right _ (List.mem_append_right _ (List.mem_append_right _ (List.mem_append_right _ (List.mem_append_right _ (List.mem_append_right _ (List.mem_append_right _ (List.mem_append_left _ (List.mem_of_getElem? h))))))))))))))))
theorem tb_15 {j : Nat} {w : Cond} (h : tables_1_15[j]? = some w) : w ∈ lw_tbl := List.mem_append_right _ (by unfold tables_1; exact (List.mem_append_right _ (List.mem_append_right _ (List.mem_append_right _ (List.mem_append_right _ (List.mem_append_right _ (List.mem_append_right _ (List.mem_append_right _ (List.mem_append_right _ (List.mem_append_right _ (List.mem_append_right _ (List.mem_append_right _ (List.mem_append_right _ (List.mem_append_right _ (List.mem_append_right _ (List.mem_of_getElem? h))))))))))))))))
theorem st_cls {s : State} {args : Array Value} (hts : ∀ w ∈ wAll, w.before args s = true) : ∀ k : Nat, ∃ z : ClassId × (Nat → Nat), ∀ q : vw_C, cls[k]? = some q → u_Kn s q.1 q.2.1 q.2.2 z.1 z.2
  | 0 => by
    obtain ⟨c, i, h⟩ := u_known (C := RX0) (T := TX0) (N := 3) (n := 3) hts inW_0 (hts _ k_1_33)
    exact ⟨(c, i), fun q hq => by cases hq; exact h⟩
  | 1 => by
    obtain ⟨c, i, h⟩ := u_known (C := RX1) (T := TX1) (N := 14) (n := 14) hts inW_1 (hts _ k_2_15)
    exact ⟨(c, i), fun q hq => by cases hq; exact h⟩
  | 2 => by
    obtain ⟨c, i, h⟩ := u_known (C := RX2) (T := TX2) (N := 13) (n := 13) hts inW_2 (hts _ k_6_210)
    exact ⟨(c, i), fun q hq => by cases hq; exact h⟩
  | 3 => by
    obtain ⟨c, i, h⟩ := u_known (C := RX3) (T := TX3) (N := 22) (n := 22) hts inW_3 (hts _ k_1_61)
    exact ⟨(c, i), fun q hq => by cases hq; exact h⟩
  | 4 => by
    obtain ⟨c, i, h⟩ := u_known (C := RX4) (T := TX4) (N := 13) (n := 13) hts inW_4 (hts _ k_4_105)
    exact ⟨(c, i), fun q hq => by cases hq; exact h⟩
  | 5 => by
    obtain ⟨c, i, h⟩ := u_known (C := RX5) (T := TX5) (N := 14) (n := 14) hts inW_5 (hts _ k_6_57)
    exact ⟨(c, i), fun q hq => by cases hq; exact h⟩
  | 6 => by
    obtain ⟨c, i, h⟩ := u_known (C := RX6) (T := TX6) (N := 14) (n := 14) hts inW_6 (hts _ k_2_178)
    exact ⟨(c, i), fun q hq => by cases hq; exact h⟩
  | 7 => by
    obtain ⟨c, i, h⟩ := u_known (C := RX7) (T := TX7) (N := 9) (n := 9) hts inW_7 (hts _ k_2_9)
    exact ⟨(c, i), fun q hq => by cases hq; exact h⟩
  | 8 => by
    obtain ⟨c, i, h⟩ := u_known (C := RX8) (T := TX8) (N := 15) (n := 15) hts inW_8 (hts _ k_7_210)
    exact ⟨(c, i), fun q hq => by cases hq; exact h⟩
  | 9 => by
    obtain ⟨c, i, h⟩ := u_known (C := RX9) (T := TX9) (N := 11) (n := 11) hts inW_9 (hts _ k_5_191)
    exact ⟨(c, i), fun q hq => by cases hq; exact h⟩
  | 10 => by
    obtain ⟨c, i, h⟩ := u_known (C := RX10) (T := TX10) (N := 9) (n := 9) hts inW_10 (hts _ k_1_67)
    exact ⟨(c, i), fun q hq => by cases hq; exact h⟩
  | 11 => by
    obtain ⟨c, i, h⟩ := u_known (C := RX11) (T := TX11) (N := 19) (n := 19) hts inW_11 (hts _ k_1_185)
    exact ⟨(c, i), fun q hq => by cases hq; exact h⟩
  | 12 => by
    obtain ⟨c, i, h⟩ := u_known (C := RX12) (T := TX12) (N := 10) (n := 10) hts inW_12 (hts _ k_1_25)
    exact ⟨(c, i), fun q hq => by cases hq; exact h⟩
  | 13 => by
    obtain ⟨c, i, h⟩ := u_known (C := RX13) (T := TX13) (N := 81) (n := 81) hts inW_13 (hts _ k_9_120)
    exact ⟨(c, i), fun q hq => by cases hq; exact h⟩
  | 14 => by
    obtain ⟨c, i, h⟩ := u_known (C := RX14) (T := TX14) (N := 107) (n := 107) hts inW_14 (hts _ k_9_113)
    exact ⟨(c, i), fun q hq => by cases hq; exact h⟩
  | k + 15 => ⟨(0, fun _ => 0), fun q hq => by
    have h1 : (cls : List vw_C).length ≤ k + 15 := by simp [cls]
    rw [List.getElem?_eq_none h1] at hq
    cases hq⟩
theorem st_arP {s : State} {args : Array Value} {ty : FieldType} (h : (Cond.arrayClass ty).before args s = true) (hr : ∀ c, s.vm.findClass ("[" ++ ty.toString) = some c → va_RA s c ty) : ∃ c : ClassId, ArrOfT s c ty ∧ va_RA s c ty := by
  obtain ⟨c, k, comp, h1, h2, h3⟩ := Cond.arrayClass_spec h
  exact ⟨c, fun N z => ⟨(fun k h => by cases h), k, h2, comp, h3⟩, hr c h1⟩
theorem st_arO {s : State} {args : Array Value} {C : String} (h : (Cond.arrayOver (.object C)).before args s = true) : ∃ c : ClassId, ArrOfT s c (.object C) ∧ va_RA s c (.object C) := by
  obtain ⟨comp, c, k, h1, h2, h3, h4, h5⟩ := Cond.arrayOver_spec h
  exact ⟨c, fun N z => ⟨(fun k h => by cases h), k, h3, comp, h4⟩, k, comp, h3, h4, h1, h5⟩
theorem st_K {s : State} {args : Array Value} (h0 : ∀ w ∈ lw_tbl, w.before args s = true) : ∃ (D : va_G) (ca : Nat → ClassId), va_K D cls (tyL ca) s := by
  have hts := wA_hts h0
  obtain ⟨d, hd⟩ := Classical.axiomOfChoice (st_cls hts)
  obtain ⟨c0, h00⟩ := st_arP (h0 _ (tb_1 (j := 57) (w := (Jvm.Cond.arrayClass Jvm.ClassFile.FieldType.int)) rfl)) (fun _ h => h)
  obtain ⟨c1, h01⟩ := st_arP (h0 _ (tb_1 (j := 105) (w := (Jvm.Cond.arrayClass Jvm.ClassFile.FieldType.long)) rfl)) (fun _ h => h)
  obtain ⟨c2, h02⟩ := st_arP (h0 _ (tb_4 (j := 180) (w := (Jvm.Cond.arrayClass Jvm.ClassFile.FieldType.byte)) rfl)) (fun _ h => h)
  obtain ⟨c3, h03⟩ := st_arP (h0 _ (tb_2 (j := 126) (w := (Jvm.Cond.arrayClass Jvm.ClassFile.FieldType.boolean)) rfl)) (fun _ h => h)
  obtain ⟨c4, h04⟩ := st_arO (h0 _ (tb_1 (j := 59) (w := (Jvm.Cond.arrayOver (Jvm.ClassFile.FieldType.object "StaveHouse$Piece"))) rfl))
  obtain ⟨c5, h05⟩ := st_arO (h0 _ (tb_9 (j := 119) (w := (Jvm.Cond.arrayOver (Jvm.ClassFile.FieldType.object "StaveHouseModel$Piece"))) rfl))
  refine ⟨(fun k => (d k).1, fun k => (d k).2), fun k => [c0, c1, c2, c3, c4, c5].getD k c0, fun c q hq => hd c q hq, fun k q hq => ?_⟩
  match k, hq with
  | 0, hq => cases hq; exact h00
  | 1, hq => cases hq; exact h01
  | 2, hq => cases hq; exact h02
  | 3, hq => cases hq; exact h03
  | 4, hq => cases hq; exact h04
  | 5, hq => cases hq; exact h05
  | k + 6, hq =>
    have h1 : (tyL fun k => [c0, c1, c2, c3, c4, c5].getD k c0).length ≤ k + 6 := by simp [tyL]
    rw [List.getElem?_eq_none h1] at hq
    cases hq
theorem st_str {args : Array Value} {s : State} {own tx : String} {k n : Nat} {byt : List Int32} {A : Nat → Prop} (hn : n < 2 ^ 31) (hsr : (Cond.stringRef own k tx).before args s = true) (hex : (Cond.exactly (Term.string own k) "java/lang/String").before args s = true) (hco : (Cond.eq (.field (Term.string own k) "java/lang/String" "coder" "B") (.int 0)).before args s = true)
    (har : (Cond.arrayOf (.field (Term.string own k) "java/lang/String" "value" "[B") .byte).before args s = true) (hle : (Cond.eq (.length (.field (Term.string own k) "java/lang/String" "value" "[B")) (.int (Int32.ofNat n))).before args s = true)
    (hel : ∀ j : Nat, j < n → (Cond.eq (.elem (.field (Term.string own k) "java/lang/String" "value" "[B") (.int (Int32.ofNat j))) (.int (byt.getD j 0))).before args s = true) (hA : ∀ a : Nat, a < s.heap.size → ¬ A a) :
    ∃ z : Nat × Nat, vk_R own k tx z.1 s ∧ vk_S 1 [n] [byt] (fun _ => z.1) (fun _ => z.2) A s s.heap := by
  have e0 : ∀ i : Nat, i < 1 → i = 0 := fun i h => by omega
  obtain ⟨adK, adV, hS, hE⟩ := vk_Sof (N := 1) (tm := fun _ => Term.string own k) (len := [n]) (byt := [byt]) (A := A) (fun i hi => by rw [e0 i hi]; exact hn) (fun i hi => hex) (fun i hi => hco) (fun i hi => har) (fun i hi => by rw [e0 i hi]; exact hle)
    (fun i hi => by rw [e0 i hi]; exact hel) (fun i j hi hj h => absurd ((e0 i hi).trans (e0 j hj).symm) h) hA
  exact ⟨(adK 0, adV 0), vk_R.of hsr (hE 0 (by decide)), fun i hi => by rw [e0 i hi]; exact hS.1 0 (by decide), fun i j hi hj _ => (e0 i hi).trans (e0 j hj).symm⟩
def naT : Jvm.Cond := Jvm.Cond.and given_1 narrow_1
theorem st_s0 {args : Array Value} {s : State} {A : Nat → Prop} (h0 : ∀ w ∈ lw_tbl, w.before args s = true) (hf : ∀ c ∈ flatC naT, c.before args s = true) (hA : ∀ a : Nat, a < s.heap.size → ¬ A a) : ∃ z : Nat × Nat, vk_R "StaveHouse$SoundFile" 96 "MThd" z.1 s ∧ vk_S 1 [4] [[77, 84, 104, 100]] (fun _ => z.1) (fun _ => z.2) A s s.heap :=
  st_str (by decide) (h0 _ (tb_8 (j := 42) (w := (Jvm.Cond.stringRef "StaveHouse$SoundFile" (96 : Nat) "MThd")) rfl)) (hf _ (by decide +kernel)) (hf _ (by decide +kernel)) (hf _ (by decide +kernel)) (hf _ (by decide +kernel)) (fun j hj => hf _ ((by decide +kernel : ∀ j : Nat, j < 4 → (Cond.eq (.elem (.field (Term.string "StaveHouse$SoundFile" 96) "java/lang/String" "value" "[B") (.int (Int32.ofNat j))) (.int (([77, 84, 104, 100] : List Int32).getD j 0))) ∈ flatC naT) j hj)) hA
theorem st_s1 {args : Array Value} {s : State} {A : Nat → Prop} (h0 : ∀ w ∈ lw_tbl, w.before args s = true) (hf : ∀ c ∈ flatC naT, c.before args s = true) (hA : ∀ a : Nat, a < s.heap.size → ¬ A a) : ∃ z : Nat × Nat, vk_R "StaveHouseModel" 65 "treble" z.1 s ∧ vk_S 1 [6] [[116, 114, 101, 98, 108, 101]] (fun _ => z.1) (fun _ => z.2) A s s.heap :=
  st_str (by decide) (h0 _ (tb_10 (j := 190) (w := (Jvm.Cond.stringRef "StaveHouseModel" (65 : Nat) "treble")) rfl)) (hf _ (by decide +kernel)) (hf _ (by decide +kernel)) (hf _ (by decide +kernel)) (hf _ (by decide +kernel)) (fun j hj => hf _ ((by decide +kernel : ∀ j : Nat, j < 6 → (Cond.eq (.elem (.field (Term.string "StaveHouseModel" 65) "java/lang/String" "value" "[B") (.int (Int32.ofNat j))) (.int (([116, 114, 101, 98, 108, 101] : List Int32).getD j 0))) ∈ flatC naT) j hj)) hA
theorem st_s2 {args : Array Value} {s : State} {A : Nat → Prop} (h0 : ∀ w ∈ lw_tbl, w.before args s = true) (hf : ∀ c ∈ flatC naT, c.before args s = true) (hA : ∀ a : Nat, a < s.heap.size → ¬ A a) : ∃ z : Nat × Nat, vk_R "StaveHouseModel" 71 "bass" z.1 s ∧ vk_S 1 [4] [[98, 97, 115, 115]] (fun _ => z.1) (fun _ => z.2) A s s.heap :=
  st_str (by decide) (h0 _ (tb_10 (j := 196) (w := (Jvm.Cond.stringRef "StaveHouseModel" (71 : Nat) "bass")) rfl)) (hf _ (by decide +kernel)) (hf _ (by decide +kernel)) (hf _ (by decide +kernel)) (hf _ (by decide +kernel)) (fun j hj => hf _ ((by decide +kernel : ∀ j : Nat, j < 4 → (Cond.eq (.elem (.field (Term.string "StaveHouseModel" 71) "java/lang/String" "value" "[B") (.int (Int32.ofNat j))) (.int (([98, 97, 115, 115] : List Int32).getD j 0))) ∈ flatC naT) j hj)) hA
theorem st_s3 {args : Array Value} {s : State} {A : Nat → Prop} (h0 : ∀ w ∈ lw_tbl, w.before args s = true) (hf : ∀ c ∈ flatC naT, c.before args s = true) (hA : ∀ a : Nat, a < s.heap.size → ¬ A a) : ∃ z : Nat × Nat, vk_R "StaveHouseModel" 73 "alto" z.1 s ∧ vk_S 1 [4] [[97, 108, 116, 111]] (fun _ => z.1) (fun _ => z.2) A s s.heap :=
  st_str (by decide) (h0 _ (tb_10 (j := 197) (w := (Jvm.Cond.stringRef "StaveHouseModel" (73 : Nat) "alto")) rfl)) (hf _ (by decide +kernel)) (hf _ (by decide +kernel)) (hf _ (by decide +kernel)) (hf _ (by decide +kernel)) (fun j hj => hf _ ((by decide +kernel : ∀ j : Nat, j < 4 → (Cond.eq (.elem (.field (Term.string "StaveHouseModel" 73) "java/lang/String" "value" "[B") (.int (Int32.ofNat j))) (.int (([97, 108, 116, 111] : List Int32).getD j 0))) ∈ flatC naT) j hj)) hA
theorem st_s4 {args : Array Value} {s : State} {A : Nat → Prop} (h0 : ∀ w ∈ lw_tbl, w.before args s = true) (hf : ∀ c ∈ flatC naT, c.before args s = true) (hA : ∀ a : Nat, a < s.heap.size → ¬ A a) : ∃ z : Nat × Nat, vk_R "StaveHouseModel" 75 "tenor" z.1 s ∧ vk_S 1 [5] [[116, 101, 110, 111, 114]] (fun _ => z.1) (fun _ => z.2) A s s.heap :=
  st_str (by decide) (h0 _ (tb_10 (j := 198) (w := (Jvm.Cond.stringRef "StaveHouseModel" (75 : Nat) "tenor")) rfl)) (hf _ (by decide +kernel)) (hf _ (by decide +kernel)) (hf _ (by decide +kernel)) (hf _ (by decide +kernel)) (fun j hj => hf _ ((by decide +kernel : ∀ j : Nat, j < 5 → (Cond.eq (.elem (.field (Term.string "StaveHouseModel" 75) "java/lang/String" "value" "[B") (.int (Int32.ofNat j))) (.int (([116, 101, 110, 111, 114] : List Int32).getD j 0))) ∈ flatC naT) j hj)) hA
theorem st_s5 {args : Array Value} {s : State} {A : Nat → Prop} (h0 : ∀ w ∈ lw_tbl, w.before args s = true) (hf : ∀ c ∈ flatC naT, c.before args s = true) (hA : ∀ a : Nat, a < s.heap.size → ¬ A a) : ∃ z : Nat × Nat, vk_R "StaveHouseModel" 80 "ppp" z.1 s ∧ vk_S 1 [3] [[112, 112, 112]] (fun _ => z.1) (fun _ => z.2) A s s.heap :=
  st_str (by decide) (h0 _ (tb_10 (j := 199) (w := (Jvm.Cond.stringRef "StaveHouseModel" (80 : Nat) "ppp")) rfl)) (hf _ (by decide +kernel)) (hf _ (by decide +kernel)) (hf _ (by decide +kernel)) (hf _ (by decide +kernel)) (fun j hj => hf _ ((by decide +kernel : ∀ j : Nat, j < 3 → (Cond.eq (.elem (.field (Term.string "StaveHouseModel" 80) "java/lang/String" "value" "[B") (.int (Int32.ofNat j))) (.int (([112, 112, 112] : List Int32).getD j 0))) ∈ flatC naT) j hj)) hA
theorem st_s6 {args : Array Value} {s : State} {A : Nat → Prop} (h0 : ∀ w ∈ lw_tbl, w.before args s = true) (hf : ∀ c ∈ flatC naT, c.before args s = true) (hA : ∀ a : Nat, a < s.heap.size → ¬ A a) : ∃ z : Nat × Nat, vk_R "StaveHouseModel" 82 "pp" z.1 s ∧ vk_S 1 [2] [[112, 112]] (fun _ => z.1) (fun _ => z.2) A s s.heap :=
  st_str (by decide) (h0 _ (tb_10 (j := 200) (w := (Jvm.Cond.stringRef "StaveHouseModel" (82 : Nat) "pp")) rfl)) (hf _ (by decide +kernel)) (hf _ (by decide +kernel)) (hf _ (by decide +kernel)) (hf _ (by decide +kernel)) (fun j hj => hf _ ((by decide +kernel : ∀ j : Nat, j < 2 → (Cond.eq (.elem (.field (Term.string "StaveHouseModel" 82) "java/lang/String" "value" "[B") (.int (Int32.ofNat j))) (.int (([112, 112] : List Int32).getD j 0))) ∈ flatC naT) j hj)) hA
theorem st_s7 {args : Array Value} {s : State} {A : Nat → Prop} (h0 : ∀ w ∈ lw_tbl, w.before args s = true) (hf : ∀ c ∈ flatC naT, c.before args s = true) (hA : ∀ a : Nat, a < s.heap.size → ¬ A a) : ∃ z : Nat × Nat, vk_R "StaveHouseModel" 84 "p" z.1 s ∧ vk_S 1 [1] [[112]] (fun _ => z.1) (fun _ => z.2) A s s.heap :=
  st_str (by decide) (h0 _ (tb_10 (j := 201) (w := (Jvm.Cond.stringRef "StaveHouseModel" (84 : Nat) "p")) rfl)) (hf _ (by decide +kernel)) (hf _ (by decide +kernel)) (hf _ (by decide +kernel)) (hf _ (by decide +kernel)) (fun j hj => hf _ ((by decide +kernel : ∀ j : Nat, j < 1 → (Cond.eq (.elem (.field (Term.string "StaveHouseModel" 84) "java/lang/String" "value" "[B") (.int (Int32.ofNat j))) (.int (([112] : List Int32).getD j 0))) ∈ flatC naT) j hj)) hA
theorem st_s8 {args : Array Value} {s : State} {A : Nat → Prop} (h0 : ∀ w ∈ lw_tbl, w.before args s = true) (hf : ∀ c ∈ flatC naT, c.before args s = true) (hA : ∀ a : Nat, a < s.heap.size → ¬ A a) : ∃ z : Nat × Nat, vk_R "StaveHouseModel" 86 "mp" z.1 s ∧ vk_S 1 [2] [[109, 112]] (fun _ => z.1) (fun _ => z.2) A s s.heap :=
  st_str (by decide) (h0 _ (tb_10 (j := 202) (w := (Jvm.Cond.stringRef "StaveHouseModel" (86 : Nat) "mp")) rfl)) (hf _ (by decide +kernel)) (hf _ (by decide +kernel)) (hf _ (by decide +kernel)) (hf _ (by decide +kernel)) (fun j hj => hf _ ((by decide +kernel : ∀ j : Nat, j < 2 → (Cond.eq (.elem (.field (Term.string "StaveHouseModel" 86) "java/lang/String" "value" "[B") (.int (Int32.ofNat j))) (.int (([109, 112] : List Int32).getD j 0))) ∈ flatC naT) j hj)) hA
theorem st_s9 {args : Array Value} {s : State} {A : Nat → Prop} (h0 : ∀ w ∈ lw_tbl, w.before args s = true) (hf : ∀ c ∈ flatC naT, c.before args s = true) (hA : ∀ a : Nat, a < s.heap.size → ¬ A a) : ∃ z : Nat × Nat, vk_R "StaveHouseModel" 88 "mf" z.1 s ∧ vk_S 1 [2] [[109, 102]] (fun _ => z.1) (fun _ => z.2) A s s.heap :=
  st_str (by decide) (h0 _ (tb_10 (j := 203) (w := (Jvm.Cond.stringRef "StaveHouseModel" (88 : Nat) "mf")) rfl)) (hf _ (by decide +kernel)) (hf _ (by decide +kernel)) (hf _ (by decide +kernel)) (hf _ (by decide +kernel)) (fun j hj => hf _ ((by decide +kernel : ∀ j : Nat, j < 2 → (Cond.eq (.elem (.field (Term.string "StaveHouseModel" 88) "java/lang/String" "value" "[B") (.int (Int32.ofNat j))) (.int (([109, 102] : List Int32).getD j 0))) ∈ flatC naT) j hj)) hA
theorem st_s10 {args : Array Value} {s : State} {A : Nat → Prop} (h0 : ∀ w ∈ lw_tbl, w.before args s = true) (hf : ∀ c ∈ flatC naT, c.before args s = true) (hA : ∀ a : Nat, a < s.heap.size → ¬ A a) : ∃ z : Nat × Nat, vk_R "StaveHouseModel" 90 "f" z.1 s ∧ vk_S 1 [1] [[102]] (fun _ => z.1) (fun _ => z.2) A s s.heap :=
  st_str (by decide) (h0 _ (tb_10 (j := 204) (w := (Jvm.Cond.stringRef "StaveHouseModel" (90 : Nat) "f")) rfl)) (hf _ (by decide +kernel)) (hf _ (by decide +kernel)) (hf _ (by decide +kernel)) (hf _ (by decide +kernel)) (fun j hj => hf _ ((by decide +kernel : ∀ j : Nat, j < 1 → (Cond.eq (.elem (.field (Term.string "StaveHouseModel" 90) "java/lang/String" "value" "[B") (.int (Int32.ofNat j))) (.int (([102] : List Int32).getD j 0))) ∈ flatC naT) j hj)) hA
theorem st_s11 {args : Array Value} {s : State} {A : Nat → Prop} (h0 : ∀ w ∈ lw_tbl, w.before args s = true) (hf : ∀ c ∈ flatC naT, c.before args s = true) (hA : ∀ a : Nat, a < s.heap.size → ¬ A a) : ∃ z : Nat × Nat, vk_R "StaveHouseModel" 92 "ff" z.1 s ∧ vk_S 1 [2] [[102, 102]] (fun _ => z.1) (fun _ => z.2) A s s.heap :=
  st_str (by decide) (h0 _ (tb_10 (j := 205) (w := (Jvm.Cond.stringRef "StaveHouseModel" (92 : Nat) "ff")) rfl)) (hf _ (by decide +kernel)) (hf _ (by decide +kernel)) (hf _ (by decide +kernel)) (hf _ (by decide +kernel)) (fun j hj => hf _ ((by decide +kernel : ∀ j : Nat, j < 2 → (Cond.eq (.elem (.field (Term.string "StaveHouseModel" 92) "java/lang/String" "value" "[B") (.int (Int32.ofNat j))) (.int (([102, 102] : List Int32).getD j 0))) ∈ flatC naT) j hj)) hA
theorem st_s12 {args : Array Value} {s : State} {A : Nat → Prop} (h0 : ∀ w ∈ lw_tbl, w.before args s = true) (hf : ∀ c ∈ flatC naT, c.before args s = true) (hA : ∀ a : Nat, a < s.heap.size → ¬ A a) : ∃ z : Nat × Nat, vk_R "StaveHouseModel" 94 "fff" z.1 s ∧ vk_S 1 [3] [[102, 102, 102]] (fun _ => z.1) (fun _ => z.2) A s s.heap :=
  st_str (by decide) (h0 _ (tb_10 (j := 206) (w := (Jvm.Cond.stringRef "StaveHouseModel" (94 : Nat) "fff")) rfl)) (hf _ (by decide +kernel)) (hf _ (by decide +kernel)) (hf _ (by decide +kernel)) (hf _ (by decide +kernel)) (fun j hj => hf _ ((by decide +kernel : ∀ j : Nat, j < 3 → (Cond.eq (.elem (.field (Term.string "StaveHouseModel" 94) "java/lang/String" "value" "[B") (.int (Int32.ofNat j))) (.int (([102, 102, 102] : List Int32).getD j 0))) ∈ flatC naT) j hj)) hA
theorem st_s13 {args : Array Value} {s : State} {A : Nat → Prop} (h0 : ∀ w ∈ lw_tbl, w.before args s = true) (hf : ∀ c ∈ flatC naT, c.before args s = true) (hA : ∀ a : Nat, a < s.heap.size → ¬ A a) : ∃ z : Nat × Nat, vk_R "StaveHouseModel" 969 "MThd" z.1 s ∧ vk_S 1 [4] [[77, 84, 104, 100]] (fun _ => z.1) (fun _ => z.2) A s s.heap :=
  st_str (by decide) (h0 _ (tb_12 (j := 194) (w := (Jvm.Cond.stringRef "StaveHouseModel" (969 : Nat) "MThd")) rfl)) (hf _ (by decide +kernel)) (hf _ (by decide +kernel)) (hf _ (by decide +kernel)) (hf _ (by decide +kernel)) (fun j hj => hf _ ((by decide +kernel : ∀ j : Nat, j < 4 → (Cond.eq (.elem (.field (Term.string "StaveHouseModel" 969) "java/lang/String" "value" "[B") (.int (Int32.ofNat j))) (.int (([77, 84, 104, 100] : List Int32).getD j 0))) ∈ flatC naT) j hj)) hA
theorem st_strs {args : Array Value} {s : State} {A : Nat → Prop} (h0 : ∀ w ∈ lw_tbl, w.before args s = true) (hf : ∀ c ∈ flatC naT, c.before args s = true) (hA : ∀ a : Nat, a < s.heap.size → ¬ A a) : ∀ i : Nat, ∃ z : Nat × Nat, ∀ q : String × Nat × String × Nat × List Int32, strL[i]? = some q → vk_R q.1 q.2.1 q.2.2.1 z.1 s ∧ vk_S 1 [q.2.2.2.1] [q.2.2.2.2] (fun _ => z.1) (fun _ => z.2) A s s.heap
  | 0 => by
    obtain ⟨z, h⟩ := st_s0 (A := A) h0 hf hA
    exact ⟨z, fun q hq => by cases hq; exact h⟩
  | 1 => by
    obtain ⟨z, h⟩ := st_s1 (A := A) h0 hf hA
    exact ⟨z, fun q hq => by cases hq; exact h⟩
  | 2 => by
    obtain ⟨z, h⟩ := st_s2 (A := A) h0 hf hA
    exact ⟨z, fun q hq => by cases hq; exact h⟩
  | 3 => by
    obtain ⟨z, h⟩ := st_s3 (A := A) h0 hf hA
    exact ⟨z, fun q hq => by cases hq; exact h⟩
  | 4 => by
    obtain ⟨z, h⟩ := st_s4 (A := A) h0 hf hA
    exact ⟨z, fun q hq => by cases hq; exact h⟩
  | 5 => by
    obtain ⟨z, h⟩ := st_s5 (A := A) h0 hf hA
    exact ⟨z, fun q hq => by cases hq; exact h⟩
  | 6 => by
    obtain ⟨z, h⟩ := st_s6 (A := A) h0 hf hA
    exact ⟨z, fun q hq => by cases hq; exact h⟩
  | 7 => by
    obtain ⟨z, h⟩ := st_s7 (A := A) h0 hf hA
    exact ⟨z, fun q hq => by cases hq; exact h⟩
  | 8 => by
    obtain ⟨z, h⟩ := st_s8 (A := A) h0 hf hA
    exact ⟨z, fun q hq => by cases hq; exact h⟩
  | 9 => by
    obtain ⟨z, h⟩ := st_s9 (A := A) h0 hf hA
    exact ⟨z, fun q hq => by cases hq; exact h⟩
  | 10 => by
    obtain ⟨z, h⟩ := st_s10 (A := A) h0 hf hA
    exact ⟨z, fun q hq => by cases hq; exact h⟩
  | 11 => by
    obtain ⟨z, h⟩ := st_s11 (A := A) h0 hf hA
    exact ⟨z, fun q hq => by cases hq; exact h⟩
  | 12 => by
    obtain ⟨z, h⟩ := st_s12 (A := A) h0 hf hA
    exact ⟨z, fun q hq => by cases hq; exact h⟩
  | 13 => by
    obtain ⟨z, h⟩ := st_s13 (A := A) h0 hf hA
    exact ⟨z, fun q hq => by cases hq; exact h⟩
  | k + 14 => ⟨(0, 0), fun q hq => by
    have h1 : strL.length ≤ k + 14 := by simp [strL]
    rw [List.getElem?_eq_none h1] at hq
    cases hq⟩
theorem st_nest {args : Array Value} {s : State} (h0 : ∀ w ∈ lw_tbl, w.before args s = true) : ∀ q ∈ nestL, va_Nw (.methodLinkNest q.1 q.2.1 q.2.2.1 q.2.2.2) s := by
  unfold nestL
  exact List.forall_mem_cons.mpr ⟨va_Nw.of rfl (h0 _ (tb_1 (j := 62) (w := (Jvm.Cond.methodLinkNest "StaveHouse" (33 : Nat) ({ cls := "StaveHouse$Parser", name := "<init>", desc := "()V" } : Jvm.MethodName) "StaveHouse")) rfl)), List.forall_mem_cons.mpr ⟨va_Nw.of rfl (h0 _ (tb_1 (j := 68) (w := (Jvm.Cond.methodLinkNest "StaveHouse$Parser" (47 : Nat) ({ cls := "StaveHouse$Tokens", name := "<init>", desc := "()V" } : Jvm.MethodName) "StaveHouse")) rfl)), List.forall_mem_cons.mpr ⟨va_Nw.of rfl (h0 _ (tb_1 (j := 186) (w := (Jvm.Cond.methodLinkNest "StaveHouse" (40 : Nat) ({ cls := "StaveHouse$Walker", name := "<init>", desc := "()V" } : Jvm.MethodName) "StaveHouse")) rfl)), List.forall_mem_cons.mpr ⟨va_Nw.of rfl (h0 _ (tb_2 (j := 10) (w := (Jvm.Cond.methodLinkNest "StaveHouse" (47 : Nat) ({ cls := "StaveHouse$Scribe", name := "<init>", desc := "()V" } : Jvm.MethodName) "StaveHouse")) rfl)), List.forall_mem_cons.mpr ⟨va_Nw.of rfl (h0 _ (tb_2 (j := 16) (w := (Jvm.Cond.methodLinkNest "StaveHouse$Scribe" (11 : Nat) ({ cls := "StaveHouse$Event", name := "<init>", desc := "()V" } : Jvm.MethodName) "StaveHouse")) rfl)), List.forall_mem_cons.mpr ⟨va_Nw.of rfl (h0 _ (tb_2 (j := 179) (w := (Jvm.Cond.methodLinkNest "StaveHouse" (67 : Nat) ({ cls := "StaveHouse$Piece", name := "<init>", desc := "()V" } : Jvm.MethodName) "StaveHouse")) rfl)), List.forall_mem_cons.mpr ⟨va_Nw.of rfl (h0 _ (tb_4 (j := 114) (w := (Jvm.Cond.methodLinkNest "StaveHouse$Part" (30 : Nat) ({ cls := "StaveHouse$Event", name := "<init>", desc := "()V" } : Jvm.MethodName) "StaveHouse")) rfl)), List.forall_mem_cons.mpr ⟨va_Nw.of rfl (h0 _ (tb_5 (j := 192) (w := (Jvm.Cond.methodLinkNest "StaveHouse$Piece" (110 : Nat) ({ cls := "StaveHouse$Study", name := "<init>", desc := "()V" } : Jvm.MethodName) "StaveHouse")) rfl)), List.forall_mem_cons.mpr ⟨va_Nw.of rfl (h0 _ (tb_6 (j := 58) (w := (Jvm.Cond.methodLinkNest "StaveHouse$Piece" (99 : Nat) ({ cls := "StaveHouse$Performance", name := "<init>", desc := "()V" } : Jvm.MethodName) "StaveHouse")) rfl)), List.forall_mem_cons.mpr ⟨va_Nw.of rfl (h0 _ (tb_6 (j := 211) (w := (Jvm.Cond.methodLinkNest "StaveHouse" (237 : Nat) ({ cls := "StaveHouse$Layout", name := "<init>", desc := "()V" } : Jvm.MethodName) "StaveHouse")) rfl)), List.forall_mem_cons.mpr ⟨va_Nw.of rfl (h0 _ (tb_7 (j := 211) (w := (Jvm.Cond.methodLinkNest "StaveHouse" (277 : Nat) ({ cls := "StaveHouse$SoundFile", name := "<init>", desc := "()V" } : Jvm.MethodName) "StaveHouse")) rfl)), List.forall_mem_cons.mpr ⟨va_Nw.of rfl (h0 _ (tb_9 (j := 121) (w := (Jvm.Cond.methodLinkNest "StaveHouseModel" (39 : Nat) ({ cls := "StaveHouseModel$Piece", name := "<init>", desc := "()V" } : Jvm.MethodName) "StaveHouseModel")) rfl)), fun _ h => absurd h List.not_mem_nil⟩⟩⟩⟩⟩⟩⟩⟩⟩⟩⟩⟩
theorem st_ao {args : Array Value} {s : State} (h0 : ∀ w ∈ lw_tbl, w.before args s = true) : ∀ C ∈ aoL, va_AO C s := by
  unfold aoL
  exact List.forall_mem_cons.mpr ⟨va_AO.of (h0 _ (tb_1 (j := 59) (w := (Jvm.Cond.arrayOver (Jvm.ClassFile.FieldType.object "StaveHouse$Piece"))) rfl)), List.forall_mem_cons.mpr ⟨va_AO.of (h0 _ (tb_2 (j := 184) (w := (Jvm.Cond.arrayOver (Jvm.ClassFile.FieldType.object "StaveHouse$Part"))) rfl)), List.forall_mem_cons.mpr ⟨va_AO.of (h0 _ (tb_9 (j := 119) (w := (Jvm.Cond.arrayOver (Jvm.ClassFile.FieldType.object "StaveHouseModel$Piece"))) rfl)), fun _ h => absurd h List.not_mem_nil⟩⟩⟩
theorem st_stat {args : Array Value} {s : State} {A : Nat → Prop} (h0 : ∀ w ∈ lw_tbl, w.before args s = true) (hf : ∀ c ∈ flatC naT, c.before args s = true) (hA : ∀ a : Nat, a < s.heap.size → ¬ A a) : ∀ q ∈ statL, va_Z q.1 q.2.1 q.2.2.1 q.2.2.2 A s s.heap := by
  unfold statL
  exact List.forall_mem_cons.mpr ⟨va_Zof (h0 _ (tb_3 (j := 80) (w := (Jvm.Cond.laysStatic "java/lang/String" "COMPACT_STRINGS" "Z")) rfl)) (h0 _ (tb_1 (j := 11) (w := (Jvm.Cond.initialized "java/lang/String")) rfl)) (va_eqt (hf (Cond.eq (.static "java/lang/String" "COMPACT_STRINGS" "Z") (.int 1)) (by decide +kernel))) hA, List.forall_mem_cons.mpr ⟨va_Zof (h0 _ (tb_10 (j := 208) (w := (Jvm.Cond.laysStatic "StaveHouseModel" "KEY" "J")) rfl)) (h0 _ (tb_1 (j := 9) (w := (Jvm.Cond.initialized "StaveHouseModel")) rfl)) (va_eqtl (hf (Cond.eq (.static "StaveHouseModel" "KEY" "J") (.long 7038329)) (by decide +kernel))) hA, List.forall_mem_cons.mpr ⟨va_Zof (h0 _ (tb_10 (j := 210) (w := (Jvm.Cond.laysStatic "StaveHouseModel" "MAJOR" "J")) rfl)) (h0 _ (tb_1 (j := 9) (w := (Jvm.Cond.initialized "StaveHouseModel")) rfl)) (va_eqtl (hf (Cond.eq (.static "StaveHouseModel" "MAJOR" "J") (.long 469785800562)) (by decide +kernel))) hA, List.forall_mem_cons.mpr ⟨va_Zof (h0 _ (tb_10 (j := 212) (w := (Jvm.Cond.laysStatic "StaveHouseModel" "MINOR" "J")) rfl)) (h0 _ (tb_1 (j := 9) (w := (Jvm.Cond.initialized "StaveHouseModel")) rfl)) (va_eqtl (hf (Cond.eq (.static "StaveHouseModel" "MINOR" "J") (.long 469920280434)) (by decide +kernel))) hA, List.forall_mem_cons.mpr ⟨va_Zof (h0 _ (tb_10 (j := 214) (w := (Jvm.Cond.laysStatic "StaveHouseModel" "TIME" "J")) rfl)) (h0 _ (tb_1 (j := 9) (w := (Jvm.Cond.initialized "StaveHouseModel")) rfl)) (va_eqtl (hf (Cond.eq (.static "StaveHouseModel" "TIME" "J") (.long 1953066341)) (by decide +kernel))) hA, List.forall_mem_cons.mpr ⟨va_Zof (h0 _ (tb_10 (j := 216) (w := (Jvm.Cond.laysStatic "StaveHouseModel" "TEMPO" "J")) rfl)) (h0 _ (tb_1 (j := 9) (w := (Jvm.Cond.initialized "StaveHouseModel")) rfl)) (va_eqtl (hf (Cond.eq (.static "StaveHouseModel" "TEMPO" "J") (.long 499917877359)) (by decide +kernel))) hA, List.forall_mem_cons.mpr ⟨va_Zof (h0 _ (tb_10 (j := 218) (w := (Jvm.Cond.laysStatic "StaveHouseModel" "LET" "J")) rfl)) (h0 _ (tb_1 (j := 9) (w := (Jvm.Cond.initialized "StaveHouseModel")) rfl)) (va_eqtl (hf (Cond.eq (.static "StaveHouseModel" "LET" "J") (.long 7103860)) (by decide +kernel))) hA, List.forall_mem_cons.mpr ⟨va_Zof (h0 _ (tb_10 (j := 220) (w := (Jvm.Cond.laysStatic "StaveHouseModel" "VOICE" "J")) rfl)) (h0 _ (tb_1 (j := 9) (w := (Jvm.Cond.initialized "StaveHouseModel")) rfl)) (va_eqtl (hf (Cond.eq (.static "StaveHouseModel" "VOICE" "J") (.long 508675318629)) (by decide +kernel))) hA, List.forall_mem_cons.mpr ⟨va_Zof (h0 _ (tb_10 (j := 222) (w := (Jvm.Cond.laysStatic "StaveHouseModel" "REPEAT" "J")) rfl)) (h0 _ (tb_1 (j := 9) (w := (Jvm.Cond.initialized "StaveHouseModel")) rfl)) (va_eqtl (hf (Cond.eq (.static "StaveHouseModel" "REPEAT" "J") (.long 125780002955636)) (by decide +kernel))) hA, List.forall_mem_cons.mpr ⟨va_Zof (h0 _ (tb_10 (j := 224) (w := (Jvm.Cond.laysStatic "StaveHouseModel" "ALT" "J")) rfl)) (h0 _ (tb_1 (j := 9) (w := (Jvm.Cond.initialized "StaveHouseModel")) rfl)) (va_eqtl (hf (Cond.eq (.static "StaveHouseModel" "ALT" "J") (.long 6384756)) (by decide +kernel))) hA, List.forall_mem_cons.mpr ⟨va_Zof (h0 _ (tb_10 (j := 226) (w := (Jvm.Cond.laysStatic "StaveHouseModel" "USE" "J")) rfl)) (h0 _ (tb_1 (j := 9) (w := (Jvm.Cond.initialized "StaveHouseModel")) rfl)) (va_eqtl (hf (Cond.eq (.static "StaveHouseModel" "USE" "J") (.long 7697253)) (by decide +kernel))) hA, List.forall_mem_cons.mpr ⟨va_Zof (h0 _ (tb_10 (j := 228) (w := (Jvm.Cond.laysStatic "StaveHouseModel" "MOVE" "J")) rfl)) (h0 _ (tb_1 (j := 9) (w := (Jvm.Cond.initialized "StaveHouseModel")) rfl)) (va_eqtl (hf (Cond.eq (.static "StaveHouseModel" "MOVE" "J") (.long 1836021349)) (by decide +kernel))) hA, List.forall_mem_cons.mpr ⟨va_Zof (h0 _ (tb_10 (j := 230) (w := (Jvm.Cond.laysStatic "StaveHouseModel" "MIRROR" "J")) rfl)) (h0 _ (tb_1 (j := 9) (w := (Jvm.Cond.initialized "StaveHouseModel")) rfl)) (va_eqtl (hf (Cond.eq (.static "StaveHouseModel" "MIRROR" "J") (.long 120299659095922)) (by decide +kernel))) hA, List.forall_mem_cons.mpr ⟨va_Zof (h0 _ (tb_10 (j := 232) (w := (Jvm.Cond.laysStatic "StaveHouseModel" "BACK" "J")) rfl)) (h0 _ (tb_1 (j := 9) (w := (Jvm.Cond.initialized "StaveHouseModel")) rfl)) (va_eqtl (hf (Cond.eq (.static "StaveHouseModel" "BACK" "J") (.long 1650549611)) (by decide +kernel))) hA, List.forall_mem_cons.mpr ⟨va_Zof (h0 _ (tb_10 (j := 234) (w := (Jvm.Cond.laysStatic "StaveHouseModel" "SLOW" "J")) rfl)) (h0 _ (tb_1 (j := 9) (w := (Jvm.Cond.initialized "StaveHouseModel")) rfl)) (va_eqtl (hf (Cond.eq (.static "StaveHouseModel" "SLOW" "J") (.long 1936486263)) (by decide +kernel))) hA, List.forall_mem_cons.mpr ⟨va_Zof (h0 _ (tb_10 (j := 236) (w := (Jvm.Cond.laysStatic "StaveHouseModel" "REST" "J")) rfl)) (h0 _ (tb_1 (j := 9) (w := (Jvm.Cond.initialized "StaveHouseModel")) rfl)) (va_eqtl (hf (Cond.eq (.static "StaveHouseModel" "REST" "J") (.long 114)) (by decide +kernel))) hA, fun _ h => absurd h List.not_mem_nil⟩⟩⟩⟩⟩⟩⟩⟩⟩⟩⟩⟩⟩⟩⟩⟩
theorem st_X {args : Array Value} {s : State} {A : Nat → Prop} (h0 : ∀ w ∈ lw_tbl, w.before args s = true) (hg : (Jvm.Cond.and given_1 narrow_1).before args s = true) (hA : ∀ a : Nat, a < s.heap.size → ¬ A a) : ∃ ad av : Nat → Nat, gX ad av A s s.heap := by
  have hf : ∀ c ∈ flatC naT, c.before args s = true := flat_of_before naT hg
  obtain ⟨d, hd⟩ := Classical.axiomOfChoice (st_strs (A := A) h0 hf hA)
  exact ⟨fun i => (d i).1, fun i => (d i).2, st_nest h0, st_ao h0, (h0 _ (tb_7 (j := 216) (w := (Jvm.Cond.arrayOver (Jvm.ClassFile.FieldType.array Jvm.ClassFile.FieldType.long))) rfl)), st_stat h0 hf hA, fun i q hq => hd i q hq,
    va_Zqof (h0 _ (tb_3 (j := 121) (w := (Jvm.Cond.laysStatic "jdk/internal/util/Preconditions" "SIOOBE_FORMATTER" "Ljava/util/function/BiFunction;")) rfl)) (h0 _ (tb_1 (j := 13) (w := (Jvm.Cond.initialized "jdk/internal/util/Preconditions")) rfl)) (hf (Cond.isRef (.static "jdk/internal/util/Preconditions" "SIOOBE_FORMATTER" "Ljava/util/function/BiFunction;")) (by decide +kernel)) hA⟩
