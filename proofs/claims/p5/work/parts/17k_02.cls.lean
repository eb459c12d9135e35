theorem d_12_2_109 : decode prog_12_method_2_code 109 = .ok (.goto 4, 3) := D_167 W_prog_12_method_2_code_96 13 rfl rfl rfl
theorem d_12_2_80 : decode prog_12_method_2_code 80 = .ok (.aload_n 0, 1) := D_42 W_prog_12_method_2_code_64 16 rfl rfl
theorem d_12_2_81 : decode prog_12_method_2_code 81 = .ok (.aload_n 1, 1) := D_43 W_prog_12_method_2_code_64 17 rfl rfl
theorem d_12_2_82 : decode prog_12_method_2_code 82 = .ok (.iload_n 3, 1) := D_29 W_prog_12_method_2_code_64 18 rfl rfl
theorem d_12_2_83 : decode prog_12_method_2_code 83 = .ok (.iload_n 2, 1) := D_28 W_prog_12_method_2_code_64 19 rfl rfl
theorem d_12_2_84 : decode prog_12_method_2_code 84 = .ok (.iload 6, 2) := D_21 W_prog_12_method_2_code_64 20 rfl rfl
theorem d_12_2_86 : decode prog_12_method_2_code 86 = .ok (.invokevirtual 43, 3) := D_182 W_prog_12_method_2_code_64 22 rfl rfl rfl
theorem d_12_2_89 : decode prog_12_method_2_code 89 = .ok (.goto 34, 3) := D_167 W_prog_12_method_2_code_64 25 rfl rfl rfl
theorem d_12_2_123 : decode prog_12_method_2_code 123 = .ok (.iload 6, 2) := D_21 W_prog_12_method_2_code_96 27 rfl rfl
theorem d_12_2_125 : decode prog_12_method_2_code 125 = .ok (.istore_n 2, 1) := D_61 W_prog_12_method_2_code_96 29 rfl rfl
theorem d_12_2_126 : decode prog_12_method_2_code 126 = .ok (.iinc 3 1, 3) := D_132 W_prog_12_method_2_code_96 30 rfl rfl rfl
theorem d_12_2_113 : decode prog_12_method_2_code 113 = .ok (.iastore, 1) := D_79 W_prog_12_method_2_code_96 17 rfl rfl
theorem d_12_2_114 : decode prog_12_method_2_code 114 = .ok (.aload_n 0, 1) := D_42 W_prog_12_method_2_code_96 18 rfl rfl
theorem d_12_2_115 : decode prog_12_method_2_code 115 = .ok (.getfield 18, 3) := D_180 W_prog_12_method_2_code_96 19 rfl rfl rfl
theorem d_12_2_118 : decode prog_12_method_2_code 118 = .ok (.iload_n 3, 1) := D_29 W_prog_12_method_2_code_96 22 rfl rfl
theorem d_12_2_119 : decode prog_12_method_2_code 119 = .ok (.iload 5, 2) := D_21 W_prog_12_method_2_code_96 23 rfl rfl
theorem d_12_2_121 : decode prog_12_method_2_code 121 = .ok (.i2l, 1) := D_133 W_prog_12_method_2_code_96 25 rfl rfl
theorem d_12_2_122 : decode prog_12_method_2_code 122 = .ok (.lastore, 1) := D_80 W_prog_12_method_2_code_96 26 rfl rfl
theorem d_12_2_135 : decode prog_12_method_2_code 135 = .ok (.aload_n 0, 1) := D_42 W_prog_12_method_2_code_128 7 rfl rfl
theorem d_12_2_136 : decode prog_12_method_2_code 136 = .ok (.getfield 9, 3) := D_180 W_prog_12_method_2_code_128 8 rfl rfl rfl
theorem d_12_2_139 : decode prog_12_method_2_code 139 = .ok (.iload_n 3, 1) := D_29 W_prog_12_method_2_code_128 11 rfl rfl
theorem d_12_2_140 : decode prog_12_method_2_code 140 = .ok (.iconst 0, 1) := D_3 W_prog_12_method_2_code_128 12 rfl rfl
theorem d_12_2_141 : decode prog_12_method_2_code 141 = .ok (.iastore, 1) := D_79 W_prog_12_method_2_code_128 13 rfl rfl
theorem d_12_2_142 : decode prog_12_method_2_code 142 = .ok (.aload_n 0, 1) := D_42 W_prog_12_method_2_code_128 14 rfl rfl
theorem d_12_2_143 : decode prog_12_method_2_code 143 = .ok (.getfield 15, 3) := D_180 W_prog_12_method_2_code_128 15 rfl rfl rfl
theorem d_12_2_146 : decode prog_12_method_2_code 146 = .ok (.iload_n 3, 1) := D_29 W_prog_12_method_2_code_128 18 rfl rfl
theorem d_12_2_147 : decode prog_12_method_2_code 147 = .ok (.aload_n 1, 1) := D_43 W_prog_12_method_2_code_128 19 rfl rfl
theorem d_12_2_148 : decode prog_12_method_2_code 148 = .ok (.getfield 22, 3) := D_180 W_prog_12_method_2_code_128 20 rfl rfl rfl
theorem d_12_2_151 : decode prog_12_method_2_code 151 = .ok (.iastore, 1) := D_79 W_prog_12_method_2_code_128 23 rfl rfl
theorem d_12_2_152 : decode prog_12_method_2_code 152 = .ok (.aload_n 0, 1) := D_42 W_prog_12_method_2_code_128 24 rfl rfl
theorem d_12_2_153 : decode prog_12_method_2_code 153 = .ok (.getfield 18, 3) := D_180 W_prog_12_method_2_code_128 25 rfl rfl rfl
theorem d_12_2_156 : decode prog_12_method_2_code 156 = .ok (.iload_n 3, 1) := D_29 W_prog_12_method_2_code_128 28 rfl rfl
theorem d_12_2_157 : decode prog_12_method_2_code 157 = .ok (.lconst 0, 1) := D_9 W_prog_12_method_2_code_128 29 rfl rfl
theorem d_12_2_158 : decode prog_12_method_2_code 158 = .ok (.lastore, 1) := D_80 W_prog_12_method_2_code_128 30 rfl rfl
theorem d_12_2_159 : decode prog_12_method_2_code 159 = .ok (.aload_n 0, 1) := D_42 W_prog_12_method_2_code_128 31 rfl rfl
theorem W_prog_12_method_2_code_160 : chW prog_12_method_2_code 160 [3, 181, 0, 54, 42, 182, 0, 57, 177] := chW_of (by decide +kernel)
theorem d_12_2_160 : decode prog_12_method_2_code 160 = .ok (.iconst 0, 1) := D_3 W_prog_12_method_2_code_160 0 rfl rfl
theorem d_12_2_161 : decode prog_12_method_2_code 161 = .ok (.putfield 54, 3) := D_181 W_prog_12_method_2_code_160 1 rfl rfl rfl
theorem d_12_2_164 : decode prog_12_method_2_code 164 = .ok (.aload_n 0, 1) := D_42 W_prog_12_method_2_code_160 4 rfl rfl
theorem d_12_2_165 : decode prog_12_method_2_code 165 = .ok (.invokevirtual 57, 3) := D_182 W_prog_12_method_2_code_160 5 rfl rfl rfl
theorem d_12_2_168 : decode prog_12_method_2_code 168 = .ok (.return_, 1) := D_177 W_prog_12_method_2_code_160 8 rfl rfl
theorem d_5_23_110 : decode prog_5_method_23_code 110 = .ok (.iconst 1, 1) := D_4 W_prog_5_method_23_code_96 14 rfl rfl
theorem d_5_23_111 : decode prog_5_method_23_code 111 = .ok (.ireturn, 1) := D_172 W_prog_5_method_23_code_96 15 rfl rfl
theorem d_6_9_51 : decode prog_6_method_9_code 51 = .ok (.iinc 2 1, 3) := D_132 W_prog_6_method_9_code_32 19 rfl rfl rfl
theorem d_6_9_54 : decode prog_6_method_9_code 54 = .ok (.goto (-42), 3) := D_167 W_prog_6_method_9_code_32 22 rfl rfl rfl
theorem d_6_9_57 : decode prog_6_method_9_code 57 = .ok (.aload_n 1, 1) := D_43 W_prog_6_method_9_code_32 25 rfl rfl
theorem d_6_9_58 : decode prog_6_method_9_code 58 = .ok (.invokevirtual 55, 3) := D_182 W_prog_6_method_9_code_32 26 rfl rfl rfl
theorem d_6_9_61 : decode prog_6_method_9_code 61 = .ok (.lstore_n 2, 1) := D_65 W_prog_6_method_9_code_32 29 rfl rfl
theorem d_6_9_62 : decode prog_6_method_9_code 62 = .ok (.lload_n 2, 1) := D_32 W_prog_6_method_9_code_32 30 rfl rfl
theorem d_6_9_63 : decode prog_6_method_9_code 63 = .ok (.lconst 0, 1) := D_9 W_prog_6_method_9_code_32 31 rfl rfl
theorem W_prog_6_method_9_code_64 : chW prog_6_method_9_code 64 [148, 158, 0, 12, 42, 180, 0, 38, 32, 113, 167, 0, 4, 9, 55, 4, 22, 4, 9, 148, 153, 0, 17, 42, 43, 2, 42, 180, 0, 38, 32, 22, 4, 101, 182, 0] := chW_of (by decide +kernel)
theorem d_6_9_64 : decode prog_6_method_9_code 64 = .ok (.lcmp, 1) := D_148 W_prog_6_method_9_code_64 0 rfl rfl
theorem d_6_9_65 : decode prog_6_method_9_code 65 = .ok (.ifCond .le 12, 3) := D_158 W_prog_6_method_9_code_64 1 rfl rfl rfl
theorem d_6_9_77 : decode prog_6_method_9_code 77 = .ok (.lconst 0, 1) := D_9 W_prog_6_method_9_code_64 13 rfl rfl
theorem d_6_9_68 : decode prog_6_method_9_code 68 = .ok (.aload_n 0, 1) := D_42 W_prog_6_method_9_code_64 4 rfl rfl
theorem d_6_9_69 : decode prog_6_method_9_code 69 = .ok (.getfield 38, 3) := D_180 W_prog_6_method_9_code_64 5 rfl rfl rfl
theorem d_6_9_72 : decode prog_6_method_9_code 72 = .ok (.lload_n 2, 1) := D_32 W_prog_6_method_9_code_64 8 rfl rfl
theorem d_6_9_73 : decode prog_6_method_9_code 73 = .ok (.lrem, 1) := D_113 W_prog_6_method_9_code_64 9 rfl rfl
theorem d_6_9_74 : decode prog_6_method_9_code 74 = .ok (.goto 4, 3) := D_167 W_prog_6_method_9_code_64 10 rfl rfl rfl
theorem d_6_9_78 : decode prog_6_method_9_code 78 = .ok (.lstore 4, 2) := D_55 W_prog_6_method_9_code_64 14 rfl rfl
theorem d_6_9_80 : decode prog_6_method_9_code 80 = .ok (.lload 4, 2) := D_22 W_prog_6_method_9_code_64 16 rfl rfl
theorem d_6_9_82 : decode prog_6_method_9_code 82 = .ok (.lconst 0, 1) := D_9 W_prog_6_method_9_code_64 18 rfl rfl
theorem d_6_9_83 : decode prog_6_method_9_code 83 = .ok (.lcmp, 1) := D_148 W_prog_6_method_9_code_64 19 rfl rfl
theorem d_6_9_84 : decode prog_6_method_9_code 84 = .ok (.ifCond .eq 17, 3) := D_153 W_prog_6_method_9_code_64 20 rfl rfl rfl
theorem d_6_9_87 : decode prog_6_method_9_code 87 = .ok (.aload_n 0, 1) := D_42 W_prog_6_method_9_code_64 23 rfl rfl
theorem d_6_9_88 : decode prog_6_method_9_code 88 = .ok (.aload_n 1, 1) := D_43 W_prog_6_method_9_code_64 24 rfl rfl
theorem d_6_9_89 : decode prog_6_method_9_code 89 = .ok (.iconst (-1), 1) := D_2 W_prog_6_method_9_code_64 25 rfl rfl
theorem d_6_9_90 : decode prog_6_method_9_code 90 = .ok (.aload_n 0, 1) := D_42 W_prog_6_method_9_code_64 26 rfl rfl
theorem d_6_9_91 : decode prog_6_method_9_code 91 = .ok (.getfield 38, 3) := D_180 W_prog_6_method_9_code_64 27 rfl rfl rfl
theorem d_6_9_94 : decode prog_6_method_9_code 94 = .ok (.lload_n 2, 1) := D_32 W_prog_6_method_9_code_64 30 rfl rfl
theorem d_6_9_95 : decode prog_6_method_9_code 95 = .ok (.lload 4, 2) := D_22 W_prog_6_method_9_code_64 31 rfl rfl
theorem W_prog_6_method_9_code_96 : chW prog_6_method_9_code 96 [4, 101, 182, 0, 109, 42, 180, 0, 81, 154, 0, 31, 42, 182, 0, 113, 42, 43, 180, 0, 116, 182, 0, 119, 42, 182, 0, 123, 42, 43, 182, 0, 126, 182, 0, 129] := chW_of (by decide +kernel)
theorem d_6_9_97 : decode prog_6_method_9_code 97 = .ok (.lsub, 1) := D_101 W_prog_6_method_9_code_96 1 rfl rfl
theorem d_6_9_98 : decode prog_6_method_9_code 98 = .ok (.invokevirtual 109, 3) := D_182 W_prog_6_method_9_code_96 2 rfl rfl rfl
theorem d_6_9_101 : decode prog_6_method_9_code 101 = .ok (.aload_n 0, 1) := D_42 W_prog_6_method_9_code_96 5 rfl rfl
theorem d_6_9_102 : decode prog_6_method_9_code 102 = .ok (.getfield 81, 3) := D_180 W_prog_6_method_9_code_96 6 rfl rfl rfl
theorem d_6_9_105 : decode prog_6_method_9_code 105 = .ok (.ifCond .ne 31, 3) := D_154 W_prog_6_method_9_code_96 9 rfl rfl rfl
theorem d_6_9_108 : decode prog_6_method_9_code 108 = .ok (.aload_n 0, 1) := D_42 W_prog_6_method_9_code_96 12 rfl rfl
theorem d_6_9_109 : decode prog_6_method_9_code 109 = .ok (.invokevirtual 113, 3) := D_182 W_prog_6_method_9_code_96 13 rfl rfl rfl
theorem d_6_9_112 : decode prog_6_method_9_code 112 = .ok (.aload_n 0, 1) := D_42 W_prog_6_method_9_code_96 16 rfl rfl
theorem d_6_9_113 : decode prog_6_method_9_code 113 = .ok (.aload_n 1, 1) := D_43 W_prog_6_method_9_code_96 17 rfl rfl
theorem d_6_9_114 : decode prog_6_method_9_code 114 = .ok (.getfield 116, 3) := D_180 W_prog_6_method_9_code_96 18 rfl rfl rfl
theorem d_6_9_117 : decode prog_6_method_9_code 117 = .ok (.invokevirtual 119, 3) := D_182 W_prog_6_method_9_code_96 21 rfl rfl rfl
theorem d_6_9_120 : decode prog_6_method_9_code 120 = .ok (.aload_n 0, 1) := D_42 W_prog_6_method_9_code_96 24 rfl rfl
theorem d_6_9_121 : decode prog_6_method_9_code 121 = .ok (.invokevirtual 123, 3) := D_182 W_prog_6_method_9_code_96 25 rfl rfl rfl
theorem d_6_9_124 : decode prog_6_method_9_code 124 = .ok (.aload_n 0, 1) := D_42 W_prog_6_method_9_code_96 28 rfl rfl
theorem d_6_9_125 : decode prog_6_method_9_code 125 = .ok (.aload_n 1, 1) := D_43 W_prog_6_method_9_code_96 29 rfl rfl
theorem d_6_9_126 : decode prog_6_method_9_code 126 = .ok (.invokevirtual 126, 3) := D_182 W_prog_6_method_9_code_96 30 rfl rfl rfl
theorem W_prog_6_method_9_code_128 : chW prog_6_method_9_code 128 [126, 182, 0, 129, 42, 182, 0, 133, 177] := chW_of (by decide +kernel)
theorem d_6_9_129 : decode prog_6_method_9_code 129 = .ok (.invokevirtual 129, 3) := D_182 W_prog_6_method_9_code_128 1 rfl rfl rfl
theorem d_6_9_132 : decode prog_6_method_9_code 132 = .ok (.aload_n 0, 1) := D_42 W_prog_6_method_9_code_128 4 rfl rfl
theorem d_6_9_133 : decode prog_6_method_9_code 133 = .ok (.invokevirtual 133, 3) := D_182 W_prog_6_method_9_code_128 5 rfl rfl rfl
theorem d_6_9_136 : decode prog_6_method_9_code 136 = .ok (.return_, 1) := D_177 W_prog_6_method_9_code_128 8 rfl rfl
noncomputable abbrev Q_SoundFile_loadEvent (K : zK) (D : va_G) (ca : Nat → ClassId) (ad : Nat → Int → Nat → Nat) (L : List Nat) (r : Int) (F : zF) (B : zB) (A : Nat → Prop) : Array Value → State → Outcome → State → Prop := va_Qv (S := Unit) (fun _ => True) (fun _ => zPo D ca ad lnC K.2 L F B A) A
noncomputable def f_SoundFile_loadEvent_141 (K : zK)  (F : zF) (B : zB) : zO := some (0, F, B)
set_option maxHeartbeats 4000000 in
set_option maxRecDepth 100000 in
theorem b_SoundFile_loadEvent_141 {D : va_G} {ca : Nat → ClassId} {ad : Nat → Int → Nat → Nat} {L : List Nat} {aS vS : Nat → Nat} {A : Nat → Prop} {p : Program} {l : Launch} {e : Env} {s : State} {m : MethodId} {args : Array Value} {below : List Frame} {meth : Method} {c : Code} {K : zK} {r : Int} {F9 : zF} {B9 : zB} (X : zX D ca L aS vS A p s m args meth c prog_10_method_14_code 5 (Option.none : Option Jvm.ClassFile.FieldType) "StaveHouse$SoundFile")  {F : zF} {B : zB} {H : Heap} {locs : List Loc} {ls : Array Slot} (hf : f_SoundFile_loadEvent_141 K  F B = some (r, F9, B9)) (hZ : zH D ca ad lnC K.2 L F B A H) (hS : va_S A s.heap H locs) (hl : lv_has ls 5 []) : W p l e ({ frames := 4, cells := 0, slots := 0, locals := 90 } : Room) s m args below meth c H locs 0 0 (MQ below (Q_SoundFile_loadEvent K D ca ad L r F9 B9 A) args s 0 0 A) (F0 m 141 ls []) := by
  obtain ⟨hx, hb, hr, hml, hown, hts, hlk, hK, hA, hL, hX⟩ := id X
  replace hf : (some (0, F, B)) = some (r, F9, B9) := hf
  cases hf
  exact W.vret hx hb hr (fun t ht hW => ⟨⟨(), rfl, trivial, by rw [ht]; exact hZ, va_K.moved hW.alike hK⟩, hS.F ht⟩) hS.2.2 d_10_14_141 hlk

noncomputable def f_SoundFile_loadEvent_133 (K : zK) (l4 : Int) (l2 : Int) (l0 : Int) (l1 : Int) (F : zF) (B : zB) : zO := if 0 ≤ l0 ∧ l0 < K.2 8 then zbind (f_SoundFile_loadMessage K l0 l4 l2 l1 F B) (fun r31 F31 B31 => f_SoundFile_loadEvent_141 K F31 B31) else none
set_option maxHeartbeats 4000000 in
set_option maxRecDepth 100000 in
theorem b_SoundFile_loadEvent_133 {D : va_G} {ca : Nat → ClassId} {ad : Nat → Int → Nat → Nat} {L : List Nat} {aS vS : Nat → Nat} {A : Nat → Prop} {p : Program} {l : Launch} {e : Env} {s : State} {m : MethodId} {args : Array Value} {below : List Frame} {meth : Method} {c : Code} {K : zK} {r : Int} {F9 : zF} {B9 : zB} (X : zX D ca L aS vS A p s m args meth c prog_10_method_14_code 5 (Option.none : Option Jvm.ClassFile.FieldType) "StaveHouse$SoundFile") {l4 : Int} {l2 : Int} {l0 : Int} {l1 : Int} {F : zF} {B : zB} {H : Heap} {locs : List Loc} {ls : Array Slot} (hf : f_SoundFile_loadEvent_133 K l4 l2 l0 l1 F B = some (r, F9, B9)) (hZ : zH D ca ad lnC K.2 L F B A H) (hS : va_S A s.heap H locs) (hl : lv_has ls 5 [(4, .int (iI l4)), (2, .int (iI l2)), (0, .ref (ad 8 l0 0)), (1, .int (iI l1))]) : W p l e ({ frames := 4, cells := 0, slots := 0, locals := 90 } : Room) s m args below meth c H locs 0 0 (MQ below (Q_SoundFile_loadEvent K D ca ad L r F9 B9 A) args s 0 0 A) (F0 m 133 ls []) := by
  obtain ⟨hx, hb, hr, hml, hown, hts, hlk, hK, hA, hL, hX⟩ := id X
  replace hf : (if 0 ≤ l0 ∧ l0 < K.2 8 then zbind (f_SoundFile_loadMessage K l0 l4 l2 l1 F B) (fun r31 F31 B31 => f_SoundFile_loadEvent_141 K F31 B31) else none) = some (r, F9, B9) := hf
  refine lv_aload_n hx hb d_10_14_133 rfl (lv_at hl 2 rfl) ?_
  refine lv_iload hx hb d_10_14_134 (lv_at hl 0 rfl) ?_
  refine lv_iload_n hx hb d_10_14_136 rfl (lv_at hl 1 rfl) ?_
  refine lv_iload_n hx hb d_10_14_137 rfl (lv_at hl 3 rfl) ?_
  obtain ⟨g30, hf⟩ := gif hf
  obtain ⟨r31, F31, B31, hc31, hf⟩ := gbind hf
  refine va_callv (va_runV (As := [.int (iI l4), .int (iI l2), .int (iI l1)]) (rest := []) ⟨hx, hb, hml, hown, hts⟩ (c_SoundFile_loadMessage (l := l) hc31) (cwV 3 hts (gdV k_8_113 k_8_115 ks_108 k_1_23 k_8_116) rfl rfl rfl (by decide +kernel) ⟨Nat.le_of_ble_eq_true rfl, Nat.le_of_ble_eq_true rfl⟩) (zPV X hZ hS (ci := 8) g30.1 g30.2 (r := (RX8, TX8, 15)) rfl [.int (iI l4), .int (iI l2), .int (iI l1)]) rfl rfl hl.1 rfl (lv_room (Nat.le_of_ble_eq_true rfl)) d_10_14_138 ⟨Nat.le_of_ble_eq_true rfl, Nat.le_of_ble_eq_true rfl⟩) hS (fun q _ h => zAin X hS q h) (zAin X hS) (fun u31 t31 H31 locs31 ht31 hv31 hw31 hB31 hz31 hk31 hS31 => ?_)
  have hZ31 := zBack X ht31 hB31
  exact b_SoundFile_loadEvent_141 X hf hZ31 hS31 (lv_sub hl [] rfl)

noncomputable def f_SoundFile_loadEvent_112 (K : zK) (l3 : Int) (l2 : Int) (l0 : Int) (l1 : Int) (F : zF) (B : zB) : zO := if r32 l3 then (if l3 < 128 then f_SoundFile_loadEvent_133 K l3 l2 l0 l1 F B else if 0 ≤ l0 ∧ l0 < K.2 8 then zbind (f_SoundFile_takeData K l0 (zup3 F 8 l0 9 l3) B) (fun r29 F29 B29 => f_SoundFile_loadEvent_133 K r29 l2 l0 l1 F29 B29) else none) else none
set_option maxHeartbeats 4000000 in
set_option maxRecDepth 100000 in
theorem b_SoundFile_loadEvent_112 {D : va_G} {ca : Nat → ClassId} {ad : Nat → Int → Nat → Nat} {L : List Nat} {aS vS : Nat → Nat} {A : Nat → Prop} {p : Program} {l : Launch} {e : Env} {s : State} {m : MethodId} {args : Array Value} {below : List Frame} {meth : Method} {c : Code} {K : zK} {r : Int} {F9 : zF} {B9 : zB} (X : zX D ca L aS vS A p s m args meth c prog_10_method_14_code 5 (Option.none : Option Jvm.ClassFile.FieldType) "StaveHouse$SoundFile") {l3 : Int} {l2 : Int} {l0 : Int} {l1 : Int} {F : zF} {B : zB} {H : Heap} {locs : List Loc} {ls : Array Slot} (hf : f_SoundFile_loadEvent_112 K l3 l2 l0 l1 F B = some (r, F9, B9)) (hZ : zH D ca ad lnC K.2 L F B A H) (hS : va_S A s.heap H locs) (hl : lv_has ls 5 [(3, .int (iI l3)), (2, .int (iI l2)), (0, .ref (ad 8 l0 0)), (1, .int (iI l1))]) : W p l e ({ frames := 4, cells := 0, slots := 0, locals := 90 } : Room) s m args below meth c H locs 0 0 (MQ below (Q_SoundFile_loadEvent K D ca ad L r F9 B9 A) args s 0 0 A) (F0 m 112 ls []) := by
  obtain ⟨hx, hb, hr, hml, hown, hts, hlk, hK, hA, hL, hX⟩ := id X
  replace hf : (if r32 l3 then (if l3 < 128 then f_SoundFile_loadEvent_133 K l3 l2 l0 l1 F B else if 0 ≤ l0 ∧ l0 < K.2 8 then zbind (f_SoundFile_takeData K l0 (zup3 F 8 l0 9 l3) B) (fun r29 F29 B29 => f_SoundFile_loadEvent_133 K r29 l2 l0 l1 F29 B29) else none) else none) = some (r, F9, B9) := hf
  refine lv_iload_n hx hb d_10_14_112 rfl (lv_at hl 0 rfl) ?_
  refine lv_istore (lv' := [(4, .int (iI l3)), (3, .int (iI l3)), (2, .int (iI l2)), (0, .ref (ad 8 l0 0)), (1, .int (iI l1))]) hx hb d_10_14_113 hl (by decide) rfl (fun ls hl => ?_)
  refine lv_iload_n hx hb d_10_14_115 rfl (lv_at hl 1 rfl) ?_
  refine lv_sipush (v := iI 128) hx hb d_10_14_116 (by decide) ?_
  obtain ⟨g25, hf⟩ := gif hf
  refine zlt (tgt := 133) hx hb g25 (by decide) d_10_14_119 (by decide) (fun h26 => ?_) (fun h26 => ?_)
  · replace hf := gpos hf h26
    exact b_SoundFile_loadEvent_133 X hf hZ hS (lv_sub hl [0, 2, 3, 4] rfl)
  · replace hf := gneg hf h26
    refine lv_aload_n hx hb d_10_14_122 rfl (lv_at hl 3 rfl) ?_
    refine lv_iload_n hx hb d_10_14_123 rfl (lv_at hl 1 rfl) ?_
    obtain ⟨g27, hf⟩ := gif hf
    refine zput (ci := 8) (C := RX8) (T := TX8) (k := 9) (v := l3) (w := .int (iI l3)) hx hb hts inW_8 tyX8 tyX8_ok nmX8 hown hK hZ hS g27.1 g27.2 rfl (by decide) k_7_233 rfl (fun G h => congrArg (fun q => Value.int (iI q)) h) rfl rfl (zno (by decide)) d_10_14_124 (fun H28 locs28 hZ28 hS28 => ?_)
    refine lv_aload_n hx hb d_10_14_127 rfl (lv_at hl 3 rfl) ?_
    obtain ⟨r29, F29, B29, hc29, hf⟩ := gbind hf
    refine va_calli (va_runV (As := []) (rest := []) ⟨hx, hb, hml, hown, hts⟩ (c_SoundFile_takeData (l := l) hc29) (cwV 0 hts (gdV k_8_92 k_8_94 ks_104 k_1_23 k_8_95) rfl rfl rfl (by decide +kernel) ⟨Nat.le_of_ble_eq_true rfl, Nat.le_of_ble_eq_true rfl⟩) (zPV X hZ28 hS28 (ci := 8) g27.1 g27.2 (r := (RX8, TX8, 15)) rfl []) rfl rfl hl.1 rfl (lv_room (Nat.le_of_ble_eq_true rfl)) d_10_14_128 ⟨Nat.le_of_ble_eq_true rfl, Nat.le_of_ble_eq_true rfl⟩) hS28 (fun q _ h => zAin X hS28 q h) (zAin X hS28) (fun p29 u29 t29 H29 locs29 ht29 hv29 hw29 hB29 hz29 hk29 hS29 => ?_)
    have hZ29 := zBack X ht29 hB29
    subst hw29
    refine lv_istore (lv' := [(4, .int (iI r29)), (3, .int (iI l3)), (2, .int (iI l2)), (0, .ref (ad 8 l0 0)), (1, .int (iI l1))]) hx hb d_10_14_131 hl (by decide) rfl (fun ls hl => ?_)
    exact b_SoundFile_loadEvent_133 X hf hZ29 hS29 (lv_sub hl [0, 2, 3, 4] rfl)

noncomputable def f_SoundFile_loadEvent_103 (K : zK) (l2 : Int) (l0 : Int) (F : zF) (B : zB) : zO := if 0 ≤ l0 ∧ l0 < K.2 8 then zbind (f_SoundFile_refuse K l0 1 l2 F B) (fun r24 F24 B24 => f_SoundFile_loadEvent_141 K F24 B24) else none
set_option maxHeartbeats 4000000 in
set_option maxRecDepth 100000 in
theorem b_SoundFile_loadEvent_103 {D : va_G} {ca : Nat → ClassId} {ad : Nat → Int → Nat → Nat} {L : List Nat} {aS vS : Nat → Nat} {A : Nat → Prop} {p : Program} {l : Launch} {e : Env} {s : State} {m : MethodId} {args : Array Value} {below : List Frame} {meth : Method} {c : Code} {K : zK} {r : Int} {F9 : zF} {B9 : zB} (X : zX D ca L aS vS A p s m args meth c prog_10_method_14_code 5 (Option.none : Option Jvm.ClassFile.FieldType) "StaveHouse$SoundFile") {l2 : Int} {l0 : Int} {F : zF} {B : zB} {H : Heap} {locs : List Loc} {ls : Array Slot} (hf : f_SoundFile_loadEvent_103 K l2 l0 F B = some (r, F9, B9)) (hZ : zH D ca ad lnC K.2 L F B A H) (hS : va_S A s.heap H locs) (hl : lv_has ls 5 [(2, .int (iI l2)), (0, .ref (ad 8 l0 0))]) : W p l e ({ frames := 4, cells := 0, slots := 0, locals := 90 } : Room) s m args below meth c H locs 0 0 (MQ below (Q_SoundFile_loadEvent K D ca ad L r F9 B9 A) args s 0 0 A) (F0 m 103 ls []) := by
  obtain ⟨hx, hb, hr, hml, hown, hts, hlk, hK, hA, hL, hX⟩ := id X
  replace hf : (if 0 ≤ l0 ∧ l0 < K.2 8 then zbind (f_SoundFile_refuse K l0 1 l2 F B) (fun r24 F24 B24 => f_SoundFile_loadEvent_141 K F24 B24) else none) = some (r, F9, B9) := hf
  refine lv_aload_n hx hb d_10_14_103 rfl (lv_at hl 1 rfl) ?_
  refine lv_iconst (v := iI 1) hx hb d_10_14_104 rfl ?_
  refine lv_iload_n hx hb d_10_14_105 rfl (lv_at hl 0 rfl) ?_
  obtain ⟨g23, hf⟩ := gif hf
  obtain ⟨r24, F24, B24, hc24, hf⟩ := gbind hf
  refine va_callv (va_runV (As := [.int (iI 1), .int (iI l2)]) (rest := []) ⟨hx, hb, hml, hown, hts⟩ (c_SoundFile_refuse (l := l) hc24) (cwV 2 hts (gdV k_8_53 k_8_55 ks_96 k_1_23 k_8_56) rfl rfl rfl (by decide +kernel) ⟨Nat.le_of_ble_eq_true rfl, Nat.le_of_ble_eq_true rfl⟩) (zPV X hZ hS (ci := 8) g23.1 g23.2 (r := (RX8, TX8, 15)) rfl [.int (iI 1), .int (iI l2)]) rfl rfl hl.1 rfl (lv_room (Nat.le_of_ble_eq_true rfl)) d_10_14_106 ⟨Nat.le_of_ble_eq_true rfl, Nat.le_of_ble_eq_true rfl⟩) hS (fun q _ h => zAin X hS q h) (zAin X hS) (fun u24 t24 H24 locs24 ht24 hv24 hw24 hB24 hz24 hk24 hS24 => ?_)
  have hZ24 := zBack X ht24 hB24
  refine lv_goto (tgt := 141) hx hb d_10_14_109 (by decide) ?_
  exact b_SoundFile_loadEvent_141 X hf hZ24 hS24 (lv_sub hl [] rfl)

noncomputable def f_SoundFile_loadEvent_65 (K : zK) (l0 : Int) (F : zF) (B : zB) : zO := if 0 ≤ l0 ∧ l0 < K.2 8 then zbind (f_SoundFile_takeDelta K l0 (zup3 F 8 l0 9 0) B) (fun r20 F20 B20 => if r32 r20 then zbind (f_SoundFile_skip K l0 r20 F20 B20) (fun r22 F22 B22 => f_SoundFile_loadEvent_141 K F22 B22) else none) else none
set_option maxHeartbeats 4000000 in
set_option maxRecDepth 100000 in
theorem b_SoundFile_loadEvent_65 {D : va_G} {ca : Nat → ClassId} {ad : Nat → Int → Nat → Nat} {L : List Nat} {aS vS : Nat → Nat} {A : Nat → Prop} {p : Program} {l : Launch} {e : Env} {s : State} {m : MethodId} {args : Array Value} {below : List Frame} {meth : Method} {c : Code} {K : zK} {r : Int} {F9 : zF} {B9 : zB} (X : zX D ca L aS vS A p s m args meth c prog_10_method_14_code 5 (Option.none : Option Jvm.ClassFile.FieldType) "StaveHouse$SoundFile") {l0 : Int} {F : zF} {B : zB} {H : Heap} {locs : List Loc} {ls : Array Slot} (hf : f_SoundFile_loadEvent_65 K l0 F B = some (r, F9, B9)) (hZ : zH D ca ad lnC K.2 L F B A H) (hS : va_S A s.heap H locs) (hl : lv_has ls 5 [(0, .ref (ad 8 l0 0))]) : W p l e ({ frames := 4, cells := 0, slots := 0, locals := 90 } : Room) s m args below meth c H locs 0 0 (MQ below (Q_SoundFile_loadEvent K D ca ad L r F9 B9 A) args s 0 0 A) (F0 m 65 ls []) := by
  obtain ⟨hx, hb, hr, hml, hown, hts, hlk, hK, hA, hL, hX⟩ := id X
  replace hf : (if 0 ≤ l0 ∧ l0 < K.2 8 then zbind (f_SoundFile_takeDelta K l0 (zup3 F 8 l0 9 0) B) (fun r20 F20 B20 => if r32 r20 then zbind (f_SoundFile_skip K l0 r20 F20 B20) (fun r22 F22 B22 => f_SoundFile_loadEvent_141 K F22 B22) else none) else none) = some (r, F9, B9) := hf
  refine lv_aload_n hx hb d_10_14_65 rfl (lv_at hl 0 rfl) ?_
  refine lv_iconst (v := iI 0) hx hb d_10_14_66 rfl ?_
  obtain ⟨g18, hf⟩ := gif hf
  refine zput (ci := 8) (C := RX8) (T := TX8) (k := 9) (v := 0) (w := .int (iI 0)) hx hb hts inW_8 tyX8 tyX8_ok nmX8 hown hK hZ hS g18.1 g18.2 rfl (by decide) k_7_233 rfl (fun G h => congrArg (fun q => Value.int (iI q)) h) rfl rfl (zno (by decide)) d_10_14_67 (fun H19 locs19 hZ19 hS19 => ?_)
  refine lv_aload_n hx hb d_10_14_70 rfl (lv_at hl 0 rfl) ?_
  refine lv_aload_n hx hb d_10_14_71 rfl (lv_at hl 0 rfl) ?_
  obtain ⟨r20, F20, B20, hc20, hf⟩ := gbind hf
  refine va_calli (va_runV (As := []) (rest := [.ref (ad 8 l0 0)]) ⟨hx, hb, hml, hown, hts⟩ (c_SoundFile_takeDelta (l := l) hc20) (cwV 0 hts (gdV k_8_84 k_8_86 ks_102 k_1_23 k_8_87) rfl rfl rfl (by decide +kernel) ⟨Nat.le_of_ble_eq_true rfl, Nat.le_of_ble_eq_true rfl⟩) (zPV X hZ19 hS19 (ci := 8) g18.1 g18.2 (r := (RX8, TX8, 15)) rfl []) rfl rfl hl.1 rfl (lv_room (Nat.le_of_ble_eq_true rfl)) d_10_14_72 ⟨Nat.le_of_ble_eq_true rfl, Nat.le_of_ble_eq_true rfl⟩) hS19 (fun q _ h => zAin X hS19 q h) (zAin X hS19) (fun p20 u20 t20 H20 locs20 ht20 hv20 hw20 hB20 hz20 hk20 hS20 => ?_)
  have hZ20 := zBack X ht20 hB20
  subst hw20
  obtain ⟨g21, hf⟩ := gif hf
  refine zi2l hx hb g21 d_10_14_75 ?_
  obtain ⟨r22, F22, B22, hc22, hf⟩ := gbind hf
  refine va_callv (va_runV (As := [.long (lI r20)]) (rest := []) ⟨hx, hb, hml, hown, hts⟩ (c_SoundFile_skip (l := l) hc22) (cwV 1 hts (gdV k_8_70 k_8_72 ks_99 k_1_23 k_8_73) rfl rfl rfl (by decide +kernel) ⟨Nat.le_of_ble_eq_true rfl, Nat.le_of_ble_eq_true rfl⟩) (zPV X hZ20 hS20 (ci := 8) g18.1 g18.2 (r := (RX8, TX8, 15)) rfl [.long (lI r20)]) rfl rfl hl.1 rfl (lv_room (Nat.le_of_ble_eq_true rfl)) d_10_14_76 ⟨Nat.le_of_ble_eq_true rfl, Nat.le_of_ble_eq_true rfl⟩) hS20 (fun q _ h => zAin X hS20 q h) (zAin X hS20) (fun u22 t22 H22 locs22 ht22 hv22 hw22 hB22 hz22 hk22 hS22 => ?_)
  have hZ22 := zBack X ht22 hB22
  refine lv_goto (tgt := 141) hx hb d_10_14_79 (by decide) ?_
  exact b_SoundFile_loadEvent_141 X hf hZ22 hS22 (lv_sub hl [] rfl)

noncomputable def f_SoundFile_loadEvent (K : zK) (l0 : Int) (l1 : Int) (F : zF) (B : zB) : zO := if 0 ≤ l0 ∧ l0 < K.2 8 then zbind (f_SoundFile_takeDelta K l0 F B) (fun r2 F2 B2 => if r32 r2 then zbind (f_SoundFile_take K l0 (zup3 F2 8 l0 10 ((F 8 l0 10) + r2)) B2) (fun r5 F5 B5 => if r32 (F5 8 l0 7) then (if (F5 8 l0 7) = 0 then if r32 r5 then (if r5 = 255 then zbind (f_SoundFile_loadMeta K l0 (zup3 F5 8 l0 9 0) B5) (fun r17 F17 B17 => f_SoundFile_loadEvent_141 K F17 B17) else (if r5 = 240 then f_SoundFile_loadEvent_65 K l0 F5 B5 else (if r5 = 247 then f_SoundFile_loadEvent_65 K l0 F5 B5 else (if 240 ≤ r5 then f_SoundFile_loadEvent_103 K (F2 8 l0 5) l0 F5 B5 else (if 128 ≤ r5 then f_SoundFile_loadEvent_112 K r5 (F2 8 l0 5) l0 l1 F5 B5 else if r32 (F5 8 l0 9) then (if (F5 8 l0 9) = 0 then f_SoundFile_loadEvent_103 K (F2 8 l0 5) l0 F5 B5 else f_SoundFile_loadEvent_112 K r5 (F2 8 l0 5) l0 l1 F5 B5) else none))))) else none else some (0, F5, B5)) else none) else none) else none
set_option maxHeartbeats 4000000 in
set_option maxRecDepth 100000 in
theorem c_SoundFile_loadEvent {l : Launch} {D : va_G} {ca : Nat → ClassId} {ad : Nat → Int → Nat → Nat} {L : List Nat} {aS vS : Nat → Nat} {sz : Nat} {K : zK}  {l0 : Int} {l1 : Int} {F F9 : zF} {B B9 : zB} {r : Int} (hf : f_SoundFile_loadEvent K l0 l1 F B = some (r, F9, B9)) : Met l ({ cls := "StaveHouse$SoundFile", name := "loadEvent", desc := "(I)V" } : Jvm.MethodName) (Cond.code ({ cls := "StaveHouse$SoundFile", name := "loadEvent", desc := "(I)V" } : Jvm.MethodName) prog_10_method_14_code 5 (Option.none : Option Jvm.ClassFile.FieldType) :: wAll) ({ frames := 4, cells := 0, slots := 0, locals := 90 } : Room) (va_Pc [.ref (ad 8 l0 0), .int (iI l1)] (zPre D ca ad lnC K.2 L aS vS F B sz)) (Q_SoundFile_loadEvent K D ca ad L r F9 B9 (zA L sz)) 0 0 (zA L sz) := by
  refine zMet (Qc := Q_SoundFile_loadEvent K D ca ad L r F9 B9) (lv := [(0, .ref (ad 8 l0 0)), (1, .int (iI l1))]) (by decide) (Nat.le_of_ble_eq_true rfl) rfl (fun A p e s m below meth c ls X hZ hS hl => ?_)
  obtain ⟨hx, hb, hr, hml, hown, hts, hlk, hK, hA, hL, hX⟩ := id X
  replace hf : (if 0 ≤ l0 ∧ l0 < K.2 8 then zbind (f_SoundFile_takeDelta K l0 F B) (fun r2 F2 B2 => if r32 r2 then zbind (f_SoundFile_take K l0 (zup3 F2 8 l0 10 ((F 8 l0 10) + r2)) B2) (fun r5 F5 B5 => if r32 (F5 8 l0 7) then (if (F5 8 l0 7) = 0 then if r32 r5 then (if r5 = 255 then zbind (f_SoundFile_loadMeta K l0 (zup3 F5 8 l0 9 0) B5) (fun r17 F17 B17 => f_SoundFile_loadEvent_141 K F17 B17) else (if r5 = 240 then f_SoundFile_loadEvent_65 K l0 F5 B5 else (if r5 = 247 then f_SoundFile_loadEvent_65 K l0 F5 B5 else (if 240 ≤ r5 then f_SoundFile_loadEvent_103 K (F2 8 l0 5) l0 F5 B5 else (if 128 ≤ r5 then f_SoundFile_loadEvent_112 K r5 (F2 8 l0 5) l0 l1 F5 B5 else if r32 (F5 8 l0 9) then (if (F5 8 l0 9) = 0 then f_SoundFile_loadEvent_103 K (F2 8 l0 5) l0 F5 B5 else f_SoundFile_loadEvent_112 K r5 (F2 8 l0 5) l0 l1 F5 B5) else none))))) else none else some (0, F5, B5)) else none) else none) else none) = some (r, F9, B9) := hf
  refine lv_aload_n hx hb d_10_14_0 rfl (lv_at hl 0 rfl) ?_
  refine lv_dup hx hb d_10_14_1 rfl ?_
  obtain ⟨g1, hf⟩ := gif hf
  refine zget (ci := 8) (C := RX8) (T := TX8) (v := .long (lI (F 8 l0 10))) (k := 10) hx hb hts inW_8 hown hK hZ g1.1 g1.2 rfl (by decide) k_7_234 rfl d_10_14_2 ?_
  refine lv_aload_n hx hb d_10_14_5 rfl (lv_at hl 0 rfl) ?_
  obtain ⟨r2, F2, B2, hc2, hf⟩ := gbind hf
  refine va_calli (va_runV (As := []) (rest := [.long (lI (F 8 l0 10)), .ref (ad 8 l0 0)]) ⟨hx, hb, hml, hown, hts⟩ (c_SoundFile_takeDelta (l := l) hc2) (cwV 0 hts (gdV k_8_84 k_8_86 ks_102 k_1_23 k_8_87) rfl rfl rfl (by decide +kernel) ⟨Nat.le_of_ble_eq_true rfl, Nat.le_of_ble_eq_true rfl⟩) (zPV X hZ hS (ci := 8) g1.1 g1.2 (r := (RX8, TX8, 15)) rfl []) rfl rfl hl.1 rfl (lv_room (Nat.le_of_ble_eq_true rfl)) d_10_14_6 ⟨Nat.le_of_ble_eq_true rfl, Nat.le_of_ble_eq_true rfl⟩) hS (fun q _ h => zAin X hS q h) (zAin X hS) (fun p2 u2 t2 H2 locs2 ht2 hv2 hw2 hB2 hz2 hk2 hS2 => ?_)
  have hZ2 := zBack X ht2 hB2
  subst hw2
  obtain ⟨g3, hf⟩ := gif hf
  refine zi2l hx hb g3 d_10_14_9 ?_
  refine zladd hx hb d_10_14_10 ?_
  refine zput (ci := 8) (C := RX8) (T := TX8) (k := 10) (v := ((F 8 l0 10) + r2)) (w := .long (lI ((F 8 l0 10) + r2))) hx hb hts inW_8 tyX8 tyX8_ok nmX8 hown hK hZ2 hS2 g1.1 g1.2 rfl (by decide) k_7_234 rfl (fun G h => congrArg (fun q => Value.long (lI q)) h) rfl rfl (zno (by decide)) d_10_14_11 (fun H4 locs4 hZ4 hS4 => ?_)
  refine lv_aload_n hx hb d_10_14_14 rfl (lv_at hl 0 rfl) ?_
  refine zget (ci := 8) (C := RX8) (T := TX8) (v := .int (iI (F2 8 l0 5))) (k := 5) hx hb hts inW_8 hown hK hZ4 g1.1 g1.2 rfl (by decide) k_7_229 (congrArg (fun q : Int => Value.int (iI q)) (show (zup3 F2 8 l0 10 ((F 8 l0 10) + r2)) 8 l0 5 = F2 8 l0 5 by simp [zup3])) d_10_14_15 ?_
  refine lv_istore_n (lv' := [(2, .int (iI (F2 8 l0 5))), (0, .ref (ad 8 l0 0)), (1, .int (iI l1))]) hx hb d_10_14_18 rfl hl (by decide) rfl (fun ls hl => ?_)
  refine lv_aload_n hx hb d_10_14_19 rfl (lv_at hl 1 rfl) ?_
  obtain ⟨r5, F5, B5, hc5, hf⟩ := gbind hf
  refine va_calli (va_runV (As := []) (rest := []) ⟨hx, hb, hml, hown, hts⟩ (c_SoundFile_take (l := l) hc5) (cwV 0 hts (gdV k_8_49 k_8_51 ks_95 k_1_23 k_8_52) rfl rfl rfl (by decide +kernel) ⟨Nat.le_of_ble_eq_true rfl, Nat.le_of_ble_eq_true rfl⟩) (zPV X hZ4 hS4 (ci := 8) g1.1 g1.2 (r := (RX8, TX8, 15)) rfl []) rfl rfl hl.1 rfl (lv_room (Nat.le_of_ble_eq_true rfl)) d_10_14_20 ⟨Nat.le_of_ble_eq_true rfl, Nat.le_of_ble_eq_true rfl⟩) hS4 (fun q _ h => zAin X hS4 q h) (zAin X hS4) (fun p5 u5 t5 H5 locs5 ht5 hv5 hw5 hB5 hz5 hk5 hS5 => ?_)
  have hZ5 := zBack X ht5 hB5
  subst hw5
  refine lv_istore_n (lv' := [(3, .int (iI r5)), (2, .int (iI (F2 8 l0 5))), (0, .ref (ad 8 l0 0)), (1, .int (iI l1))]) hx hb d_10_14_23 rfl hl (by decide) rfl (fun ls hl => ?_)
  refine lv_aload_n hx hb d_10_14_24 rfl (lv_at hl 2 rfl) ?_
  refine zget (ci := 8) (C := RX8) (T := TX8) (v := .int (iI (F5 8 l0 7))) (k := 7) hx hb hts inW_8 hown hK hZ5 g1.1 g1.2 rfl (by decide) k_7_231 rfl d_10_14_25 ?_
  obtain ⟨g6, hf⟩ := gif hf
  refine z0eq (tgt := 32) hx hb g6 d_10_14_28 (by decide) (fun h7 => ?_) (fun h7 => ?_)
  · replace hf := gpos hf h7
    refine lv_iload_n hx hb d_10_14_32 rfl (lv_at hl 0 rfl) ?_
    refine lv_sipush (v := iI 255) hx hb d_10_14_33 (by decide) ?_
    obtain ⟨g8, hf⟩ := gif hf
    refine zne (tgt := 51) hx hb g8 (by decide) d_10_14_36 (by decide) (fun h9 => ?_) (fun h9 => ?_)
    · replace hf := gneg hf h9
      refine lv_iload_n hx hb d_10_14_51 rfl (lv_at hl 0 rfl) ?_
      refine lv_sipush (v := iI 240) hx hb d_10_14_52 (by decide) ?_
      refine zeq (tgt := 65) hx hb g8 (by decide) d_10_14_55 (by decide) (fun h10 => ?_) (fun h10 => ?_)
      · replace hf := gpos hf h10
        exact b_SoundFile_loadEvent_65 X hf hZ5 hS5 (lv_sub hl [2] rfl)
      · replace hf := gneg hf h10
        refine lv_iload_n hx hb d_10_14_58 rfl (lv_at hl 0 rfl) ?_
        refine lv_sipush (v := iI 247) hx hb d_10_14_59 (by decide) ?_
        refine zne (tgt := 82) hx hb g8 (by decide) d_10_14_62 (by decide) (fun h11 => ?_) (fun h11 => ?_)
        · replace hf := gneg hf h11
          refine lv_iload_n hx hb d_10_14_82 rfl (lv_at hl 0 rfl) ?_
          refine lv_sipush (v := iI 240) hx hb d_10_14_83 (by decide) ?_
          refine zge (tgt := 103) hx hb g8 (by decide) d_10_14_86 (by decide) (fun h12 => ?_) (fun h12 => ?_)
          · replace hf := gpos hf h12
            exact b_SoundFile_loadEvent_103 X hf hZ5 hS5 (lv_sub hl [1, 2] rfl)
          · replace hf := gneg hf h12
            refine lv_iload_n hx hb d_10_14_89 rfl (lv_at hl 0 rfl) ?_
            refine lv_sipush (v := iI 128) hx hb d_10_14_90 (by decide) ?_
            refine zge (tgt := 112) hx hb g8 (by decide) d_10_14_93 (by decide) (fun h13 => ?_) (fun h13 => ?_)
            · replace hf := gpos hf h13
              exact b_SoundFile_loadEvent_112 X hf hZ5 hS5 (lv_sub hl [0, 1, 2, 3] rfl)
            · replace hf := gneg hf h13
              refine lv_aload_n hx hb d_10_14_96 rfl (lv_at hl 2 rfl) ?_
              refine zget (ci := 8) (C := RX8) (T := TX8) (v := .int (iI (F5 8 l0 9))) (k := 9) hx hb hts inW_8 hown hK hZ5 g1.1 g1.2 rfl (by decide) k_7_233 rfl d_10_14_97 ?_
              obtain ⟨g14, hf⟩ := gif hf
              refine z0ne (tgt := 112) hx hb g14 d_10_14_100 (by decide) (fun h15 => ?_) (fun h15 => ?_)
              · replace hf := gneg hf h15
                exact b_SoundFile_loadEvent_112 X hf hZ5 hS5 (lv_sub hl [0, 1, 2, 3] rfl)
              · replace hf := gpos hf h15
                exact b_SoundFile_loadEvent_103 X hf hZ5 hS5 (lv_sub hl [1, 2] rfl)
        · replace hf := gpos hf h11
          exact b_SoundFile_loadEvent_65 X hf hZ5 hS5 (lv_sub hl [2] rfl)
    · replace hf := gpos hf h9
      refine lv_aload_n hx hb d_10_14_39 rfl (lv_at hl 2 rfl) ?_
      refine lv_iconst (v := iI 0) hx hb d_10_14_40 rfl ?_
      refine zput (ci := 8) (C := RX8) (T := TX8) (k := 9) (v := 0) (w := .int (iI 0)) hx hb hts inW_8 tyX8 tyX8_ok nmX8 hown hK hZ5 hS5 g1.1 g1.2 rfl (by decide) k_7_233 rfl (fun G h => congrArg (fun q => Value.int (iI q)) h) rfl rfl (zno (by decide)) d_10_14_41 (fun H16 locs16 hZ16 hS16 => ?_)
      refine lv_aload_n hx hb d_10_14_44 rfl (lv_at hl 2 rfl) ?_
      obtain ⟨r17, F17, B17, hc17, hf⟩ := gbind hf
      refine va_callv (va_runV (As := []) (rest := []) ⟨hx, hb, hml, hown, hts⟩ (c_SoundFile_loadMeta (l := l) hc17) (cwV 0 hts (gdV k_8_88 k_8_90 ks_103 k_1_23 k_8_91) rfl rfl rfl (by decide +kernel) ⟨Nat.le_of_ble_eq_true rfl, Nat.le_of_ble_eq_true rfl⟩) (zPV X hZ16 hS16 (ci := 8) g1.1 g1.2 (r := (RX8, TX8, 15)) rfl []) rfl rfl hl.1 rfl (lv_room (Nat.le_of_ble_eq_true rfl)) d_10_14_45 ⟨Nat.le_of_ble_eq_true rfl, Nat.le_of_ble_eq_true rfl⟩) hS16 (fun q _ h => zAin X hS16 q h) (zAin X hS16) (fun u17 t17 H17 locs17 ht17 hv17 hw17 hB17 hz17 hk17 hS17 => ?_)
      have hZ17 := zBack X ht17 hB17
      refine lv_goto (tgt := 141) hx hb d_10_14_48 (by decide) ?_
      exact b_SoundFile_loadEvent_141 X hf hZ17 hS17 (lv_sub hl [] rfl)
  · replace hf := gneg hf h7
    cases hf
    exact W.vret hx hb hr (fun t ht hW => ⟨⟨(), rfl, trivial, by rw [ht]; exact hZ5, va_K.moved hW.alike hK⟩, hS5.F ht⟩) hS5.2.2 d_10_14_31 hlk

noncomputable abbrev Q_Scribe_writeHead (K : zK) (D : va_G) (ca : Nat → ClassId) (ad : Nat → Int → Nat → Nat) (L : List Nat) (r : Int) (F : zF) (B : zB) (A : Nat → Prop) : Array Value → State → Outcome → State → Prop := va_Qv (S := Unit) (fun _ => True) (fun _ => zPo D ca ad lnC K.2 L F B A) A
noncomputable def f_Scribe_writeHead_63 (K : zK) (l0 : Int) (s0 : Int) (s1 : Nat) (F : zF) (B : zB) : zO := if 0 ≤ s0 ∧ s0 < K.2 0 then zbind (f_ByteRow_putText K s0 s1 F B) (fun r15 F15 B15 => if 0 ≤ l0 ∧ l0 < K.2 7 then if 0 ≤ (F15 7 l0 0) ∧ (F15 7 l0 0) < K.2 8 then if 0 ≤ (F15 7 l0 1) ∧ (F15 7 l0 1) < K.2 0 then zbind (f_ByteRow_putDecimal K (F15 7 l0 1) (B15 8 (F15 7 l0 0) 0 4) F15 B15) (fun r19 F19 B19 => if 0 ≤ (F19 7 l0 1) ∧ (F19 7 l0 1) < K.2 0 then zbind (f_ByteRow_put K (F19 7 l0 1) 47 F19 B19) (fun r21 F21 B21 => if 0 ≤ (F21 7 l0 0) ∧ (F21 7 l0 0) < K.2 8 then if 0 ≤ (F21 7 l0 1) ∧ (F21 7 l0 1) < K.2 0 then zbind (f_ByteRow_putDecimal K (F21 7 l0 1) (B21 8 (F21 7 l0 0) 0 5) F21 B21) (fun r24 F24 B24 => if 0 ≤ (F24 7 l0 1) ∧ (F24 7 l0 1) < K.2 0 then zbind (f_ByteRow_putText K (F24 7 l0 1) 7 F24 B24) (fun r26 F26 B26 => if 0 ≤ (F26 7 l0 0) ∧ (F26 7 l0 0) < K.2 8 then if 0 ≤ (F26 7 l0 1) ∧ (F26 7 l0 1) < K.2 0 then zbind (f_ByteRow_putDecimal K (F26 7 l0 1) (B26 8 (F26 7 l0 0) 0 6) F26 B26) (fun r29 F29 B29 => if 0 ≤ (F29 7 l0 1) ∧ (F29 7 l0 1) < K.2 0 then zbind (f_ByteRow_put K (F29 7 l0 1) 10 F29 B29) (fun r31 F31 B31 => some (0, F31, B31)) else none) else none else none) else none) else none else none) else none) else none else none else none) else none
set_option maxHeartbeats 4000000 in
set_option maxRecDepth 100000 in
theorem b_Scribe_writeHead_63 {D : va_G} {ca : Nat → ClassId} {ad : Nat → Int → Nat → Nat} {L : List Nat} {aS vS : Nat → Nat} {A : Nat → Prop} {p : Program} {l : Launch} {e : Env} {s : State} {m : MethodId} {args : Array Value} {below : List Frame} {meth : Method} {c : Code} {K : zK} {r : Int} {F9 : zF} {B9 : zB} (X : zX D ca L aS vS A p s m args meth c prog_9_method_9_code 2 (Option.none : Option Jvm.ClassFile.FieldType) "StaveHouse$Scribe") {l0 : Int} {s0 : Int} {s1 : Nat} {F : zF} {B : zB} {H : Heap} {locs : List Loc} {ls : Array Slot} (hf : f_Scribe_writeHead_63 K l0 s0 s1 F B = some (r, F9, B9)) (hZ : zH D ca ad lnC K.2 L F B A H) (hS : va_S A s.heap H locs) (hl : lv_has ls 2 [(0, .ref (ad 7 l0 0))]) : W p l e ({ frames := 5, cells := 0, slots := 0, locals := 107 } : Room) s m args below meth c H locs 0 0 (MQ below (Q_Scribe_writeHead K D ca ad L r F9 B9 A) args s 0 0 A) (F0 m 63 ls [.ref (aS s1), va_rf (zrf ad 0 s0)]) := by
  obtain ⟨hx, hb, hr, hml, hown, hts, hlk, hK, hA, hL, hX⟩ := id X
  replace hf : (if 0 ≤ s0 ∧ s0 < K.2 0 then zbind (f_ByteRow_putText K s0 s1 F B) (fun r15 F15 B15 => if 0 ≤ l0 ∧ l0 < K.2 7 then if 0 ≤ (F15 7 l0 0) ∧ (F15 7 l0 0) < K.2 8 then if 0 ≤ (F15 7 l0 1) ∧ (F15 7 l0 1) < K.2 0 then zbind (f_ByteRow_putDecimal K (F15 7 l0 1) (B15 8 (F15 7 l0 0) 0 4) F15 B15) (fun r19 F19 B19 => if 0 ≤ (F19 7 l0 1) ∧ (F19 7 l0 1) < K.2 0 then zbind (f_ByteRow_put K (F19 7 l0 1) 47 F19 B19) (fun r21 F21 B21 => if 0 ≤ (F21 7 l0 0) ∧ (F21 7 l0 0) < K.2 8 then if 0 ≤ (F21 7 l0 1) ∧ (F21 7 l0 1) < K.2 0 then zbind (f_ByteRow_putDecimal K (F21 7 l0 1) (B21 8 (F21 7 l0 0) 0 5) F21 B21) (fun r24 F24 B24 => if 0 ≤ (F24 7 l0 1) ∧ (F24 7 l0 1) < K.2 0 then zbind (f_ByteRow_putText K (F24 7 l0 1) 7 F24 B24) (fun r26 F26 B26 => if 0 ≤ (F26 7 l0 0) ∧ (F26 7 l0 0) < K.2 8 then if 0 ≤ (F26 7 l0 1) ∧ (F26 7 l0 1) < K.2 0 then zbind (f_ByteRow_putDecimal K (F26 7 l0 1) (B26 8 (F26 7 l0 0) 0 6) F26 B26) (fun r29 F29 B29 => if 0 ≤ (F29 7 l0 1) ∧ (F29 7 l0 1) < K.2 0 then zbind (f_ByteRow_put K (F29 7 l0 1) 10 F29 B29) (fun r31 F31 B31 => some (0, F31, B31)) else none) else none else none) else none) else none else none) else none) else none else none else none) else none) = some (r, F9, B9) := hf
  obtain ⟨g14, hf⟩ := gif hf
  refine W.eq (g2 := F0 m 63 ls [.ref (aS s1), .ref (ad 0 s0 0)]) (by rw [zrf_pos (ad := ad) (t := 0) g14.1]; try rfl) ?_
  obtain ⟨r15, F15, B15, hc15, hf⟩ := gbind hf
  refine va_callv (va_runV (As := [.ref (aS s1)]) (rest := []) ⟨hx, hb, hml, hown, hts⟩ (c_ByteRow_putText (l := l) hc15) (cwV 1 hts (gdV k_8_172 k_7_129 k_7_130 k_1_2 k_7_131) rfl rfl rfl (by decide +kernel) ⟨Nat.le_of_ble_eq_true rfl, Nat.le_of_ble_eq_true rfl⟩) (zPV X hZ hS (ci := 0) g14.1 g14.2 (r := (RX0, TX0, 3)) rfl [.ref (aS s1)]) rfl rfl hl.1 rfl (lv_room (Nat.le_of_ble_eq_true rfl)) d_9_9_63 ⟨Nat.le_of_ble_eq_true rfl, Nat.le_of_ble_eq_true rfl⟩) hS (fun q _ h => zAin X hS q h) (zAin X hS) (fun u15 t15 H15 locs15 ht15 hv15 hw15 hB15 hz15 hk15 hS15 => ?_)
  have hZ15 := zBack X ht15 hB15
  refine lv_aload_n hx hb d_9_9_66 rfl (lv_at hl 0 rfl) ?_
  obtain ⟨g16, hf⟩ := gif hf
  refine zget (ci := 7) (C := RX7) (T := TX7) (v := va_rf (zrf ad 0 (F15 7 l0 1))) (k := 1) hx hb hts inW_7 hown hK hZ15 g16.1 g16.2 rfl (by decide) k_2_99 rfl d_9_9_67 ?_
  refine lv_aload_n hx hb d_9_9_70 rfl (lv_at hl 0 rfl) ?_
  refine zget (ci := 7) (C := RX7) (T := TX7) (v := va_rf (zrf ad 8 (F15 7 l0 0))) (k := 0) hx hb hts inW_7 hown hK hZ15 g16.1 g16.2 rfl (by decide) k_2_98 rfl d_9_9_71 ?_
  obtain ⟨g17, hf⟩ := gif hf
  refine zunrf g17.1 ?_
  refine zget (ci := 8) (C := RX8) (T := TX8) (v := .ref (ad 8 (F15 7 l0 0) (0 + 1))) (k := 0) hx hb hts inW_8 hown hK hZ15 g17.1 g17.2 rfl (by decide) k_7_218 rfl d_9_9_74 ?_
  refine lv_iconst (v := iI 4) hx hb d_9_9_77 rfl ?_
  refine zald (ci := 8) (k := 0) hx hb hK rfl hZ15 g17.1 g17.2 rfl (Nat.le_of_ble_eq_true rfl) (by decide) (show (4 : Int) < 7 by decide) d_9_9_78 ?_
  obtain ⟨g18, hf⟩ := gif hf
  refine W.eq (g2 := F0 m 79 ls [.int (iI (B15 8 (F15 7 l0 0) 0 4)), .ref (ad 0 (F15 7 l0 1) 0)]) (by rw [zrf_pos (ad := ad) (t := 0) g18.1]; try rfl) ?_
  obtain ⟨r19, F19, B19, hc19, hf⟩ := gbind hf
  refine va_callv (va_runV (As := [.int (iI (B15 8 (F15 7 l0 0) 0 4))]) (rest := []) ⟨hx, hb, hml, hown, hts⟩ (c_ByteRow_putDecimal (l := l) hc19) (cwV 1 hts (gdV k_8_174 k_8_175 k_8_176 k_1_2 k_8_177) rfl rfl rfl (by decide +kernel) ⟨Nat.le_of_ble_eq_true rfl, Nat.le_of_ble_eq_true rfl⟩) (zPV X hZ15 hS15 (ci := 0) g18.1 g18.2 (r := (RX0, TX0, 3)) rfl [.int (iI (B15 8 (F15 7 l0 0) 0 4))]) rfl rfl hl.1 rfl (lv_room (Nat.le_of_ble_eq_true rfl)) d_9_9_79 ⟨Nat.le_of_ble_eq_true rfl, Nat.le_of_ble_eq_true rfl⟩) hS15 (fun q _ h => zAin X hS15 q h) (zAin X hS15) (fun u19 t19 H19 locs19 ht19 hv19 hw19 hB19 hz19 hk19 hS19 => ?_)
  have hZ19 := zBack X ht19 hB19
  refine lv_aload_n hx hb d_9_9_82 rfl (lv_at hl 0 rfl) ?_
  refine zget (ci := 7) (C := RX7) (T := TX7) (v := va_rf (zrf ad 0 (F19 7 l0 1))) (k := 1) hx hb hts inW_7 hown hK hZ19 g16.1 g16.2 rfl (by decide) k_2_99 rfl d_9_9_83 ?_
  refine lv_bipush (v := iI 47) hx hb d_9_9_86 (by decide) ?_
  obtain ⟨g20, hf⟩ := gif hf
  refine W.eq (g2 := F0 m 88 ls [.int (iI 47), .ref (ad 0 (F19 7 l0 1) 0)]) (by rw [zrf_pos (ad := ad) (t := 0) g20.1]; try rfl) ?_
  obtain ⟨r21, F21, B21, hc21, hf⟩ := gbind hf
  refine va_callv (va_runV (As := [.int (iI 47)]) (rest := []) ⟨hx, hb, hml, hown, hts⟩ (c_ByteRow_put (l := l) hc21) (cwV 1 hts (gdV k_8_180 k_2_171 k_2_172 k_1_2 k_2_173) rfl rfl rfl (by decide +kernel) ⟨Nat.le_of_ble_eq_true rfl, Nat.le_of_ble_eq_true rfl⟩) (zPV X hZ19 hS19 (ci := 0) g20.1 g20.2 (r := (RX0, TX0, 3)) rfl [.int (iI 47)]) rfl rfl hl.1 rfl (lv_room (Nat.le_of_ble_eq_true rfl)) d_9_9_88 ⟨Nat.le_of_ble_eq_true rfl, Nat.le_of_ble_eq_true rfl⟩) hS19 (fun q _ h => zAin X hS19 q h) (zAin X hS19) (fun u21 t21 H21 locs21 ht21 hv21 hw21 hB21 hz21 hk21 hS21 => ?_)
  have hZ21 := zBack X ht21 hB21
  refine lv_aload_n hx hb d_9_9_91 rfl (lv_at hl 0 rfl) ?_
  refine zget (ci := 7) (C := RX7) (T := TX7) (v := va_rf (zrf ad 0 (F21 7 l0 1))) (k := 1) hx hb hts inW_7 hown hK hZ21 g16.1 g16.2 rfl (by decide) k_2_99 rfl d_9_9_92 ?_
  refine lv_aload_n hx hb d_9_9_95 rfl (lv_at hl 0 rfl) ?_
  refine zget (ci := 7) (C := RX7) (T := TX7) (v := va_rf (zrf ad 8 (F21 7 l0 0))) (k := 0) hx hb hts inW_7 hown hK hZ21 g16.1 g16.2 rfl (by decide) k_2_98 rfl d_9_9_96 ?_
  obtain ⟨g22, hf⟩ := gif hf
  refine zunrf g22.1 ?_
  refine zget (ci := 8) (C := RX8) (T := TX8) (v := .ref (ad 8 (F21 7 l0 0) (0 + 1))) (k := 0) hx hb hts inW_8 hown hK hZ21 g22.1 g22.2 rfl (by decide) k_7_218 rfl d_9_9_99 ?_
  refine lv_iconst (v := iI 5) hx hb d_9_9_102 rfl ?_
  refine zald (ci := 8) (k := 0) hx hb hK rfl hZ21 g22.1 g22.2 rfl (Nat.le_of_ble_eq_true rfl) (by decide) (show (5 : Int) < 7 by decide) d_9_9_103 ?_
  obtain ⟨g23, hf⟩ := gif hf
  refine W.eq (g2 := F0 m 104 ls [.int (iI (B21 8 (F21 7 l0 0) 0 5)), .ref (ad 0 (F21 7 l0 1) 0)]) (by rw [zrf_pos (ad := ad) (t := 0) g23.1]; try rfl) ?_
  obtain ⟨r24, F24, B24, hc24, hf⟩ := gbind hf
  refine va_callv (va_runV (As := [.int (iI (B21 8 (F21 7 l0 0) 0 5))]) (rest := []) ⟨hx, hb, hml, hown, hts⟩ (c_ByteRow_putDecimal (l := l) hc24) (cwV 1 hts (gdV k_8_174 k_8_175 k_8_176 k_1_2 k_8_177) rfl rfl rfl (by decide +kernel) ⟨Nat.le_of_ble_eq_true rfl, Nat.le_of_ble_eq_true rfl⟩) (zPV X hZ21 hS21 (ci := 0) g23.1 g23.2 (r := (RX0, TX0, 3)) rfl [.int (iI (B21 8 (F21 7 l0 0) 0 5))]) rfl rfl hl.1 rfl (lv_room (Nat.le_of_ble_eq_true rfl)) d_9_9_104 ⟨Nat.le_of_ble_eq_true rfl, Nat.le_of_ble_eq_true rfl⟩) hS21 (fun q _ h => zAin X hS21 q h) (zAin X hS21) (fun u24 t24 H24 locs24 ht24 hv24 hw24 hB24 hz24 hk24 hS24 => ?_)
  have hZ24 := zBack X ht24 hB24
  refine lv_aload_n hx hb d_9_9_107 rfl (lv_at hl 0 rfl) ?_
  refine zget (ci := 7) (C := RX7) (T := TX7) (v := va_rf (zrf ad 0 (F24 7 l0 1))) (k := 1) hx hb hts inW_7 hown hK hZ24 g16.1 g16.2 rfl (by decide) k_2_99 rfl d_9_9_108 ?_
  refine va_ldcS hx hb hown (hX.2.2.2.2.1 7 _ rfl).1 d_9_9_111 ?_
  obtain ⟨g25, hf⟩ := gif hf
  refine W.eq (g2 := F0 m 113 ls [.ref (aS 7), .ref (ad 0 (F24 7 l0 1) 0)]) (by rw [zrf_pos (ad := ad) (t := 0) g25.1]; try rfl) ?_
  obtain ⟨r26, F26, B26, hc26, hf⟩ := gbind hf
  refine va_callv (va_runV (As := [.ref (aS 7)]) (rest := []) ⟨hx, hb, hml, hown, hts⟩ (c_ByteRow_putText (l := l) hc26) (cwV 1 hts (gdV k_8_172 k_7_129 k_7_130 k_1_2 k_7_131) rfl rfl rfl (by decide +kernel) ⟨Nat.le_of_ble_eq_true rfl, Nat.le_of_ble_eq_true rfl⟩) (zPV X hZ24 hS24 (ci := 0) g25.1 g25.2 (r := (RX0, TX0, 3)) rfl [.ref (aS 7)]) rfl rfl hl.1 rfl (lv_room (Nat.le_of_ble_eq_true rfl)) d_9_9_113 ⟨Nat.le_of_ble_eq_true rfl, Nat.le_of_ble_eq_true rfl⟩) hS24 (fun q _ h => zAin X hS24 q h) (zAin X hS24) (fun u26 t26 H26 locs26 ht26 hv26 hw26 hB26 hz26 hk26 hS26 => ?_)
  have hZ26 := zBack X ht26 hB26
  refine lv_aload_n hx hb d_9_9_116 rfl (lv_at hl 0 rfl) ?_
  refine zget (ci := 7) (C := RX7) (T := TX7) (v := va_rf (zrf ad 0 (F26 7 l0 1))) (k := 1) hx hb hts inW_7 hown hK hZ26 g16.1 g16.2 rfl (by decide) k_2_99 rfl d_9_9_117 ?_
  refine lv_aload_n hx hb d_9_9_120 rfl (lv_at hl 0 rfl) ?_
  refine zget (ci := 7) (C := RX7) (T := TX7) (v := va_rf (zrf ad 8 (F26 7 l0 0))) (k := 0) hx hb hts inW_7 hown hK hZ26 g16.1 g16.2 rfl (by decide) k_2_98 rfl d_9_9_121 ?_
  obtain ⟨g27, hf⟩ := gif hf
  refine zunrf g27.1 ?_
  refine zget (ci := 8) (C := RX8) (T := TX8) (v := .ref (ad 8 (F26 7 l0 0) (0 + 1))) (k := 0) hx hb hts inW_8 hown hK hZ26 g27.1 g27.2 rfl (by decide) k_7_218 rfl d_9_9_124 ?_
  refine lv_bipush (v := iI 6) hx hb d_9_9_127 (by decide) ?_
  refine zald (ci := 8) (k := 0) hx hb hK rfl hZ26 g27.1 g27.2 rfl (Nat.le_of_ble_eq_true rfl) (by decide) (show (6 : Int) < 7 by decide) d_9_9_129 ?_
  obtain ⟨g28, hf⟩ := gif hf
  refine W.eq (g2 := F0 m 130 ls [.int (iI (B26 8 (F26 7 l0 0) 0 6)), .ref (ad 0 (F26 7 l0 1) 0)]) (by rw [zrf_pos (ad := ad) (t := 0) g28.1]; try rfl) ?_
  obtain ⟨r29, F29, B29, hc29, hf⟩ := gbind hf
  refine va_callv (va_runV (As := [.int (iI (B26 8 (F26 7 l0 0) 0 6))]) (rest := []) ⟨hx, hb, hml, hown, hts⟩ (c_ByteRow_putDecimal (l := l) hc29) (cwV 1 hts (gdV k_8_174 k_8_175 k_8_176 k_1_2 k_8_177) rfl rfl rfl (by decide +kernel) ⟨Nat.le_of_ble_eq_true rfl, Nat.le_of_ble_eq_true rfl⟩) (zPV X hZ26 hS26 (ci := 0) g28.1 g28.2 (r := (RX0, TX0, 3)) rfl [.int (iI (B26 8 (F26 7 l0 0) 0 6))]) rfl rfl hl.1 rfl (lv_room (Nat.le_of_ble_eq_true rfl)) d_9_9_130 ⟨Nat.le_of_ble_eq_true rfl, Nat.le_of_ble_eq_true rfl⟩) hS26 (fun q _ h => zAin X hS26 q h) (zAin X hS26) (fun u29 t29 H29 locs29 ht29 hv29 hw29 hB29 hz29 hk29 hS29 => ?_)
  have hZ29 := zBack X ht29 hB29
  refine lv_aload_n hx hb d_9_9_133 rfl (lv_at hl 0 rfl) ?_
  refine zget (ci := 7) (C := RX7) (T := TX7) (v := va_rf (zrf ad 0 (F29 7 l0 1))) (k := 1) hx hb hts inW_7 hown hK hZ29 g16.1 g16.2 rfl (by decide) k_2_99 rfl d_9_9_134 ?_
  refine lv_bipush (v := iI 10) hx hb d_9_9_137 (by decide) ?_
  obtain ⟨g30, hf⟩ := gif hf
  refine W.eq (g2 := F0 m 139 ls [.int (iI 10), .ref (ad 0 (F29 7 l0 1) 0)]) (by rw [zrf_pos (ad := ad) (t := 0) g30.1]; try rfl) ?_
  obtain ⟨r31, F31, B31, hc31, hf⟩ := gbind hf
  refine va_callv (va_runV (As := [.int (iI 10)]) (rest := []) ⟨hx, hb, hml, hown, hts⟩ (c_ByteRow_put (l := l) hc31) (cwV 1 hts (gdV k_8_180 k_2_171 k_2_172 k_1_2 k_2_173) rfl rfl rfl (by decide +kernel) ⟨Nat.le_of_ble_eq_true rfl, Nat.le_of_ble_eq_true rfl⟩) (zPV X hZ29 hS29 (ci := 0) g30.1 g30.2 (r := (RX0, TX0, 3)) rfl [.int (iI 10)]) rfl rfl hl.1 rfl (lv_room (Nat.le_of_ble_eq_true rfl)) d_9_9_139 ⟨Nat.le_of_ble_eq_true rfl, Nat.le_of_ble_eq_true rfl⟩) hS29 (fun q _ h => zAin X hS29 q h) (zAin X hS29) (fun u31 t31 H31 locs31 ht31 hv31 hw31 hB31 hz31 hk31 hS31 => ?_)
  have hZ31 := zBack X ht31 hB31
  cases hf
  exact W.vret hx hb hr (fun t ht hW => ⟨⟨(), rfl, trivial, by rw [ht]; exact hZ31, va_K.moved hW.alike hK⟩, hS31.F ht⟩) hS31.2.2 d_9_9_142 hlk

noncomputable def f_Scribe_writeHead_25 (K : zK) (l1 : Int) (l0 : Int) (s0 : Int) (s1 : Nat) (F : zF) (B : zB) : zO := if 0 ≤ s0 ∧ s0 < K.2 0 then zbind (f_ByteRow_putText K s0 s1 F B) (fun r6 F6 B6 => if 0 ≤ l0 ∧ l0 < K.2 7 then if 0 ≤ (F6 7 l0 1) ∧ (F6 7 l0 1) < K.2 0 then if r32 l1 then zbind (f_ByteRow_putDecimal K (F6 7 l0 1) (zabs l1) F6 B6) (fun r10 F10 B10 => if 0 ≤ (F10 7 l0 0) ∧ (F10 7 l0 0) < K.2 8 then if r32 (B10 8 (F10 7 l0 0) 0 3) then (if (B10 8 (F10 7 l0 0) 0 3) = 1 then f_Scribe_writeHead_63 K l0 (F10 7 l0 1) 5 F10 B10 else f_Scribe_writeHead_63 K l0 (F10 7 l0 1) 6 F10 B10) else none else none) else none else none else none) else none
set_option maxHeartbeats 4000000 in
set_option maxRecDepth 100000 in
theorem b_Scribe_writeHead_25 {D : va_G} {ca : Nat → ClassId} {ad : Nat → Int → Nat → Nat} {L : List Nat} {aS vS : Nat → Nat} {A : Nat → Prop} {p : Program} {l : Launch} {e : Env} {s : State} {m : MethodId} {args : Array Value} {below : List Frame} {meth : Method} {c : Code} {K : zK} {r : Int} {F9 : zF} {B9 : zB} (X : zX D ca L aS vS A p s m args meth c prog_9_method_9_code 2 (Option.none : Option Jvm.ClassFile.FieldType) "StaveHouse$Scribe") {l1 : Int} {l0 : Int} {s0 : Int} {s1 : Nat} {F : zF} {B : zB} {H : Heap} {locs : List Loc} {ls : Array Slot} (hf : f_Scribe_writeHead_25 K l1 l0 s0 s1 F B = some (r, F9, B9)) (hZ : zH D ca ad lnC K.2 L F B A H) (hS : va_S A s.heap H locs) (hl : lv_has ls 2 [(1, .int (iI l1)), (0, .ref (ad 7 l0 0))]) : W p l e ({ frames := 5, cells := 0, slots := 0, locals := 107 } : Room) s m args below meth c H locs 0 0 (MQ below (Q_Scribe_writeHead K D ca ad L r F9 B9 A) args s 0 0 A) (F0 m 25 ls [.ref (aS s1), va_rf (zrf ad 0 s0)]) := by
  obtain ⟨hx, hb, hr, hml, hown, hts, hlk, hK, hA, hL, hX⟩ := id X
  replace hf : (if 0 ≤ s0 ∧ s0 < K.2 0 then zbind (f_ByteRow_putText K s0 s1 F B) (fun r6 F6 B6 => if 0 ≤ l0 ∧ l0 < K.2 7 then if 0 ≤ (F6 7 l0 1) ∧ (F6 7 l0 1) < K.2 0 then if r32 l1 then zbind (f_ByteRow_putDecimal K (F6 7 l0 1) (zabs l1) F6 B6) (fun r10 F10 B10 => if 0 ≤ (F10 7 l0 0) ∧ (F10 7 l0 0) < K.2 8 then if r32 (B10 8 (F10 7 l0 0) 0 3) then (if (B10 8 (F10 7 l0 0) 0 3) = 1 then f_Scribe_writeHead_63 K l0 (F10 7 l0 1) 5 F10 B10 else f_Scribe_writeHead_63 K l0 (F10 7 l0 1) 6 F10 B10) else none else none) else none else none else none) else none) = some (r, F9, B9) := hf
  obtain ⟨g5, hf⟩ := gif hf
  refine W.eq (g2 := F0 m 25 ls [.ref (aS s1), .ref (ad 0 s0 0)]) (by rw [zrf_pos (ad := ad) (t := 0) g5.1]; try rfl) ?_
  obtain ⟨r6, F6, B6, hc6, hf⟩ := gbind hf
  refine va_callv (va_runV (As := [.ref (aS s1)]) (rest := []) ⟨hx, hb, hml, hown, hts⟩ (c_ByteRow_putText (l := l) hc6) (cwV 1 hts (gdV k_8_172 k_7_129 k_7_130 k_1_2 k_7_131) rfl rfl rfl (by decide +kernel) ⟨Nat.le_of_ble_eq_true rfl, Nat.le_of_ble_eq_true rfl⟩) (zPV X hZ hS (ci := 0) g5.1 g5.2 (r := (RX0, TX0, 3)) rfl [.ref (aS s1)]) rfl rfl hl.1 rfl (lv_room (Nat.le_of_ble_eq_true rfl)) d_9_9_25 ⟨Nat.le_of_ble_eq_true rfl, Nat.le_of_ble_eq_true rfl⟩) hS (fun q _ h => zAin X hS q h) (zAin X hS) (fun u6 t6 H6 locs6 ht6 hv6 hw6 hB6 hz6 hk6 hS6 => ?_)
  have hZ6 := zBack X ht6 hB6
  refine lv_aload_n hx hb d_9_9_28 rfl (lv_at hl 1 rfl) ?_
  obtain ⟨g7, hf⟩ := gif hf
  refine zget (ci := 7) (C := RX7) (T := TX7) (v := va_rf (zrf ad 0 (F6 7 l0 1))) (k := 1) hx hb hts inW_7 hown hK hZ6 g7.1 g7.2 rfl (by decide) k_2_99 rfl d_9_9_29 ?_
  refine lv_iload_n hx hb d_9_9_32 rfl (lv_at hl 0 rfl) ?_
  obtain ⟨g8, hf⟩ := gif hf
  refine W.eq (g2 := F0 m 33 ls [.int (iI l1), .ref (ad 0 (F6 7 l0 1) 0)]) (by rw [zrf_pos (ad := ad) (t := 0) g8.1]; try rfl) ?_
  obtain ⟨g9, hf⟩ := gif hf
  refine va_mabs hx hb (by rw [hml]; exact hl.1.symm) hown (hts _ k_8_173) (hts _ k_4_229) (hts _ k_1_3) (hts _ k_4_230) (Nat.le_of_ble_eq_true rfl) (Nat.le_of_ble_eq_true rfl) (Nat.le_of_ble_eq_true rfl) (Nat.le_of_ble_eq_true rfl) d_9_9_33 ?_
  rw [zabs_e g9]
  obtain ⟨r10, F10, B10, hc10, hf⟩ := gbind hf
  refine va_callv (va_runV (As := [.int (iI (zabs l1))]) (rest := []) ⟨hx, hb, hml, hown, hts⟩ (c_ByteRow_putDecimal (l := l) hc10) (cwV 1 hts (gdV k_8_174 k_8_175 k_8_176 k_1_2 k_8_177) rfl rfl rfl (by decide +kernel) ⟨Nat.le_of_ble_eq_true rfl, Nat.le_of_ble_eq_true rfl⟩) (zPV X hZ6 hS6 (ci := 0) g8.1 g8.2 (r := (RX0, TX0, 3)) rfl [.int (iI (zabs l1))]) rfl rfl hl.1 rfl (lv_room (Nat.le_of_ble_eq_true rfl)) d_9_9_36 ⟨Nat.le_of_ble_eq_true rfl, Nat.le_of_ble_eq_true rfl⟩) hS6 (fun q _ h => zAin X hS6 q h) (zAin X hS6) (fun u10 t10 H10 locs10 ht10 hv10 hw10 hB10 hz10 hk10 hS10 => ?_)
  have hZ10 := zBack X ht10 hB10
  refine lv_aload_n hx hb d_9_9_39 rfl (lv_at hl 1 rfl) ?_
  refine zget (ci := 7) (C := RX7) (T := TX7) (v := va_rf (zrf ad 0 (F10 7 l0 1))) (k := 1) hx hb hts inW_7 hown hK hZ10 g7.1 g7.2 rfl (by decide) k_2_99 rfl d_9_9_40 ?_
  refine lv_aload_n hx hb d_9_9_43 rfl (lv_at hl 1 rfl) ?_
  refine zget (ci := 7) (C := RX7) (T := TX7) (v := va_rf (zrf ad 8 (F10 7 l0 0))) (k := 0) hx hb hts inW_7 hown hK hZ10 g7.1 g7.2 rfl (by decide) k_2_98 rfl d_9_9_44 ?_
  obtain ⟨g11, hf⟩ := gif hf
  refine zunrf g11.1 ?_
  refine zget (ci := 8) (C := RX8) (T := TX8) (v := .ref (ad 8 (F10 7 l0 0) (0 + 1))) (k := 0) hx hb hts inW_8 hown hK hZ10 g11.1 g11.2 rfl (by decide) k_7_218 rfl d_9_9_47 ?_
  refine lv_iconst (v := iI 3) hx hb d_9_9_50 rfl ?_
  refine zald (ci := 8) (k := 0) hx hb hK rfl hZ10 g11.1 g11.2 rfl (Nat.le_of_ble_eq_true rfl) (by decide) (show (3 : Int) < 7 by decide) d_9_9_51 ?_
  refine lv_iconst (v := iI 1) hx hb d_9_9_52 rfl ?_
  obtain ⟨g12, hf⟩ := gif hf
  refine zne (tgt := 61) hx hb g12 (by decide) d_9_9_53 (by decide) (fun h13 => ?_) (fun h13 => ?_)
  · replace hf := gneg hf h13
    refine va_ldcS hx hb hown (hX.2.2.2.2.1 6 _ rfl).1 d_9_9_61 ?_
    exact b_Scribe_writeHead_63 X hf hZ10 hS10 (lv_sub hl [1] rfl)
  · replace hf := gpos hf h13
    refine va_ldcS hx hb hown (hX.2.2.2.2.1 5 _ rfl).1 d_9_9_56 ?_
    refine lv_goto (tgt := 63) hx hb d_9_9_58 (by decide) ?_
    exact b_Scribe_writeHead_63 X hf hZ10 hS10 (lv_sub hl [1] rfl)

noncomputable def f_Scribe_writeHead (K : zK) (l0 : Int) (F : zF) (B : zB) : zO := if 0 ≤ l0 ∧ l0 < K.2 7 then if 0 ≤ (F 7 l0 0) ∧ (F 7 l0 0) < K.2 8 then if r32 (B 8 (F 7 l0 0) 0 2) then (if 0 ≤ (B 8 (F 7 l0 0) 0 2) then f_Scribe_writeHead_25 K (B 8 (F 7 l0 0) 0 2) l0 (F 7 l0 1) 4 F B else f_Scribe_writeHead_25 K (B 8 (F 7 l0 0) 0 2) l0 (F 7 l0 1) 3 F B) else none else none else none
set_option maxHeartbeats 4000000 in
set_option maxRecDepth 100000 in
theorem c_Scribe_writeHead {l : Launch} {D : va_G} {ca : Nat → ClassId} {ad : Nat → Int → Nat → Nat} {L : List Nat} {aS vS : Nat → Nat} {sz : Nat} {K : zK}  {l0 : Int} {F F9 : zF} {B B9 : zB} {r : Int} (hf : f_Scribe_writeHead K l0 F B = some (r, F9, B9)) : Met l ({ cls := "StaveHouse$Scribe", name := "writeHead", desc := "()V" } : Jvm.MethodName) (Cond.code ({ cls := "StaveHouse$Scribe", name := "writeHead", desc := "()V" } : Jvm.MethodName) prog_9_method_9_code 2 (Option.none : Option Jvm.ClassFile.FieldType) :: wAll) ({ frames := 5, cells := 0, slots := 0, locals := 107 } : Room) (va_Pc [.ref (ad 7 l0 0)] (zPre D ca ad lnC K.2 L aS vS F B sz)) (Q_Scribe_writeHead K D ca ad L r F9 B9 (zA L sz)) 0 0 (zA L sz) := by
  refine zMet (Qc := Q_Scribe_writeHead K D ca ad L r F9 B9) (lv := [(0, .ref (ad 7 l0 0))]) (by decide) (Nat.le_of_ble_eq_true rfl) rfl (fun A p e s m below meth c ls X hZ hS hl => ?_)
  obtain ⟨hx, hb, hr, hml, hown, hts, hlk, hK, hA, hL, hX⟩ := id X
  replace hf : (if 0 ≤ l0 ∧ l0 < K.2 7 then if 0 ≤ (F 7 l0 0) ∧ (F 7 l0 0) < K.2 8 then if r32 (B 8 (F 7 l0 0) 0 2) then (if 0 ≤ (B 8 (F 7 l0 0) 0 2) then f_Scribe_writeHead_25 K (B 8 (F 7 l0 0) 0 2) l0 (F 7 l0 1) 4 F B else f_Scribe_writeHead_25 K (B 8 (F 7 l0 0) 0 2) l0 (F 7 l0 1) 3 F B) else none else none else none) = some (r, F9, B9) := hf
  refine lv_aload_n hx hb d_9_9_0 rfl (lv_at hl 0 rfl) ?_
  obtain ⟨g1, hf⟩ := gif hf
  refine zget (ci := 7) (C := RX7) (T := TX7) (v := va_rf (zrf ad 8 (F 7 l0 0))) (k := 0) hx hb hts inW_7 hown hK hZ g1.1 g1.2 rfl (by decide) k_2_98 rfl d_9_9_1 ?_
  obtain ⟨g2, hf⟩ := gif hf
  refine zunrf g2.1 ?_
  refine zget (ci := 8) (C := RX8) (T := TX8) (v := .ref (ad 8 (F 7 l0 0) (0 + 1))) (k := 0) hx hb hts inW_8 hown hK hZ g2.1 g2.2 rfl (by decide) k_7_218 rfl d_9_9_4 ?_
  refine lv_iconst (v := iI 2) hx hb d_9_9_7 rfl ?_
  refine zald (ci := 8) (k := 0) hx hb hK rfl hZ g2.1 g2.2 rfl (Nat.le_of_ble_eq_true rfl) (by decide) (show (2 : Int) < 7 by decide) d_9_9_8 ?_
  refine lv_istore_n (lv' := [(1, .int (iI (B 8 (F 7 l0 0) 0 2))), (0, .ref (ad 7 l0 0))]) hx hb d_9_9_9 rfl hl (by decide) rfl (fun ls hl => ?_)
  refine lv_aload_n hx hb d_9_9_10 rfl (lv_at hl 1 rfl) ?_
  refine zget (ci := 7) (C := RX7) (T := TX7) (v := va_rf (zrf ad 0 (F 7 l0 1))) (k := 1) hx hb hts inW_7 hown hK hZ g1.1 g1.2 rfl (by decide) k_2_99 rfl d_9_9_11 ?_
  refine lv_iload_n hx hb d_9_9_14 rfl (lv_at hl 0 rfl) ?_
  obtain ⟨g3, hf⟩ := gif hf
  refine z0ge (tgt := 23) hx hb g3 d_9_9_15 (by decide) (fun h4 => ?_) (fun h4 => ?_)
  · replace hf := gpos hf h4
    refine va_ldcS hx hb hown (hX.2.2.2.2.1 4 _ rfl).1 d_9_9_23 ?_
    exact b_Scribe_writeHead_25 X hf hZ hS (lv_sub hl [0, 1] rfl)
  · replace hf := gneg hf h4
    refine va_ldcS hx hb hown (hX.2.2.2.2.1 3 _ rfl).1 d_9_9_18 ?_
    refine lv_goto (tgt := 25) hx hb d_9_9_20 (by decide) ?_
    exact b_Scribe_writeHead_25 X hf hZ hS (lv_sub hl [0, 1] rfl)

noncomputable abbrev Q_Scribe_writeNote (K : zK) (D : va_G) (ca : Nat → ClassId) (ad : Nat → Int → Nat → Nat) (L : List Nat) (r : Int) (F : zF) (B : zB) (A : Nat → Prop) : Array Value → State → Outcome → State → Prop := va_Qv (S := Unit) (fun _ => True) (fun _ => zPo D ca ad lnC K.2 L F B A) A
noncomputable def f_Scribe_writeNote_191 (K : zK) (s0 : Int) (s1 : Nat) (F : zF) (B : zB) : zO := if 0 ≤ s0 ∧ s0 < K.2 0 then zbind (f_ByteRow_putText K s0 s1 F B) (fun r48 F48 B48 => some (0, F48, B48)) else none
