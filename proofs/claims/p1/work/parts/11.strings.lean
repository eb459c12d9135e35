theorem k_15_170 : (Jvm.Cond.fieldLink "java/lang/String" (9 : Nat) "java/lang/String" "value" "[B") ∈ wAll := wA_15 (j := 170) rfl rfl
theorem k_3_79 : (Jvm.Cond.fieldLink "java/lang/String" (38 : Nat) "java/lang/String" "COMPACT_STRINGS" "Z") ∈ wAll := wA_3 (j := 79) rfl rfl
theorem k_15_171 : (Jvm.Cond.fieldLink "java/lang/String" (15 : Nat) "java/lang/String" "coder" "B") ∈ wAll := wA_15 (j := 171) rfl rfl
theorem k_3_88 : (Jvm.Cond.code ({ cls := "java/lang/String", name := "coder", desc := "()B" } : Jvm.MethodName) prog_21_method_152_code (1 : Nat) (Option.some Jvm.ClassFile.FieldType.byte)) ∈ wAll := wA_3 (j := 88) rfl rfl
theorem k_3_85 : (Jvm.Cond.methodLink "java/lang/String" (335 : Nat) ({ cls := "java/lang/String", name := "coder", desc := "()B" } : Jvm.MethodName)) ∈ wAll := wA_3 (j := 85) rfl rfl
theorem k_3_86 : (Jvm.Cond.instanceMethod ({ cls := "java/lang/String", name := "coder", desc := "()B" } : Jvm.MethodName)) ∈ wAll := wA_3 (j := 86) rfl rfl
theorem k_3_87 : (Jvm.Cond.selects "java/lang/String" ({ cls := "java/lang/String", name := "coder", desc := "()B" } : Jvm.MethodName) ({ cls := "java/lang/String", name := "coder", desc := "()B" } : Jvm.MethodName)) ∈ wAll := wA_3 (j := 87) rfl rfl
theorem k_1_11 : (Jvm.Cond.initialized "java/lang/String") ∈ wAll := wA_1 (j := 11) rfl rfl
theorem k_3_84 : (Jvm.Cond.code ({ cls := "java/lang/String", name := "length", desc := "()I" } : Jvm.MethodName) prog_21_method_54_code (1 : Nat) (Option.some Jvm.ClassFile.FieldType.int)) ∈ wAll := wA_3 (j := 84) rfl rfl
theorem k_10_194 : (Jvm.Cond.methodLink "StaveHouseModel" (323 : Nat) ({ cls := "java/lang/String", name := "length", desc := "()I" } : Jvm.MethodName)) ∈ wAll := wA_10 (j := 194) rfl rfl
theorem k_3_82 : (Jvm.Cond.instanceMethod ({ cls := "java/lang/String", name := "length", desc := "()I" } : Jvm.MethodName)) ∈ wAll := wA_3 (j := 82) rfl rfl
theorem k_3_83 : (Jvm.Cond.selects "java/lang/String" ({ cls := "java/lang/String", name := "length", desc := "()I" } : Jvm.MethodName) ({ cls := "java/lang/String", name := "length", desc := "()I" } : Jvm.MethodName)) ∈ wAll := wA_3 (j := 83) rfl rfl
theorem k_3_78 : (Jvm.Cond.code ({ cls := "java/lang/String", name := "isLatin1", desc := "()Z" } : Jvm.MethodName) prog_21_method_154_code (1 : Nat) (Option.some Jvm.ClassFile.FieldType.boolean)) ∈ wAll := wA_3 (j := 78) rfl rfl
theorem k_3_75 : (Jvm.Cond.methodLink "java/lang/String" (492 : Nat) ({ cls := "java/lang/String", name := "isLatin1", desc := "()Z" } : Jvm.MethodName)) ∈ wAll := wA_3 (j := 75) rfl rfl
theorem k_3_76 : (Jvm.Cond.instanceMethod ({ cls := "java/lang/String", name := "isLatin1", desc := "()Z" } : Jvm.MethodName)) ∈ wAll := wA_3 (j := 76) rfl rfl
theorem k_3_77 : (Jvm.Cond.selects "java/lang/String" ({ cls := "java/lang/String", name := "isLatin1", desc := "()Z" } : Jvm.MethodName) ({ cls := "java/lang/String", name := "isLatin1", desc := "()Z" } : Jvm.MethodName)) ∈ wAll := wA_3 (j := 77) rfl rfl
theorem k_3_120 : (Jvm.Cond.fieldLink "java/lang/String" (1053 : Nat) "jdk/internal/util/Preconditions" "SIOOBE_FORMATTER" "Ljava/util/function/BiFunction;") ∈ wAll := wA_3 (j := 120) rfl rfl
theorem k_7_145 : (Jvm.Cond.code ({ cls := "jdk/internal/util/Preconditions", name := "checkIndex", desc := "(IILjava/util/function/BiFunction;)I" } : Jvm.MethodName) prog_24_method_11_code (3 : Nat) (Option.some Jvm.ClassFile.FieldType.int)) ∈ wAll := wA_7 (j := 145) rfl rfl
theorem k_7_143 : (Jvm.Cond.methodLink "java/lang/String" (1059 : Nat) ({ cls := "jdk/internal/util/Preconditions", name := "checkIndex", desc := "(IILjava/util/function/BiFunction;)I" } : Jvm.MethodName)) ∈ wAll := wA_7 (j := 143) rfl rfl
theorem k_7_144 : (Jvm.Cond.static ({ cls := "jdk/internal/util/Preconditions", name := "checkIndex", desc := "(IILjava/util/function/BiFunction;)I" } : Jvm.MethodName)) ∈ wAll := wA_7 (j := 144) rfl rfl
theorem k_1_13 : (Jvm.Cond.initialized "jdk/internal/util/Preconditions") ∈ wAll := wA_1 (j := 13) rfl rfl
theorem k_7_142 : (Jvm.Cond.code ({ cls := "java/lang/String", name := "checkIndex", desc := "(II)V" } : Jvm.MethodName) prog_21_method_155_code (2 : Nat) (Option.none : Option Jvm.ClassFile.FieldType)) ∈ wAll := wA_7 (j := 142) rfl rfl
theorem k_7_140 : (Jvm.Cond.methodLink "java/lang/StringLatin1" (9 : Nat) ({ cls := "java/lang/String", name := "checkIndex", desc := "(II)V" } : Jvm.MethodName)) ∈ wAll := wA_7 (j := 140) rfl rfl
theorem k_7_141 : (Jvm.Cond.static ({ cls := "java/lang/String", name := "checkIndex", desc := "(II)V" } : Jvm.MethodName)) ∈ wAll := wA_7 (j := 141) rfl rfl
theorem k_7_139 : (Jvm.Cond.code ({ cls := "java/lang/StringLatin1", name := "charAt", desc := "([BI)C" } : Jvm.MethodName) prog_22_method_2_code (2 : Nat) (Option.some Jvm.ClassFile.FieldType.char)) ∈ wAll := wA_7 (j := 139) rfl rfl
theorem k_7_137 : (Jvm.Cond.methodLink "java/lang/String" (495 : Nat) ({ cls := "java/lang/StringLatin1", name := "charAt", desc := "([BI)C" } : Jvm.MethodName)) ∈ wAll := wA_7 (j := 137) rfl rfl
theorem k_7_138 : (Jvm.Cond.static ({ cls := "java/lang/StringLatin1", name := "charAt", desc := "([BI)C" } : Jvm.MethodName)) ∈ wAll := wA_7 (j := 138) rfl rfl
theorem k_1_12 : (Jvm.Cond.initialized "java/lang/StringLatin1") ∈ wAll := wA_1 (j := 12) rfl rfl
theorem k_7_136 : (Jvm.Cond.code ({ cls := "java/lang/String", name := "charAt", desc := "(I)C" } : Jvm.MethodName) prog_21_method_56_code (2 : Nat) (Option.some Jvm.ClassFile.FieldType.char)) ∈ wAll := wA_7 (j := 136) rfl rfl
theorem k_10_195 : (Jvm.Cond.methodLink "StaveHouseModel" (329 : Nat) ({ cls := "java/lang/String", name := "charAt", desc := "(I)C" } : Jvm.MethodName)) ∈ wAll := wA_10 (j := 195) rfl rfl
theorem k_7_134 : (Jvm.Cond.instanceMethod ({ cls := "java/lang/String", name := "charAt", desc := "(I)C" } : Jvm.MethodName)) ∈ wAll := wA_7 (j := 134) rfl rfl
theorem k_7_135 : (Jvm.Cond.selects "java/lang/String" ({ cls := "java/lang/String", name := "charAt", desc := "(I)C" } : Jvm.MethodName) ({ cls := "java/lang/String", name := "charAt", desc := "(I)C" } : Jvm.MethodName)) ∈ wAll := wA_7 (j := 135) rfl rfl
theorem d_15_24_0 : decode prog_15_method_24_code 0 = .ok (.lconst 0, 1) := by decide +kernel
theorem d_15_24_1 : decode prog_15_method_24_code 1 = .ok (.lstore_n 1, 1) := by decide +kernel
theorem d_15_24_2 : decode prog_15_method_24_code 2 = .ok (.iconst 0, 1) := by decide +kernel
theorem d_15_24_3 : decode prog_15_method_24_code 3 = .ok (.istore_n 3, 1) := by decide +kernel
theorem d_15_24_4 : decode prog_15_method_24_code 4 = .ok (.iload_n 3, 1) := by decide +kernel
theorem d_15_24_5 : decode prog_15_method_24_code 5 = .ok (.aload_n 0, 1) := by decide +kernel
theorem d_15_24_6 : decode prog_15_method_24_code 6 = .ok (.invokevirtual 323, 3) := by decide +kernel
theorem d_21_54_0 : decode prog_21_method_54_code 0 = .ok (.aload_n 0, 1) := by decide +kernel
theorem d_21_54_1 : decode prog_21_method_54_code 1 = .ok (.getfield 9, 3) := by decide +kernel
theorem d_21_54_4 : decode prog_21_method_54_code 4 = .ok (.arraylength, 1) := by decide +kernel
theorem d_21_54_5 : decode prog_21_method_54_code 5 = .ok (.aload_n 0, 1) := by decide +kernel
theorem d_21_54_6 : decode prog_21_method_54_code 6 = .ok (.invokevirtual 335, 3) := by decide +kernel
theorem d_21_152_0 : decode prog_21_method_152_code 0 = .ok (.getstatic 38, 3) := by decide +kernel
theorem d_21_152_3 : decode prog_21_method_152_code 3 = .ok (.ifCond .eq 10, 3) := by decide +kernel
theorem d_21_152_6 : decode prog_21_method_152_code 6 = .ok (.aload_n 0, 1) := by decide +kernel
theorem d_21_152_7 : decode prog_21_method_152_code 7 = .ok (.getfield 15, 3) := by decide +kernel
theorem d_21_152_10 : decode prog_21_method_152_code 10 = .ok (.goto 4, 3) := by decide +kernel
theorem d_21_152_14 : decode prog_21_method_152_code 14 = .ok (.ireturn, 1) := by decide +kernel
theorem d_21_54_9 : decode prog_21_method_54_code 9 = .ok (.ishr, 1) := by decide +kernel
theorem d_21_54_10 : decode prog_21_method_54_code 10 = .ok (.ireturn, 1) := by decide +kernel
theorem d_15_24_9 : decode prog_15_method_24_code 9 = .ok (.if_icmp .ge 21, 3) := by decide +kernel
theorem d_15_24_12 : decode prog_15_method_24_code 12 = .ok (.lload_n 1, 1) := by decide +kernel
theorem d_15_24_13 : decode prog_15_method_24_code 13 = .ok (.bipush 8, 2) := by decide +kernel
theorem d_15_24_15 : decode prog_15_method_24_code 15 = .ok (.lshl, 1) := by decide +kernel
theorem d_15_24_16 : decode prog_15_method_24_code 16 = .ok (.aload_n 0, 1) := by decide +kernel
theorem d_15_24_17 : decode prog_15_method_24_code 17 = .ok (.iload_n 3, 1) := by decide +kernel
theorem d_15_24_18 : decode prog_15_method_24_code 18 = .ok (.invokevirtual 329, 3) := by decide +kernel
theorem d_21_56_0 : decode prog_21_method_56_code 0 = .ok (.aload_n 0, 1) := by decide +kernel
theorem d_21_56_1 : decode prog_21_method_56_code 1 = .ok (.invokevirtual 492, 3) := by decide +kernel
theorem d_21_154_0 : decode prog_21_method_154_code 0 = .ok (.getstatic 38, 3) := by decide +kernel
theorem d_21_154_3 : decode prog_21_method_154_code 3 = .ok (.ifCond .eq 14, 3) := by decide +kernel
theorem d_21_154_6 : decode prog_21_method_154_code 6 = .ok (.aload_n 0, 1) := by decide +kernel
theorem d_21_154_7 : decode prog_21_method_154_code 7 = .ok (.getfield 15, 3) := by decide +kernel
theorem d_21_154_10 : decode prog_21_method_154_code 10 = .ok (.ifCond .ne 7, 3) := by decide +kernel
theorem d_21_154_13 : decode prog_21_method_154_code 13 = .ok (.iconst 1, 1) := by decide +kernel
theorem d_21_154_14 : decode prog_21_method_154_code 14 = .ok (.goto 4, 3) := by decide +kernel
theorem d_21_154_18 : decode prog_21_method_154_code 18 = .ok (.ireturn, 1) := by decide +kernel
theorem d_21_56_4 : decode prog_21_method_56_code 4 = .ok (.ifCond .eq 12, 3) := by decide +kernel
theorem d_21_56_7 : decode prog_21_method_56_code 7 = .ok (.aload_n 0, 1) := by decide +kernel
theorem d_21_56_8 : decode prog_21_method_56_code 8 = .ok (.getfield 9, 3) := by decide +kernel
theorem d_21_56_11 : decode prog_21_method_56_code 11 = .ok (.iload_n 1, 1) := by decide +kernel
theorem d_21_56_12 : decode prog_21_method_56_code 12 = .ok (.invokestatic 495, 3) := by decide +kernel
theorem d_22_2_0 : decode prog_22_method_2_code 0 = .ok (.iload_n 1, 1) := by decide +kernel
theorem d_22_2_1 : decode prog_22_method_2_code 1 = .ok (.aload_n 0, 1) := by decide +kernel
theorem d_22_2_2 : decode prog_22_method_2_code 2 = .ok (.arraylength, 1) := by decide +kernel
theorem d_22_2_3 : decode prog_22_method_2_code 3 = .ok (.invokestatic 9, 3) := by decide +kernel
theorem d_21_155_0 : decode prog_21_method_155_code 0 = .ok (.iload_n 0, 1) := by decide +kernel
theorem d_21_155_1 : decode prog_21_method_155_code 1 = .ok (.iload_n 1, 1) := by decide +kernel
theorem d_21_155_2 : decode prog_21_method_155_code 2 = .ok (.getstatic 1053, 3) := by decide +kernel
theorem d_21_155_5 : decode prog_21_method_155_code 5 = .ok (.invokestatic 1059, 3) := by decide +kernel
theorem d_24_11_0 : decode prog_24_method_11_code 0 = .ok (.iload_n 0, 1) := by decide +kernel
theorem d_24_11_1 : decode prog_24_method_11_code 1 = .ok (.ifCond .lt 8, 3) := by decide +kernel
theorem d_24_11_4 : decode prog_24_method_11_code 4 = .ok (.iload_n 0, 1) := by decide +kernel
theorem d_24_11_5 : decode prog_24_method_11_code 5 = .ok (.iload_n 1, 1) := by decide +kernel
theorem d_24_11_6 : decode prog_24_method_11_code 6 = .ok (.if_icmp .lt 10, 3) := by decide +kernel
theorem d_24_11_16 : decode prog_24_method_11_code 16 = .ok (.iload_n 0, 1) := by decide +kernel
theorem d_24_11_17 : decode prog_24_method_11_code 17 = .ok (.ireturn, 1) := by decide +kernel
theorem d_21_155_8 : decode prog_21_method_155_code 8 = .ok (.pop, 1) := by decide +kernel
theorem d_21_155_9 : decode prog_21_method_155_code 9 = .ok (.return_, 1) := by decide +kernel
theorem d_22_2_6 : decode prog_22_method_2_code 6 = .ok (.aload_n 0, 1) := by decide +kernel
theorem d_22_2_7 : decode prog_22_method_2_code 7 = .ok (.iload_n 1, 1) := by decide +kernel
theorem d_22_2_8 : decode prog_22_method_2_code 8 = .ok (.baload, 1) := by decide +kernel
theorem d_22_2_9 : decode prog_22_method_2_code 9 = .ok (.sipush 255, 3) := by decide +kernel
theorem d_22_2_12 : decode prog_22_method_2_code 12 = .ok (.iand, 1) := by decide +kernel
theorem d_22_2_13 : decode prog_22_method_2_code 13 = .ok (.i2c, 1) := by decide +kernel
theorem d_22_2_14 : decode prog_22_method_2_code 14 = .ok (.ireturn, 1) := by decide +kernel
theorem d_21_56_15 : decode prog_21_method_56_code 15 = .ok (.ireturn, 1) := by decide +kernel
theorem d_15_24_21 : decode prog_15_method_24_code 21 = .ok (.i2l, 1) := by decide +kernel
theorem d_15_24_22 : decode prog_15_method_24_code 22 = .ok (.lor, 1) := by decide +kernel
theorem d_15_24_23 : decode prog_15_method_24_code 23 = .ok (.lstore_n 1, 1) := by decide +kernel
theorem d_15_24_24 : decode prog_15_method_24_code 24 = .ok (.iinc 3 1, 3) := by decide +kernel
theorem d_15_24_27 : decode prog_15_method_24_code 27 = .ok (.goto (-23), 3) := by decide +kernel
theorem d_15_24_30 : decode prog_15_method_24_code 30 = .ok (.lload_n 1, 1) := by decide +kernel
theorem d_15_24_31 : decode prog_15_method_24_code 31 = .ok (.lreturn, 1) := by decide +kernel
abbrev Q_String_coder_0 (D : va_G) (ca : Nat → ClassId)  (A : Nat → Prop) : Array Value → State → Outcome → State → Prop := va_Qi (S := Unit) (fun (r : Int32) (u : Unit) => r = 0) (fun u => gB D ca A []) A
set_option maxHeartbeats 8000000 in
set_option maxRecDepth 100000 in
theorem c_String_coder_0 (l : Launch) (D : va_G) (ca : Nat → ClassId) (ad av : Nat → Nat) (sz : Nat)   : Met l ({ cls := "java/lang/String", name := "coder", desc := "()B" } : Jvm.MethodName) (Cond.code ({ cls := "java/lang/String", name := "coder", desc := "()B" } : Jvm.MethodName) prog_21_method_152_code 1 (Option.some Jvm.ClassFile.FieldType.byte) :: wAll) ({ frames := 0, cells := 0, slots := 0, locals := 0 } : Room) (va_Pc [.ref (ad 1)] (gPre D ca ad av [] sz)) (Q_String_coder_0 D ca  (va_A [] sz)) 0 0 (va_A [] sz) := by
  refine gMet (Qc := Q_String_coder_0 D ca ) (lv := [(0, .ref (ad 1))]) (by decide) (Nat.le_of_ble_eq_true rfl) rfl (fun A p e s m below meth c ls hx hb hr hml hown hts hlk hnm hl hP hK hD hS hA hX => ?_)
  have hown : s.vm.findClass "java/lang/String" = some m.cls := hown
  have hnm : meth.name = "coder" := hnm
  refine va_gets hx hb (hX.2.2.2.1 _ (List.mem_of_getElem? (i := 0) rfl)) hS hown (hts _ k_3_79) (fun _ h => h) d_21_152_0 ?_
  refine lv_if_eq (tgt := 13) hx hb d_21_152_3 (by decide) (fun c => absurd c (by decide)) (fun _ => ?_)
  refine lv_aload_n hx hb d_21_152_6 rfl (lv_at hl 0 rfl) ?_
  refine vk_getf hx hb ((hX.2.2.2.2.1 1 _ rfl).2.1 0 (by decide)).2.1 hS hown (hts _ k_15_171) (fun _ h => h) d_21_152_7 ?_
  refine W.eq (g2 := F0 m 10 ls [.int 0]) rfl ?_
  refine lv_goto (tgt := 14) hx hb d_21_152_10 (by decide) ?_
  have hP9 := hP.sub (ws' := []) [] rfl
  have hD9 := hD.sub (ws' := []) [] (by decide) rfl
  refine W.widen (k := 0) (n := 0) (Nat.le_of_ble_eq_true rfl) (Nat.le_of_ble_eq_true rfl) ?_
  exact W.zret (v := 0) hx hb hr rfl (fun t ht hW => ⟨⟨0, (), rfl, rfl, by rw [ht]; exact hP9, va_K.moved hW.alike hK, hD9⟩, hS.F ht⟩) hS.2.2 d_21_152_14
abbrev Q_String_length_0 (D : va_G) (ca : Nat → ClassId)  (A : Nat → Prop) : Array Value → State → Outcome → State → Prop := va_Qi (S := Unit) (fun (r : Int32) (u : Unit) => r = 6) (fun u => gB D ca A []) A
set_option maxHeartbeats 8000000 in
set_option maxRecDepth 100000 in
theorem c_String_length_0 (l : Launch) (D : va_G) (ca : Nat → ClassId) (ad av : Nat → Nat) (sz : Nat)   : Met l ({ cls := "java/lang/String", name := "length", desc := "()I" } : Jvm.MethodName) (Cond.code ({ cls := "java/lang/String", name := "length", desc := "()I" } : Jvm.MethodName) prog_21_method_54_code 1 (Option.some Jvm.ClassFile.FieldType.int) :: wAll) ({ frames := 1, cells := 0, slots := 0, locals := 20 } : Room) (va_Pc [.ref (ad 1)] (gPre D ca ad av [] sz)) (Q_String_length_0 D ca  (va_A [] sz)) 0 0 (va_A [] sz) := by
  refine gMet (Qc := Q_String_length_0 D ca ) (lv := [(0, .ref (ad 1))]) (by decide) (Nat.le_of_ble_eq_true rfl) rfl (fun A p e s m below meth c ls hx hb hr hml hown hts hlk hnm hl hP hK hD hS hA hX => ?_)
  have hown : s.vm.findClass "java/lang/String" = some m.cls := hown
  have hnm : meth.name = "length" := hnm
  refine lv_aload_n hx hb d_21_54_0 rfl (lv_at hl 0 rfl) ?_
  refine vk_getf hx hb ((hX.2.2.2.2.1 1 _ rfl).2.1 0 (by decide)).2.2.1 hS hown (hts _ k_15_170) (fun _ h => h) d_21_54_1 ?_
  refine W.eq (g2 := F0 m 4 ls [.ref (av 1)]) rfl ?_
  refine va_tlen (v := 6) hx hb ((hX.2.2.2.2.1 1 _ rfl).2.1 0 (by decide)).2.2.2 hS (by decide) d_21_54_4 ?_
  refine lv_aload_n hx hb d_21_54_5 rfl (lv_at hl 0 rfl) ?_
  have hFc1 := va_free (wc := []) hD hS hA [] rfl
  refine va_calli (va_runV (As := []) (rest := [.int 6]) ⟨hx, hb, hml, hown, hts⟩ (c_String_coder_0 l D ca ad av s.heap.size  ) (cwV 0 hts (gdV k_3_85 k_3_86 k_3_87 k_1_11 k_3_88) rfl rfl rfl (by decide +kernel) ⟨Nat.le_of_ble_eq_true rfl, Nat.le_of_ble_eq_true rfl⟩) ⟨gBlind, vk_recv (i := 0) (hX.2.2.2.2.1 1 _ rfl).2 (by decide) hS, gAt hP hD hK hS hA hX [] (by decide) rfl [.ref (ad 1)]⟩ rfl rfl hl.1 rfl (lv_room (Nat.le_of_ble_eq_true rfl)) d_21_54_6 ⟨Nat.le_of_ble_eq_true rfl, Nat.le_of_ble_eq_true rfl⟩) hS (fun q _ h => hFc1 q h) hFc1 (fun r1 u1 t1 H1 locs1 ht1 hvm1 hw1 hB1 hz1 hk1 hS1 => ?_)
  have hr1 := hw1
  obtain ⟨hP1, hD1⟩ := gJoin (wr := []) (w1 := []) hP hD [] [] rfl rfl (by decide) (by decide) hk1 hFc1 ht1 hB1
  have hP1 : va_P D cls [] H1 := hP1
  have hD1 : va_D A [] := hD1
  refine W.widen (k := 0) (n := 0) (Nat.le_of_ble_eq_true rfl) (Nat.le_of_ble_eq_true rfl) ?_
  subst hr1
  refine lv_ishr hx hb d_21_54_9 ?_
  refine lv_topi (fun y2 ey2 => ?_)
  obtain rfl : y2 = 6 := ey2.trans (by decide)
  have hP9 := hP1.sub (ws' := []) [] rfl
  have hD9 := hD1.sub (ws' := []) [] (by decide) rfl
  refine W.widen (k := 0) (n := 0) (Nat.le_of_ble_eq_true rfl) (Nat.le_of_ble_eq_true rfl) ?_
  exact W.iret (v := 6) hx hb hr (fun t ht hW => ⟨⟨6, (), rfl, rfl, by rw [ht]; exact hP9, va_K.moved hW.alike hK, hD9⟩, hS1.F ht⟩) hS1.2.2 d_21_54_10
abbrev Q_String_isLatin1_0 (D : va_G) (ca : Nat → ClassId)  (A : Nat → Prop) : Array Value → State → Outcome → State → Prop := va_Qi (S := Unit) (fun (r : Int32) (u : Unit) => r = 1) (fun u => gB D ca A []) A
set_option maxHeartbeats 8000000 in
set_option maxRecDepth 100000 in
theorem c_String_isLatin1_0 (l : Launch) (D : va_G) (ca : Nat → ClassId) (ad av : Nat → Nat) (sz : Nat)   : Met l ({ cls := "java/lang/String", name := "isLatin1", desc := "()Z" } : Jvm.MethodName) (Cond.code ({ cls := "java/lang/String", name := "isLatin1", desc := "()Z" } : Jvm.MethodName) prog_21_method_154_code 1 (Option.some Jvm.ClassFile.FieldType.boolean) :: wAll) ({ frames := 0, cells := 0, slots := 0, locals := 0 } : Room) (va_Pc [.ref (ad 1)] (gPre D ca ad av [] sz)) (Q_String_isLatin1_0 D ca  (va_A [] sz)) 0 0 (va_A [] sz) := by
  refine gMet (Qc := Q_String_isLatin1_0 D ca ) (lv := [(0, .ref (ad 1))]) (by decide) (Nat.le_of_ble_eq_true rfl) rfl (fun A p e s m below meth c ls hx hb hr hml hown hts hlk hnm hl hP hK hD hS hA hX => ?_)
  have hown : s.vm.findClass "java/lang/String" = some m.cls := hown
  have hnm : meth.name = "isLatin1" := hnm
  refine va_gets hx hb (hX.2.2.2.1 _ (List.mem_of_getElem? (i := 0) rfl)) hS hown (hts _ k_3_79) (fun _ h => h) d_21_154_0 ?_
  refine lv_if_eq (tgt := 17) hx hb d_21_154_3 (by decide) (fun c => absurd c (by decide)) (fun _ => ?_)
  refine lv_aload_n hx hb d_21_154_6 rfl (lv_at hl 0 rfl) ?_
  refine vk_getf hx hb ((hX.2.2.2.2.1 1 _ rfl).2.1 0 (by decide)).2.1 hS hown (hts _ k_15_171) (fun _ h => h) d_21_154_7 ?_
  refine W.eq (g2 := F0 m 10 ls [.int 0]) rfl ?_
  refine lv_if_ne (tgt := 17) hx hb d_21_154_10 (by decide) (fun c => absurd c (by decide)) (fun _ => ?_)
  refine lv_iconst (v := 1) hx hb d_21_154_13 (by decide) ?_
  refine lv_goto (tgt := 18) hx hb d_21_154_14 (by decide) ?_
  have hP9 := hP.sub (ws' := []) [] rfl
  have hD9 := hD.sub (ws' := []) [] (by decide) rfl
  refine W.widen (k := 0) (n := 0) (Nat.le_of_ble_eq_true rfl) (Nat.le_of_ble_eq_true rfl) ?_
  exact W.zret (v := 1) hx hb hr rfl (fun t ht hW => ⟨⟨1, (), rfl, rfl, by rw [ht]; exact hP9, va_K.moved hW.alike hK, hD9⟩, hS.F ht⟩) hS.2.2 d_21_154_18
abbrev Q_Preconditions_checkIndex_0 (D : va_G) (ca : Nat → ClassId)  (A : Nat → Prop) : Array Value → State → Outcome → State → Prop := va_Qi (S := Unit) (fun (r : Int32) (u : Unit) => r = 0) (fun u => gB D ca A []) A
set_option maxHeartbeats 8000000 in
set_option maxRecDepth 100000 in
theorem c_Preconditions_checkIndex_0 (l : Launch) (D : va_G) (ca : Nat → ClassId) (ad av : Nat → Nat) (sz : Nat)   : Met l ({ cls := "jdk/internal/util/Preconditions", name := "checkIndex", desc := "(IILjava/util/function/BiFunction;)I" } : Jvm.MethodName) (Cond.code ({ cls := "jdk/internal/util/Preconditions", name := "checkIndex", desc := "(IILjava/util/function/BiFunction;)I" } : Jvm.MethodName) prog_24_method_11_code 3 (Option.some Jvm.ClassFile.FieldType.int) :: wAll) ({ frames := 0, cells := 0, slots := 0, locals := 0 } : Room) (va_Pc [.int 0, .int 6, .null] (gPre D ca ad av [] sz)) (Q_Preconditions_checkIndex_0 D ca  (va_A [] sz)) 0 0 (va_A [] sz) := by
  refine gMet (Qc := Q_Preconditions_checkIndex_0 D ca ) (lv := [(0, .int 0), (1, .int 6), (2, .null)]) (by decide) (Nat.le_of_ble_eq_true rfl) rfl (fun A p e s m below meth c ls hx hb hr hml hown hts hlk hnm hl hP hK hD hS hA hX => ?_)
  have hown : s.vm.findClass "jdk/internal/util/Preconditions" = some m.cls := hown
  have hnm : meth.name = "checkIndex" := hnm
  refine lv_iload_n hx hb d_24_11_0 rfl (lv_at hl 0 rfl) ?_
  refine lv_if_lt (tgt := 9) hx hb d_24_11_1 (by decide) (fun c => absurd c (by decide)) (fun _ => ?_)
  refine lv_iload_n hx hb d_24_11_4 rfl (lv_at hl 0 rfl) ?_
  refine lv_iload_n hx hb d_24_11_5 rfl (lv_at hl 1 rfl) ?_
  refine lv_icmp_lt (tgt := 16) hx hb d_24_11_6 (by decide) (fun _ => ?_) (fun c => absurd (by decide) c)
  refine lv_iload_n hx hb d_24_11_16 rfl (lv_at hl 0 rfl) ?_
  have hP9 := hP.sub (ws' := []) [] rfl
  have hD9 := hD.sub (ws' := []) [] (by decide) rfl
  refine W.widen (k := 0) (n := 0) (Nat.le_of_ble_eq_true rfl) (Nat.le_of_ble_eq_true rfl) ?_
  exact W.iret (v := 0) hx hb hr (fun t ht hW => ⟨⟨0, (), rfl, rfl, by rw [ht]; exact hP9, va_K.moved hW.alike hK, hD9⟩, hS.F ht⟩) hS.2.2 d_24_11_17
abbrev Q_Preconditions_checkIndex_1 (D : va_G) (ca : Nat → ClassId) (r0 : Nat) (A : Nat → Prop) : Array Value → State → Outcome → State → Prop := va_Qi (S := Unit) (fun (r : Int32) (u : Unit) => r = 0) (fun u => gB D ca A []) A
set_option maxHeartbeats 8000000 in
set_option maxRecDepth 100000 in
theorem c_Preconditions_checkIndex_1 (l : Launch) (D : va_G) (ca : Nat → ClassId) (ad av : Nat → Nat) (sz : Nat) (r0 : Nat)  : Met l ({ cls := "jdk/internal/util/Preconditions", name := "checkIndex", desc := "(IILjava/util/function/BiFunction;)I" } : Jvm.MethodName) (Cond.code ({ cls := "jdk/internal/util/Preconditions", name := "checkIndex", desc := "(IILjava/util/function/BiFunction;)I" } : Jvm.MethodName) prog_24_method_11_code 3 (Option.some Jvm.ClassFile.FieldType.int) :: wAll) ({ frames := 0, cells := 0, slots := 0, locals := 0 } : Room) (va_Pc [.int 0, .int 6, .ref r0] (gPre D ca ad av [] sz)) (Q_Preconditions_checkIndex_1 D ca r0 (va_A [] sz)) 0 0 (va_A [] sz) := by
  refine gMet (Qc := Q_Preconditions_checkIndex_1 D ca r0) (lv := [(0, .int 0), (1, .int 6), (2, .ref r0)]) (by decide) (Nat.le_of_ble_eq_true rfl) rfl (fun A p e s m below meth c ls hx hb hr hml hown hts hlk hnm hl hP hK hD hS hA hX => ?_)
  have hown : s.vm.findClass "jdk/internal/util/Preconditions" = some m.cls := hown
  have hnm : meth.name = "checkIndex" := hnm
  refine lv_iload_n hx hb d_24_11_0 rfl (lv_at hl 0 rfl) ?_
  refine lv_if_lt (tgt := 9) hx hb d_24_11_1 (by decide) (fun c => absurd c (by decide)) (fun _ => ?_)
  refine lv_iload_n hx hb d_24_11_4 rfl (lv_at hl 0 rfl) ?_
  refine lv_iload_n hx hb d_24_11_5 rfl (lv_at hl 1 rfl) ?_
  refine lv_icmp_lt (tgt := 16) hx hb d_24_11_6 (by decide) (fun _ => ?_) (fun c => absurd (by decide) c)
  refine lv_iload_n hx hb d_24_11_16 rfl (lv_at hl 0 rfl) ?_
  have hP9 := hP.sub (ws' := []) [] rfl
  have hD9 := hD.sub (ws' := []) [] (by decide) rfl
  refine W.widen (k := 0) (n := 0) (Nat.le_of_ble_eq_true rfl) (Nat.le_of_ble_eq_true rfl) ?_
  exact W.iret (v := 0) hx hb hr (fun t ht hW => ⟨⟨0, (), rfl, rfl, by rw [ht]; exact hP9, va_K.moved hW.alike hK, hD9⟩, hS.F ht⟩) hS.2.2 d_24_11_17
abbrev Q_String_checkIndex_0 (D : va_G) (ca : Nat → ClassId)  (A : Nat → Prop) : Array Value → State → Outcome → State → Prop := va_Qv (S := Unit) (fun (u : Unit) => True) (fun u => gB D ca A []) A
set_option maxHeartbeats 8000000 in
set_option maxRecDepth 100000 in
theorem c_String_checkIndex_0 (l : Launch) (D : va_G) (ca : Nat → ClassId) (ad av : Nat → Nat) (sz : Nat)   : Met l ({ cls := "java/lang/String", name := "checkIndex", desc := "(II)V" } : Jvm.MethodName) (Cond.code ({ cls := "java/lang/String", name := "checkIndex", desc := "(II)V" } : Jvm.MethodName) prog_21_method_155_code 2 (Option.none : Option Jvm.ClassFile.FieldType) :: wAll) ({ frames := 1, cells := 0, slots := 0, locals := 22 } : Room) (va_Pc [.int 0, .int 6] (gPre D ca ad av [] sz)) (Q_String_checkIndex_0 D ca  (va_A [] sz)) 0 0 (va_A [] sz) := by
  refine gMet (Qc := Q_String_checkIndex_0 D ca ) (lv := [(0, .int 0), (1, .int 6)]) (by decide) (Nat.le_of_ble_eq_true rfl) rfl (fun A p e s m below meth c ls hx hb hr hml hown hts hlk hnm hl hP hK hD hS hA hX => ?_)
  have hown : s.vm.findClass "java/lang/String" = some m.cls := hown
  have hnm : meth.name = "checkIndex" := hnm
  refine lv_iload_n hx hb d_21_155_0 rfl (lv_at hl 0 rfl) ?_
  refine lv_iload_n hx hb d_21_155_1 rfl (lv_at hl 1 rfl) ?_
  rcases hX.2.2.2.2.2 with hz1 | ⟨tz1, hz1⟩
  · refine va_gets hx hb hz1 hS hown (hts _ k_3_120) (fun _ h => h) d_21_155_2 ?_
    have hFc2 := va_free (wc := []) hD hS hA [] rfl
    refine va_calli (va_runS (As := [.int 0, .int 6, .null]) (rest := []) ⟨hx, hb, hml, hown, hts⟩ (c_Preconditions_checkIndex_0 l D ca ad av s.heap.size  ) (va_cwS 3 hts (gdS k_7_143 k_7_144 k_1_13 k_7_145) rfl rfl rfl (by decide +kernel) ⟨Nat.le_of_ble_eq_true rfl, Nat.le_of_ble_eq_true rfl⟩) (gPS hP hD hK hS hA hX [] (by decide) rfl [.int 0, .int 6, .null]) rfl rfl hl.1 rfl (lv_room (Nat.le_of_ble_eq_true rfl)) d_21_155_5 ⟨Nat.le_of_ble_eq_true rfl, Nat.le_of_ble_eq_true rfl⟩) hS (fun q _ h => hFc2 q h) hFc2 (fun r2 u2 t2 H2 locs2 ht2 hvm2 hw2 hB2 hz2 hk2 hS2 => ?_)
    have hr2 := hw2
    obtain ⟨hP2, hD2⟩ := gJoin (wr := []) (w1 := []) hP hD [] [] rfl rfl (by decide) (by decide) hk2 hFc2 ht2 hB2
    have hP2 : va_P D cls [] H2 := hP2
    have hD2 : va_D A [] := hD2
    refine W.widen (k := 0) (n := 0) (Nat.le_of_ble_eq_true rfl) (Nat.le_of_ble_eq_true rfl) ?_
    subst hr2
    refine lv_pop hx hb d_21_155_8 rfl ?_
    have hP9 := hP2.sub (ws' := []) [] rfl
    have hD9 := hD2.sub (ws' := []) [] (by decide) rfl
    refine W.widen (k := 0) (n := 0) (Nat.le_of_ble_eq_true rfl) (Nat.le_of_ble_eq_true rfl) ?_
    exact W.vret hx hb hr (fun t ht hW => ⟨⟨(), rfl, trivial, by rw [ht]; exact hP9, va_K.moved hW.alike hK, hD9⟩, hS2.F ht⟩) hS2.2.2 d_21_155_9
  · refine va_gets hx hb hz1 hS hown (hts _ k_3_120) (fun _ h => h) d_21_155_2 ?_
    have hFc3 := va_free (wc := []) hD hS hA [] rfl
    refine va_calli (va_runS (As := [.int 0, .int 6, .ref tz1]) (rest := []) ⟨hx, hb, hml, hown, hts⟩ (c_Preconditions_checkIndex_1 l D ca ad av s.heap.size tz1 ) (va_cwS 3 hts (gdS k_7_143 k_7_144 k_1_13 k_7_145) rfl rfl rfl (by decide +kernel) ⟨Nat.le_of_ble_eq_true rfl, Nat.le_of_ble_eq_true rfl⟩) (gPS hP hD hK hS hA hX [] (by decide) rfl [.int 0, .int 6, .ref tz1]) rfl rfl hl.1 rfl (lv_room (Nat.le_of_ble_eq_true rfl)) d_21_155_5 ⟨Nat.le_of_ble_eq_true rfl, Nat.le_of_ble_eq_true rfl⟩) hS (fun q _ h => hFc3 q h) hFc3 (fun r3 u3 t3 H3 locs3 ht3 hvm3 hw3 hB3 hz3 hk3 hS3 => ?_)
    have hr3 := hw3
    obtain ⟨hP3, hD3⟩ := gJoin (wr := []) (w1 := []) hP hD [] [] rfl rfl (by decide) (by decide) hk3 hFc3 ht3 hB3
    have hP3 : va_P D cls [] H3 := hP3
    have hD3 : va_D A [] := hD3
    refine W.widen (k := 0) (n := 0) (Nat.le_of_ble_eq_true rfl) (Nat.le_of_ble_eq_true rfl) ?_
    subst hr3
    refine lv_pop hx hb d_21_155_8 rfl ?_
    have hP9 := hP3.sub (ws' := []) [] rfl
    have hD9 := hD3.sub (ws' := []) [] (by decide) rfl
    refine W.widen (k := 0) (n := 0) (Nat.le_of_ble_eq_true rfl) (Nat.le_of_ble_eq_true rfl) ?_
    exact W.vret hx hb hr (fun t ht hW => ⟨⟨(), rfl, trivial, by rw [ht]; exact hP9, va_K.moved hW.alike hK, hD9⟩, hS3.F ht⟩) hS3.2.2 d_21_155_9
abbrev Q_StringLatin1_charAt_0 (D : va_G) (ca : Nat → ClassId)  (A : Nat → Prop) : Array Value → State → Outcome → State → Prop := va_Qi (S := Unit) (fun (r : Int32) (u : Unit) => r = 116) (fun u => gB D ca A []) A
set_option maxHeartbeats 8000000 in
set_option maxRecDepth 100000 in
theorem c_StringLatin1_charAt_0 (l : Launch) (D : va_G) (ca : Nat → ClassId) (ad av : Nat → Nat) (sz : Nat)   : Met l ({ cls := "java/lang/StringLatin1", name := "charAt", desc := "([BI)C" } : Jvm.MethodName) (Cond.code ({ cls := "java/lang/StringLatin1", name := "charAt", desc := "([BI)C" } : Jvm.MethodName) prog_22_method_2_code 2 (Option.some Jvm.ClassFile.FieldType.char) :: wAll) ({ frames := 2, cells := 0, slots := 0, locals := 43 } : Room) (va_Pc [.ref (av 1), .int 0] (gPre D ca ad av [] sz)) (Q_StringLatin1_charAt_0 D ca  (va_A [] sz)) 0 0 (va_A [] sz) := by
  refine gMet (Qc := Q_StringLatin1_charAt_0 D ca ) (lv := [(0, .ref (av 1)), (1, .int 0)]) (by decide) (Nat.le_of_ble_eq_true rfl) rfl (fun A p e s m below meth c ls hx hb hr hml hown hts hlk hnm hl hP hK hD hS hA hX => ?_)
  have hown : s.vm.findClass "java/lang/StringLatin1" = some m.cls := hown
  have hnm : meth.name = "charAt" := hnm
  refine lv_iload_n hx hb d_22_2_0 rfl (lv_at hl 1 rfl) ?_
  refine lv_aload_n hx hb d_22_2_1 rfl (lv_at hl 0 rfl) ?_
  refine va_tlen (v := 6) hx hb ((hX.2.2.2.2.1 1 _ rfl).2.1 0 (by decide)).2.2.2 hS (by decide) d_22_2_2 ?_
  have hFc1 := va_free (wc := []) hD hS hA [] rfl
  refine va_callv (va_runS (As := [.int 0, .int 6]) (rest := []) ⟨hx, hb, hml, hown, hts⟩ (c_String_checkIndex_0 l D ca ad av s.heap.size  ) (va_cwS 2 hts (gdS k_7_140 k_7_141 k_1_11 k_7_142) rfl rfl rfl (by decide +kernel) ⟨Nat.le_of_ble_eq_true rfl, Nat.le_of_ble_eq_true rfl⟩) (gPS hP hD hK hS hA hX [] (by decide) rfl [.int 0, .int 6]) rfl rfl hl.1 rfl (lv_room (Nat.le_of_ble_eq_true rfl)) d_22_2_3 ⟨Nat.le_of_ble_eq_true rfl, Nat.le_of_ble_eq_true rfl⟩) hS (fun q _ h => hFc1 q h) hFc1 (fun u1 t1 H1 locs1 ht1 hvm1 hw1 hB1 hz1 hk1 hS1 => ?_)
  obtain ⟨hP1, hD1⟩ := gJoin (wr := []) (w1 := []) hP hD [] [] rfl rfl (by decide) (by decide) hk1 hFc1 ht1 hB1
  have hP1 : va_P D cls [] H1 := hP1
  have hD1 : va_D A [] := hD1
  refine W.widen (k := 0) (n := 0) (Nat.le_of_ble_eq_true rfl) (Nat.le_of_ble_eq_true rfl) ?_
  refine lv_aload_n hx hb d_22_2_6 rfl (lv_at hl 0 rfl) ?_
  refine lv_iload_n hx hb d_22_2_7 rfl (lv_at hl 1 rfl) ?_
  refine va_tb (v := .int 116) hx hb ((hX.2.2.2.2.1 1 _ rfl).2.1 0 (by decide)).2.2.2 hS1 (vinC (by decide)) rfl d_22_2_8 ?_
  refine lv_sipush (v := 255) hx hb d_22_2_9 (by decide) ?_
  refine lv_iand hx hb d_22_2_12 ?_
  refine lv_topi (fun y2 ey2 => ?_)
  obtain rfl : y2 = 116 := ey2.trans (by decide)
  refine lv_i2c hx hb d_22_2_13 rfl ?_
  refine lv_topi (fun y3 ey3 => ?_)
  obtain rfl : y3 = 116 := ey3.trans (by decide)
  have hP9 := hP1.sub (ws' := []) [] rfl
  have hD9 := hD1.sub (ws' := []) [] (by decide) rfl
  refine W.widen (k := 0) (n := 0) (Nat.le_of_ble_eq_true rfl) (Nat.le_of_ble_eq_true rfl) ?_
  exact W.zret (v := 116) hx hb hr rfl (fun t ht hW => ⟨⟨116, (), rfl, rfl, by rw [ht]; exact hP9, va_K.moved hW.alike hK, hD9⟩, hS1.F ht⟩) hS1.2.2 d_22_2_14
abbrev Q_String_charAt_0 (D : va_G) (ca : Nat → ClassId)  (A : Nat → Prop) : Array Value → State → Outcome → State → Prop := va_Qi (S := Unit) (fun (r : Int32) (u : Unit) => r = 116) (fun u => gB D ca A []) A
set_option maxHeartbeats 8000000 in
set_option maxRecDepth 100000 in
theorem c_String_charAt_0 (l : Launch) (D : va_G) (ca : Nat → ClassId) (ad av : Nat → Nat) (sz : Nat)   : Met l ({ cls := "java/lang/String", name := "charAt", desc := "(I)C" } : Jvm.MethodName) (Cond.code ({ cls := "java/lang/String", name := "charAt", desc := "(I)C" } : Jvm.MethodName) prog_21_method_56_code 2 (Option.some Jvm.ClassFile.FieldType.char) :: wAll) ({ frames := 3, cells := 0, slots := 0, locals := 64 } : Room) (va_Pc [.ref (ad 1), .int 0] (gPre D ca ad av [] sz)) (Q_String_charAt_0 D ca  (va_A [] sz)) 0 0 (va_A [] sz) := by
  refine gMet (Qc := Q_String_charAt_0 D ca ) (lv := [(0, .ref (ad 1)), (1, .int 0)]) (by decide) (Nat.le_of_ble_eq_true rfl) rfl (fun A p e s m below meth c ls hx hb hr hml hown hts hlk hnm hl hP hK hD hS hA hX => ?_)
  have hown : s.vm.findClass "java/lang/String" = some m.cls := hown
  have hnm : meth.name = "charAt" := hnm
  refine lv_aload_n hx hb d_21_56_0 rfl (lv_at hl 0 rfl) ?_
  have hFc1 := va_free (wc := []) hD hS hA [] rfl
  refine va_calli (va_runV (As := []) (rest := []) ⟨hx, hb, hml, hown, hts⟩ (c_String_isLatin1_0 l D ca ad av s.heap.size  ) (cwV 0 hts (gdV k_3_75 k_3_76 k_3_77 k_1_11 k_3_78) rfl rfl rfl (by decide +kernel) ⟨Nat.le_of_ble_eq_true rfl, Nat.le_of_ble_eq_true rfl⟩) ⟨gBlind, vk_recv (i := 0) (hX.2.2.2.2.1 1 _ rfl).2 (by decide) hS, gAt hP hD hK hS hA hX [] (by decide) rfl [.ref (ad 1)]⟩ rfl rfl hl.1 rfl (lv_room (Nat.le_of_ble_eq_true rfl)) d_21_56_1 ⟨Nat.le_of_ble_eq_true rfl, Nat.le_of_ble_eq_true rfl⟩) hS (fun q _ h => hFc1 q h) hFc1 (fun r1 u1 t1 H1 locs1 ht1 hvm1 hw1 hB1 hz1 hk1 hS1 => ?_)
  have hr1 := hw1
  obtain ⟨hP1, hD1⟩ := gJoin (wr := []) (w1 := []) hP hD [] [] rfl rfl (by decide) (by decide) hk1 hFc1 ht1 hB1
  have hP1 : va_P D cls [] H1 := hP1
  have hD1 : va_D A [] := hD1
  refine W.widen (k := 0) (n := 0) (Nat.le_of_ble_eq_true rfl) (Nat.le_of_ble_eq_true rfl) ?_
  subst hr1
  refine lv_if_eq (tgt := 16) hx hb d_21_56_4 (by decide) (fun c => absurd c (by decide)) (fun _ => ?_)
  refine lv_aload_n hx hb d_21_56_7 rfl (lv_at hl 0 rfl) ?_
  refine vk_getf hx hb ((hX.2.2.2.2.1 1 _ rfl).2.1 0 (by decide)).2.2.1 hS1 hown (hts _ k_15_170) (fun _ h => h) d_21_56_8 ?_
  refine W.eq (g2 := F0 m 11 ls [.ref (av 1)]) rfl ?_
  refine lv_iload_n hx hb d_21_56_11 rfl (lv_at hl 1 rfl) ?_
  have hFc2 := va_free (wc := []) hD1 hS1 hA [] rfl
  refine va_calli (va_runS (As := [.ref (av 1), .int 0]) (rest := []) ⟨hx, hb, hml, hown, hts⟩ (c_StringLatin1_charAt_0 l D ca ad av H1.size  ) (va_cwS 2 hts (gdS k_7_137 k_7_138 k_1_12 k_7_139) rfl rfl rfl (by decide +kernel) ⟨Nat.le_of_ble_eq_true rfl, Nat.le_of_ble_eq_true rfl⟩) (gPS hP1 hD1 hK hS1 hA hX [] (by decide) rfl [.ref (av 1), .int 0]) rfl rfl hl.1 rfl (lv_room (Nat.le_of_ble_eq_true rfl)) d_21_56_12 ⟨Nat.le_of_ble_eq_true rfl, Nat.le_of_ble_eq_true rfl⟩) hS1 (fun q _ h => hFc2 q h) hFc2 (fun r2 u2 t2 H2 locs2 ht2 hvm2 hw2 hB2 hz2 hk2 hS2 => ?_)
  have hr2 := hw2
  obtain ⟨hP2, hD2⟩ := gJoin (wr := []) (w1 := []) hP1 hD1 [] [] rfl rfl (by decide) (by decide) hk2 hFc2 ht2 hB2
  have hP2 : va_P D cls [] H2 := hP2
  have hD2 : va_D A [] := hD2
  refine W.widen (k := 0) (n := 0) (Nat.le_of_ble_eq_true rfl) (Nat.le_of_ble_eq_true rfl) ?_
  subst hr2
  have hP9 := hP2.sub (ws' := []) [] rfl
  have hD9 := hD2.sub (ws' := []) [] (by decide) rfl
  refine W.widen (k := 0) (n := 0) (Nat.le_of_ble_eq_true rfl) (Nat.le_of_ble_eq_true rfl) ?_
  exact W.zret (v := 116) hx hb hr rfl (fun t ht hW => ⟨⟨116, (), rfl, rfl, by rw [ht]; exact hP9, va_K.moved hW.alike hK, hD9⟩, hS2.F ht⟩) hS2.2.2 d_21_56_15
abbrev Q_Preconditions_checkIndex_2 (D : va_G) (ca : Nat → ClassId)  (A : Nat → Prop) : Array Value → State → Outcome → State → Prop := va_Qi (S := Unit) (fun (r : Int32) (u : Unit) => r = 1) (fun u => gB D ca A []) A
set_option maxHeartbeats 8000000 in
set_option maxRecDepth 100000 in
theorem c_Preconditions_checkIndex_2 (l : Launch) (D : va_G) (ca : Nat → ClassId) (ad av : Nat → Nat) (sz : Nat)   : Met l ({ cls := "jdk/internal/util/Preconditions", name := "checkIndex", desc := "(IILjava/util/function/BiFunction;)I" } : Jvm.MethodName) (Cond.code ({ cls := "jdk/internal/util/Preconditions", name := "checkIndex", desc := "(IILjava/util/function/BiFunction;)I" } : Jvm.MethodName) prog_24_method_11_code 3 (Option.some Jvm.ClassFile.FieldType.int) :: wAll) ({ frames := 0, cells := 0, slots := 0, locals := 0 } : Room) (va_Pc [.int 1, .int 6, .null] (gPre D ca ad av [] sz)) (Q_Preconditions_checkIndex_2 D ca  (va_A [] sz)) 0 0 (va_A [] sz) := by
  refine gMet (Qc := Q_Preconditions_checkIndex_2 D ca ) (lv := [(0, .int 1), (1, .int 6), (2, .null)]) (by decide) (Nat.le_of_ble_eq_true rfl) rfl (fun A p e s m below meth c ls hx hb hr hml hown hts hlk hnm hl hP hK hD hS hA hX => ?_)
  have hown : s.vm.findClass "jdk/internal/util/Preconditions" = some m.cls := hown
  have hnm : meth.name = "checkIndex" := hnm
  refine lv_iload_n hx hb d_24_11_0 rfl (lv_at hl 0 rfl) ?_
  refine lv_if_lt (tgt := 9) hx hb d_24_11_1 (by decide) (fun c => absurd c (by decide)) (fun _ => ?_)
  refine lv_iload_n hx hb d_24_11_4 rfl (lv_at hl 0 rfl) ?_
  refine lv_iload_n hx hb d_24_11_5 rfl (lv_at hl 1 rfl) ?_
  refine lv_icmp_lt (tgt := 16) hx hb d_24_11_6 (by decide) (fun _ => ?_) (fun c => absurd (by decide) c)
  refine lv_iload_n hx hb d_24_11_16 rfl (lv_at hl 0 rfl) ?_
  have hP9 := hP.sub (ws' := []) [] rfl
  have hD9 := hD.sub (ws' := []) [] (by decide) rfl
  refine W.widen (k := 0) (n := 0) (Nat.le_of_ble_eq_true rfl) (Nat.le_of_ble_eq_true rfl) ?_
  exact W.iret (v := 1) hx hb hr (fun t ht hW => ⟨⟨1, (), rfl, rfl, by rw [ht]; exact hP9, va_K.moved hW.alike hK, hD9⟩, hS.F ht⟩) hS.2.2 d_24_11_17
abbrev Q_Preconditions_checkIndex_3 (D : va_G) (ca : Nat → ClassId) (r0 : Nat) (A : Nat → Prop) : Array Value → State → Outcome → State → Prop := va_Qi (S := Unit) (fun (r : Int32) (u : Unit) => r = 1) (fun u => gB D ca A []) A
set_option maxHeartbeats 8000000 in
set_option maxRecDepth 100000 in
theorem c_Preconditions_checkIndex_3 (l : Launch) (D : va_G) (ca : Nat → ClassId) (ad av : Nat → Nat) (sz : Nat) (r0 : Nat)  : Met l ({ cls := "jdk/internal/util/Preconditions", name := "checkIndex", desc := "(IILjava/util/function/BiFunction;)I" } : Jvm.MethodName) (Cond.code ({ cls := "jdk/internal/util/Preconditions", name := "checkIndex", desc := "(IILjava/util/function/BiFunction;)I" } : Jvm.MethodName) prog_24_method_11_code 3 (Option.some Jvm.ClassFile.FieldType.int) :: wAll) ({ frames := 0, cells := 0, slots := 0, locals := 0 } : Room) (va_Pc [.int 1, .int 6, .ref r0] (gPre D ca ad av [] sz)) (Q_Preconditions_checkIndex_3 D ca r0 (va_A [] sz)) 0 0 (va_A [] sz) := by
  refine gMet (Qc := Q_Preconditions_checkIndex_3 D ca r0) (lv := [(0, .int 1), (1, .int 6), (2, .ref r0)]) (by decide) (Nat.le_of_ble_eq_true rfl) rfl (fun A p e s m below meth c ls hx hb hr hml hown hts hlk hnm hl hP hK hD hS hA hX => ?_)
  have hown : s.vm.findClass "jdk/internal/util/Preconditions" = some m.cls := hown
  have hnm : meth.name = "checkIndex" := hnm
  refine lv_iload_n hx hb d_24_11_0 rfl (lv_at hl 0 rfl) ?_
  refine lv_if_lt (tgt := 9) hx hb d_24_11_1 (by decide) (fun c => absurd c (by decide)) (fun _ => ?_)
  refine lv_iload_n hx hb d_24_11_4 rfl (lv_at hl 0 rfl) ?_
  refine lv_iload_n hx hb d_24_11_5 rfl (lv_at hl 1 rfl) ?_
  refine lv_icmp_lt (tgt := 16) hx hb d_24_11_6 (by decide) (fun _ => ?_) (fun c => absurd (by decide) c)
  refine lv_iload_n hx hb d_24_11_16 rfl (lv_at hl 0 rfl) ?_
  have hP9 := hP.sub (ws' := []) [] rfl
  have hD9 := hD.sub (ws' := []) [] (by decide) rfl
  refine W.widen (k := 0) (n := 0) (Nat.le_of_ble_eq_true rfl) (Nat.le_of_ble_eq_true rfl) ?_
  exact W.iret (v := 1) hx hb hr (fun t ht hW => ⟨⟨1, (), rfl, rfl, by rw [ht]; exact hP9, va_K.moved hW.alike hK, hD9⟩, hS.F ht⟩) hS.2.2 d_24_11_17
abbrev Q_String_checkIndex_1 (D : va_G) (ca : Nat → ClassId)  (A : Nat → Prop) : Array Value → State → Outcome → State → Prop := va_Qv (S := Unit) (fun (u : Unit) => True) (fun u => gB D ca A []) A
set_option maxHeartbeats 8000000 in
set_option maxRecDepth 100000 in
theorem c_String_checkIndex_1 (l : Launch) (D : va_G) (ca : Nat → ClassId) (ad av : Nat → Nat) (sz : Nat)   : Met l ({ cls := "java/lang/String", name := "checkIndex", desc := "(II)V" } : Jvm.MethodName) (Cond.code ({ cls := "java/lang/String", name := "checkIndex", desc := "(II)V" } : Jvm.MethodName) prog_21_method_155_code 2 (Option.none : Option Jvm.ClassFile.FieldType) :: wAll) ({ frames := 1, cells := 0, slots := 0, locals := 22 } : Room) (va_Pc [.int 1, .int 6] (gPre D ca ad av [] sz)) (Q_String_checkIndex_1 D ca  (va_A [] sz)) 0 0 (va_A [] sz) := by
  refine gMet (Qc := Q_String_checkIndex_1 D ca ) (lv := [(0, .int 1), (1, .int 6)]) (by decide) (Nat.le_of_ble_eq_true rfl) rfl (fun A p e s m below meth c ls hx hb hr hml hown hts hlk hnm hl hP hK hD hS hA hX => ?_)
  have hown : s.vm.findClass "java/lang/String" = some m.cls := hown
  have hnm : meth.name = "checkIndex" := hnm
  refine lv_iload_n hx hb d_21_155_0 rfl (lv_at hl 0 rfl) ?_
  refine lv_iload_n hx hb d_21_155_1 rfl (lv_at hl 1 rfl) ?_
  rcases hX.2.2.2.2.2 with hz1 | ⟨tz1, hz1⟩
  · refine va_gets hx hb hz1 hS hown (hts _ k_3_120) (fun _ h => h) d_21_155_2 ?_
    have hFc2 := va_free (wc := []) hD hS hA [] rfl
    refine va_calli (va_runS (As := [.int 1, .int 6, .null]) (rest := []) ⟨hx, hb, hml, hown, hts⟩ (c_Preconditions_checkIndex_2 l D ca ad av s.heap.size  ) (va_cwS 3 hts (gdS k_7_143 k_7_144 k_1_13 k_7_145) rfl rfl rfl (by decide +kernel) ⟨Nat.le_of_ble_eq_true rfl, Nat.le_of_ble_eq_true rfl⟩) (gPS hP hD hK hS hA hX [] (by decide) rfl [.int 1, .int 6, .null]) rfl rfl hl.1 rfl (lv_room (Nat.le_of_ble_eq_true rfl)) d_21_155_5 ⟨Nat.le_of_ble_eq_true rfl, Nat.le_of_ble_eq_true rfl⟩) hS (fun q _ h => hFc2 q h) hFc2 (fun r2 u2 t2 H2 locs2 ht2 hvm2 hw2 hB2 hz2 hk2 hS2 => ?_)
    have hr2 := hw2
    obtain ⟨hP2, hD2⟩ := gJoin (wr := []) (w1 := []) hP hD [] [] rfl rfl (by decide) (by decide) hk2 hFc2 ht2 hB2
    have hP2 : va_P D cls [] H2 := hP2
    have hD2 : va_D A [] := hD2
    refine W.widen (k := 0) (n := 0) (Nat.le_of_ble_eq_true rfl) (Nat.le_of_ble_eq_true rfl) ?_
    subst hr2
    refine lv_pop hx hb d_21_155_8 rfl ?_
    have hP9 := hP2.sub (ws' := []) [] rfl
    have hD9 := hD2.sub (ws' := []) [] (by decide) rfl
    refine W.widen (k := 0) (n := 0) (Nat.le_of_ble_eq_true rfl) (Nat.le_of_ble_eq_true rfl) ?_
    exact W.vret hx hb hr (fun t ht hW => ⟨⟨(), rfl, trivial, by rw [ht]; exact hP9, va_K.moved hW.alike hK, hD9⟩, hS2.F ht⟩) hS2.2.2 d_21_155_9
  · refine va_gets hx hb hz1 hS hown (hts _ k_3_120) (fun _ h => h) d_21_155_2 ?_
    have hFc3 := va_free (wc := []) hD hS hA [] rfl
    refine va_calli (va_runS (As := [.int 1, .int 6, .ref tz1]) (rest := []) ⟨hx, hb, hml, hown, hts⟩ (c_Preconditions_checkIndex_3 l D ca ad av s.heap.size tz1 ) (va_cwS 3 hts (gdS k_7_143 k_7_144 k_1_13 k_7_145) rfl rfl rfl (by decide +kernel) ⟨Nat.le_of_ble_eq_true rfl, Nat.le_of_ble_eq_true rfl⟩) (gPS hP hD hK hS hA hX [] (by decide) rfl [.int 1, .int 6, .ref tz1]) rfl rfl hl.1 rfl (lv_room (Nat.le_of_ble_eq_true rfl)) d_21_155_5 ⟨Nat.le_of_ble_eq_true rfl, Nat.le_of_ble_eq_true rfl⟩) hS (fun q _ h => hFc3 q h) hFc3 (fun r3 u3 t3 H3 locs3 ht3 hvm3 hw3 hB3 hz3 hk3 hS3 => ?_)
    have hr3 := hw3
    obtain ⟨hP3, hD3⟩ := gJoin (wr := []) (w1 := []) hP hD [] [] rfl rfl (by decide) (by decide) hk3 hFc3 ht3 hB3
    have hP3 : va_P D cls [] H3 := hP3
    have hD3 : va_D A [] := hD3
    refine W.widen (k := 0) (n := 0) (Nat.le_of_ble_eq_true rfl) (Nat.le_of_ble_eq_true rfl) ?_
    subst hr3
    refine lv_pop hx hb d_21_155_8 rfl ?_
    have hP9 := hP3.sub (ws' := []) [] rfl
    have hD9 := hD3.sub (ws' := []) [] (by decide) rfl
    refine W.widen (k := 0) (n := 0) (Nat.le_of_ble_eq_true rfl) (Nat.le_of_ble_eq_true rfl) ?_
    exact W.vret hx hb hr (fun t ht hW => ⟨⟨(), rfl, trivial, by rw [ht]; exact hP9, va_K.moved hW.alike hK, hD9⟩, hS3.F ht⟩) hS3.2.2 d_21_155_9
abbrev Q_StringLatin1_charAt_1 (D : va_G) (ca : Nat → ClassId)  (A : Nat → Prop) : Array Value → State → Outcome → State → Prop := va_Qi (S := Unit) (fun (r : Int32) (u : Unit) => r = 114) (fun u => gB D ca A []) A
set_option maxHeartbeats 8000000 in
set_option maxRecDepth 100000 in
theorem c_StringLatin1_charAt_1 (l : Launch) (D : va_G) (ca : Nat → ClassId) (ad av : Nat → Nat) (sz : Nat)   : Met l ({ cls := "java/lang/StringLatin1", name := "charAt", desc := "([BI)C" } : Jvm.MethodName) (Cond.code ({ cls := "java/lang/StringLatin1", name := "charAt", desc := "([BI)C" } : Jvm.MethodName) prog_22_method_2_code 2 (Option.some Jvm.ClassFile.FieldType.char) :: wAll) ({ frames := 2, cells := 0, slots := 0, locals := 43 } : Room) (va_Pc [.ref (av 1), .int 1] (gPre D ca ad av [] sz)) (Q_StringLatin1_charAt_1 D ca  (va_A [] sz)) 0 0 (va_A [] sz) := by
  refine gMet (Qc := Q_StringLatin1_charAt_1 D ca ) (lv := [(0, .ref (av 1)), (1, .int 1)]) (by decide) (Nat.le_of_ble_eq_true rfl) rfl (fun A p e s m below meth c ls hx hb hr hml hown hts hlk hnm hl hP hK hD hS hA hX => ?_)
  have hown : s.vm.findClass "java/lang/StringLatin1" = some m.cls := hown
  have hnm : meth.name = "charAt" := hnm
  refine lv_iload_n hx hb d_22_2_0 rfl (lv_at hl 1 rfl) ?_
  refine lv_aload_n hx hb d_22_2_1 rfl (lv_at hl 0 rfl) ?_
  refine va_tlen (v := 6) hx hb ((hX.2.2.2.2.1 1 _ rfl).2.1 0 (by decide)).2.2.2 hS (by decide) d_22_2_2 ?_
  have hFc1 := va_free (wc := []) hD hS hA [] rfl
  refine va_callv (va_runS (As := [.int 1, .int 6]) (rest := []) ⟨hx, hb, hml, hown, hts⟩ (c_String_checkIndex_1 l D ca ad av s.heap.size  ) (va_cwS 2 hts (gdS k_7_140 k_7_141 k_1_11 k_7_142) rfl rfl rfl (by decide +kernel) ⟨Nat.le_of_ble_eq_true rfl, Nat.le_of_ble_eq_true rfl⟩) (gPS hP hD hK hS hA hX [] (by decide) rfl [.int 1, .int 6]) rfl rfl hl.1 rfl (lv_room (Nat.le_of_ble_eq_true rfl)) d_22_2_3 ⟨Nat.le_of_ble_eq_true rfl, Nat.le_of_ble_eq_true rfl⟩) hS (fun q _ h => hFc1 q h) hFc1 (fun u1 t1 H1 locs1 ht1 hvm1 hw1 hB1 hz1 hk1 hS1 => ?_)
  obtain ⟨hP1, hD1⟩ := gJoin (wr := []) (w1 := []) hP hD [] [] rfl rfl (by decide) (by decide) hk1 hFc1 ht1 hB1
  have hP1 : va_P D cls [] H1 := hP1
  have hD1 : va_D A [] := hD1
  refine W.widen (k := 0) (n := 0) (Nat.le_of_ble_eq_true rfl) (Nat.le_of_ble_eq_true rfl) ?_
  refine lv_aload_n hx hb d_22_2_6 rfl (lv_at hl 0 rfl) ?_
  refine lv_iload_n hx hb d_22_2_7 rfl (lv_at hl 1 rfl) ?_
  refine va_tb (v := .int 114) hx hb ((hX.2.2.2.2.1 1 _ rfl).2.1 0 (by decide)).2.2.2 hS1 (vinC (by decide)) rfl d_22_2_8 ?_
  refine lv_sipush (v := 255) hx hb d_22_2_9 (by decide) ?_
  refine lv_iand hx hb d_22_2_12 ?_
  refine lv_topi (fun y2 ey2 => ?_)
  obtain rfl : y2 = 114 := ey2.trans (by decide)
  refine lv_i2c hx hb d_22_2_13 rfl ?_
  refine lv_topi (fun y3 ey3 => ?_)
  obtain rfl : y3 = 114 := ey3.trans (by decide)
  have hP9 := hP1.sub (ws' := []) [] rfl
  have hD9 := hD1.sub (ws' := []) [] (by decide) rfl
  refine W.widen (k := 0) (n := 0) (Nat.le_of_ble_eq_true rfl) (Nat.le_of_ble_eq_true rfl) ?_
  exact W.zret (v := 114) hx hb hr rfl (fun t ht hW => ⟨⟨114, (), rfl, rfl, by rw [ht]; exact hP9, va_K.moved hW.alike hK, hD9⟩, hS1.F ht⟩) hS1.2.2 d_22_2_14
abbrev Q_String_charAt_1 (D : va_G) (ca : Nat → ClassId)  (A : Nat → Prop) : Array Value → State → Outcome → State → Prop := va_Qi (S := Unit) (fun (r : Int32) (u : Unit) => r = 114) (fun u => gB D ca A []) A
set_option maxHeartbeats 8000000 in
set_option maxRecDepth 100000 in
theorem c_String_charAt_1 (l : Launch) (D : va_G) (ca : Nat → ClassId) (ad av : Nat → Nat) (sz : Nat)   : Met l ({ cls := "java/lang/String", name := "charAt", desc := "(I)C" } : Jvm.MethodName) (Cond.code ({ cls := "java/lang/String", name := "charAt", desc := "(I)C" } : Jvm.MethodName) prog_21_method_56_code 2 (Option.some Jvm.ClassFile.FieldType.char) :: wAll) ({ frames := 3, cells := 0, slots := 0, locals := 64 } : Room) (va_Pc [.ref (ad 1), .int 1] (gPre D ca ad av [] sz)) (Q_String_charAt_1 D ca  (va_A [] sz)) 0 0 (va_A [] sz) := by
  refine gMet (Qc := Q_String_charAt_1 D ca ) (lv := [(0, .ref (ad 1)), (1, .int 1)]) (by decide) (Nat.le_of_ble_eq_true rfl) rfl (fun A p e s m below meth c ls hx hb hr hml hown hts hlk hnm hl hP hK hD hS hA hX => ?_)
  have hown : s.vm.findClass "java/lang/String" = some m.cls := hown
  have hnm : meth.name = "charAt" := hnm
  refine lv_aload_n hx hb d_21_56_0 rfl (lv_at hl 0 rfl) ?_
  have hFc1 := va_free (wc := []) hD hS hA [] rfl
  refine va_calli (va_runV (As := []) (rest := []) ⟨hx, hb, hml, hown, hts⟩ (c_String_isLatin1_0 l D ca ad av s.heap.size  ) (cwV 0 hts (gdV k_3_75 k_3_76 k_3_77 k_1_11 k_3_78) rfl rfl rfl (by decide +kernel) ⟨Nat.le_of_ble_eq_true rfl, Nat.le_of_ble_eq_true rfl⟩) ⟨gBlind, vk_recv (i := 0) (hX.2.2.2.2.1 1 _ rfl).2 (by decide) hS, gAt hP hD hK hS hA hX [] (by decide) rfl [.ref (ad 1)]⟩ rfl rfl hl.1 rfl (lv_room (Nat.le_of_ble_eq_true rfl)) d_21_56_1 ⟨Nat.le_of_ble_eq_true rfl, Nat.le_of_ble_eq_true rfl⟩) hS (fun q _ h => hFc1 q h) hFc1 (fun r1 u1 t1 H1 locs1 ht1 hvm1 hw1 hB1 hz1 hk1 hS1 => ?_)
  have hr1 := hw1
  obtain ⟨hP1, hD1⟩ := gJoin (wr := []) (w1 := []) hP hD [] [] rfl rfl (by decide) (by decide) hk1 hFc1 ht1 hB1
  have hP1 : va_P D cls [] H1 := hP1
  have hD1 : va_D A [] := hD1
  refine W.widen (k := 0) (n := 0) (Nat.le_of_ble_eq_true rfl) (Nat.le_of_ble_eq_true rfl) ?_
  subst hr1
  refine lv_if_eq (tgt := 16) hx hb d_21_56_4 (by decide) (fun c => absurd c (by decide)) (fun _ => ?_)
  refine lv_aload_n hx hb d_21_56_7 rfl (lv_at hl 0 rfl) ?_
  refine vk_getf hx hb ((hX.2.2.2.2.1 1 _ rfl).2.1 0 (by decide)).2.2.1 hS1 hown (hts _ k_15_170) (fun _ h => h) d_21_56_8 ?_
  refine W.eq (g2 := F0 m 11 ls [.ref (av 1)]) rfl ?_
  refine lv_iload_n hx hb d_21_56_11 rfl (lv_at hl 1 rfl) ?_
  have hFc2 := va_free (wc := []) hD1 hS1 hA [] rfl
  refine va_calli (va_runS (As := [.ref (av 1), .int 1]) (rest := []) ⟨hx, hb, hml, hown, hts⟩ (c_StringLatin1_charAt_1 l D ca ad av H1.size  ) (va_cwS 2 hts (gdS k_7_137 k_7_138 k_1_12 k_7_139) rfl rfl rfl (by decide +kernel) ⟨Nat.le_of_ble_eq_true rfl, Nat.le_of_ble_eq_true rfl⟩) (gPS hP1 hD1 hK hS1 hA hX [] (by decide) rfl [.ref (av 1), .int 1]) rfl rfl hl.1 rfl (lv_room (Nat.le_of_ble_eq_true rfl)) d_21_56_12 ⟨Nat.le_of_ble_eq_true rfl, Nat.le_of_ble_eq_true rfl⟩) hS1 (fun q _ h => hFc2 q h) hFc2 (fun r2 u2 t2 H2 locs2 ht2 hvm2 hw2 hB2 hz2 hk2 hS2 => ?_)
  have hr2 := hw2
  obtain ⟨hP2, hD2⟩ := gJoin (wr := []) (w1 := []) hP1 hD1 [] [] rfl rfl (by decide) (by decide) hk2 hFc2 ht2 hB2
  have hP2 : va_P D cls [] H2 := hP2
  have hD2 : va_D A [] := hD2
  refine W.widen (k := 0) (n := 0) (Nat.le_of_ble_eq_true rfl) (Nat.le_of_ble_eq_true rfl) ?_
  subst hr2
  have hP9 := hP2.sub (ws' := []) [] rfl
  have hD9 := hD2.sub (ws' := []) [] (by decide) rfl
  refine W.widen (k := 0) (n := 0) (Nat.le_of_ble_eq_true rfl) (Nat.le_of_ble_eq_true rfl) ?_
  exact W.zret (v := 114) hx hb hr rfl (fun t ht hW => ⟨⟨114, (), rfl, rfl, by rw [ht]; exact hP9, va_K.moved hW.alike hK, hD9⟩, hS2.F ht⟩) hS2.2.2 d_21_56_15
abbrev Q_Preconditions_checkIndex_4 (D : va_G) (ca : Nat → ClassId)  (A : Nat → Prop) : Array Value → State → Outcome → State → Prop := va_Qi (S := Unit) (fun (r : Int32) (u : Unit) => r = 2) (fun u => gB D ca A []) A
set_option maxHeartbeats 8000000 in
set_option maxRecDepth 100000 in
theorem c_Preconditions_checkIndex_4 (l : Launch) (D : va_G) (ca : Nat → ClassId) (ad av : Nat → Nat) (sz : Nat)   : Met l ({ cls := "jdk/internal/util/Preconditions", name := "checkIndex", desc := "(IILjava/util/function/BiFunction;)I" } : Jvm.MethodName) (Cond.code ({ cls := "jdk/internal/util/Preconditions", name := "checkIndex", desc := "(IILjava/util/function/BiFunction;)I" } : Jvm.MethodName) prog_24_method_11_code 3 (Option.some Jvm.ClassFile.FieldType.int) :: wAll) ({ frames := 0, cells := 0, slots := 0, locals := 0 } : Room) (va_Pc [.int 2, .int 6, .null] (gPre D ca ad av [] sz)) (Q_Preconditions_checkIndex_4 D ca  (va_A [] sz)) 0 0 (va_A [] sz) := by
  refine gMet (Qc := Q_Preconditions_checkIndex_4 D ca ) (lv := [(0, .int 2), (1, .int 6), (2, .null)]) (by decide) (Nat.le_of_ble_eq_true rfl) rfl (fun A p e s m below meth c ls hx hb hr hml hown hts hlk hnm hl hP hK hD hS hA hX => ?_)
  have hown : s.vm.findClass "jdk/internal/util/Preconditions" = some m.cls := hown
  have hnm : meth.name = "checkIndex" := hnm
  refine lv_iload_n hx hb d_24_11_0 rfl (lv_at hl 0 rfl) ?_
  refine lv_if_lt (tgt := 9) hx hb d_24_11_1 (by decide) (fun c => absurd c (by decide)) (fun _ => ?_)
  refine lv_iload_n hx hb d_24_11_4 rfl (lv_at hl 0 rfl) ?_
  refine lv_iload_n hx hb d_24_11_5 rfl (lv_at hl 1 rfl) ?_
  refine lv_icmp_lt (tgt := 16) hx hb d_24_11_6 (by decide) (fun _ => ?_) (fun c => absurd (by decide) c)
  refine lv_iload_n hx hb d_24_11_16 rfl (lv_at hl 0 rfl) ?_
  have hP9 := hP.sub (ws' := []) [] rfl
  have hD9 := hD.sub (ws' := []) [] (by decide) rfl
  refine W.widen (k := 0) (n := 0) (Nat.le_of_ble_eq_true rfl) (Nat.le_of_ble_eq_true rfl) ?_
  exact W.iret (v := 2) hx hb hr (fun t ht hW => ⟨⟨2, (), rfl, rfl, by rw [ht]; exact hP9, va_K.moved hW.alike hK, hD9⟩, hS.F ht⟩) hS.2.2 d_24_11_17
abbrev Q_Preconditions_checkIndex_5 (D : va_G) (ca : Nat → ClassId) (r0 : Nat) (A : Nat → Prop) : Array Value → State → Outcome → State → Prop := va_Qi (S := Unit) (fun (r : Int32) (u : Unit) => r = 2) (fun u => gB D ca A []) A
set_option maxHeartbeats 8000000 in
set_option maxRecDepth 100000 in
theorem c_Preconditions_checkIndex_5 (l : Launch) (D : va_G) (ca : Nat → ClassId) (ad av : Nat → Nat) (sz : Nat) (r0 : Nat)  : Met l ({ cls := "jdk/internal/util/Preconditions", name := "checkIndex", desc := "(IILjava/util/function/BiFunction;)I" } : Jvm.MethodName) (Cond.code ({ cls := "jdk/internal/util/Preconditions", name := "checkIndex", desc := "(IILjava/util/function/BiFunction;)I" } : Jvm.MethodName) prog_24_method_11_code 3 (Option.some Jvm.ClassFile.FieldType.int) :: wAll) ({ frames := 0, cells := 0, slots := 0, locals := 0 } : Room) (va_Pc [.int 2, .int 6, .ref r0] (gPre D ca ad av [] sz)) (Q_Preconditions_checkIndex_5 D ca r0 (va_A [] sz)) 0 0 (va_A [] sz) := by
  refine gMet (Qc := Q_Preconditions_checkIndex_5 D ca r0) (lv := [(0, .int 2), (1, .int 6), (2, .ref r0)]) (by decide) (Nat.le_of_ble_eq_true rfl) rfl (fun A p e s m below meth c ls hx hb hr hml hown hts hlk hnm hl hP hK hD hS hA hX => ?_)
  have hown : s.vm.findClass "jdk/internal/util/Preconditions" = some m.cls := hown
  have hnm : meth.name = "checkIndex" := hnm
  refine lv_iload_n hx hb d_24_11_0 rfl (lv_at hl 0 rfl) ?_
  refine lv_if_lt (tgt := 9) hx hb d_24_11_1 (by decide) (fun c => absurd c (by decide)) (fun _ => ?_)
  refine lv_iload_n hx hb d_24_11_4 rfl (lv_at hl 0 rfl) ?_
  refine lv_iload_n hx hb d_24_11_5 rfl (lv_at hl 1 rfl) ?_
  refine lv_icmp_lt (tgt := 16) hx hb d_24_11_6 (by decide) (fun _ => ?_) (fun c => absurd (by decide) c)
  refine lv_iload_n hx hb d_24_11_16 rfl (lv_at hl 0 rfl) ?_
  have hP9 := hP.sub (ws' := []) [] rfl
  have hD9 := hD.sub (ws' := []) [] (by decide) rfl
  refine W.widen (k := 0) (n := 0) (Nat.le_of_ble_eq_true rfl) (Nat.le_of_ble_eq_true rfl) ?_
  exact W.iret (v := 2) hx hb hr (fun t ht hW => ⟨⟨2, (), rfl, rfl, by rw [ht]; exact hP9, va_K.moved hW.alike hK, hD9⟩, hS.F ht⟩) hS.2.2 d_24_11_17
abbrev Q_String_checkIndex_2 (D : va_G) (ca : Nat → ClassId)  (A : Nat → Prop) : Array Value → State → Outcome → State → Prop := va_Qv (S := Unit) (fun (u : Unit) => True) (fun u => gB D ca A []) A
set_option maxHeartbeats 8000000 in
set_option maxRecDepth 100000 in
theorem c_String_checkIndex_2 (l : Launch) (D : va_G) (ca : Nat → ClassId) (ad av : Nat → Nat) (sz : Nat)   : Met l ({ cls := "java/lang/String", name := "checkIndex", desc := "(II)V" } : Jvm.MethodName) (Cond.code ({ cls := "java/lang/String", name := "checkIndex", desc := "(II)V" } : Jvm.MethodName) prog_21_method_155_code 2 (Option.none : Option Jvm.ClassFile.FieldType) :: wAll) ({ frames := 1, cells := 0, slots := 0, locals := 22 } : Room) (va_Pc [.int 2, .int 6] (gPre D ca ad av [] sz)) (Q_String_checkIndex_2 D ca  (va_A [] sz)) 0 0 (va_A [] sz) := by
  refine gMet (Qc := Q_String_checkIndex_2 D ca ) (lv := [(0, .int 2), (1, .int 6)]) (by decide) (Nat.le_of_ble_eq_true rfl) rfl (fun A p e s m below meth c ls hx hb hr hml hown hts hlk hnm hl hP hK hD hS hA hX => ?_)
  have hown : s.vm.findClass "java/lang/String" = some m.cls := hown
  have hnm : meth.name = "checkIndex" := hnm
  refine lv_iload_n hx hb d_21_155_0 rfl (lv_at hl 0 rfl) ?_
  refine lv_iload_n hx hb d_21_155_1 rfl (lv_at hl 1 rfl) ?_
  rcases hX.2.2.2.2.2 with hz1 | ⟨tz1, hz1⟩
  · refine va_gets hx hb hz1 hS hown (hts _ k_3_120) (fun _ h => h) d_21_155_2 ?_
    have hFc2 := va_free (wc := []) hD hS hA [] rfl
    refine va_calli (va_runS (As := [.int 2, .int 6, .null]) (rest := []) ⟨hx, hb, hml, hown, hts⟩ (c_Preconditions_checkIndex_4 l D ca ad av s.heap.size  ) (va_cwS 3 hts (gdS k_7_143 k_7_144 k_1_13 k_7_145) rfl rfl rfl (by decide +kernel) ⟨Nat.le_of_ble_eq_true rfl, Nat.le_of_ble_eq_true rfl⟩) (gPS hP hD hK hS hA hX [] (by decide) rfl [.int 2, .int 6, .null]) rfl rfl hl.1 rfl (lv_room (Nat.le_of_ble_eq_true rfl)) d_21_155_5 ⟨Nat.le_of_ble_eq_true rfl, Nat.le_of_ble_eq_true rfl⟩) hS (fun q _ h => hFc2 q h) hFc2 (fun r2 u2 t2 H2 locs2 ht2 hvm2 hw2 hB2 hz2 hk2 hS2 => ?_)
    have hr2 := hw2
    obtain ⟨hP2, hD2⟩ := gJoin (wr := []) (w1 := []) hP hD [] [] rfl rfl (by decide) (by decide) hk2 hFc2 ht2 hB2
    have hP2 : va_P D cls [] H2 := hP2
    have hD2 : va_D A [] := hD2
    refine W.widen (k := 0) (n := 0) (Nat.le_of_ble_eq_true rfl) (Nat.le_of_ble_eq_true rfl) ?_
    subst hr2
    refine lv_pop hx hb d_21_155_8 rfl ?_
    have hP9 := hP2.sub (ws' := []) [] rfl
    have hD9 := hD2.sub (ws' := []) [] (by decide) rfl
    refine W.widen (k := 0) (n := 0) (Nat.le_of_ble_eq_true rfl) (Nat.le_of_ble_eq_true rfl) ?_
    exact W.vret hx hb hr (fun t ht hW => ⟨⟨(), rfl, trivial, by rw [ht]; exact hP9, va_K.moved hW.alike hK, hD9⟩, hS2.F ht⟩) hS2.2.2 d_21_155_9
  · refine va_gets hx hb hz1 hS hown (hts _ k_3_120) (fun _ h => h) d_21_155_2 ?_
    have hFc3 := va_free (wc := []) hD hS hA [] rfl
    refine va_calli (va_runS (As := [.int 2, .int 6, .ref tz1]) (rest := []) ⟨hx, hb, hml, hown, hts⟩ (c_Preconditions_checkIndex_5 l D ca ad av s.heap.size tz1 ) (va_cwS 3 hts (gdS k_7_143 k_7_144 k_1_13 k_7_145) rfl rfl rfl (by decide +kernel) ⟨Nat.le_of_ble_eq_true rfl, Nat.le_of_ble_eq_true rfl⟩) (gPS hP hD hK hS hA hX [] (by decide) rfl [.int 2, .int 6, .ref tz1]) rfl rfl hl.1 rfl (lv_room (Nat.le_of_ble_eq_true rfl)) d_21_155_5 ⟨Nat.le_of_ble_eq_true rfl, Nat.le_of_ble_eq_true rfl⟩) hS (fun q _ h => hFc3 q h) hFc3 (fun r3 u3 t3 H3 locs3 ht3 hvm3 hw3 hB3 hz3 hk3 hS3 => ?_)
    have hr3 := hw3
    obtain ⟨hP3, hD3⟩ := gJoin (wr := []) (w1 := []) hP hD [] [] rfl rfl (by decide) (by decide) hk3 hFc3 ht3 hB3
    have hP3 : va_P D cls [] H3 := hP3
    have hD3 : va_D A [] := hD3
    refine W.widen (k := 0) (n := 0) (Nat.le_of_ble_eq_true rfl) (Nat.le_of_ble_eq_true rfl) ?_
    subst hr3
    refine lv_pop hx hb d_21_155_8 rfl ?_
    have hP9 := hP3.sub (ws' := []) [] rfl
    have hD9 := hD3.sub (ws' := []) [] (by decide) rfl
    refine W.widen (k := 0) (n := 0) (Nat.le_of_ble_eq_true rfl) (Nat.le_of_ble_eq_true rfl) ?_
    exact W.vret hx hb hr (fun t ht hW => ⟨⟨(), rfl, trivial, by rw [ht]; exact hP9, va_K.moved hW.alike hK, hD9⟩, hS3.F ht⟩) hS3.2.2 d_21_155_9
abbrev Q_StringLatin1_charAt_2 (D : va_G) (ca : Nat → ClassId)  (A : Nat → Prop) : Array Value → State → Outcome → State → Prop := va_Qi (S := Unit) (fun (r : Int32) (u : Unit) => r = 101) (fun u => gB D ca A []) A
set_option maxHeartbeats 8000000 in
set_option maxRecDepth 100000 in
theorem c_StringLatin1_charAt_2 (l : Launch) (D : va_G) (ca : Nat → ClassId) (ad av : Nat → Nat) (sz : Nat)   : Met l ({ cls := "java/lang/StringLatin1", name := "charAt", desc := "([BI)C" } : Jvm.MethodName) (Cond.code ({ cls := "java/lang/StringLatin1", name := "charAt", desc := "([BI)C" } : Jvm.MethodName) prog_22_method_2_code 2 (Option.some Jvm.ClassFile.FieldType.char) :: wAll) ({ frames := 2, cells := 0, slots := 0, locals := 43 } : Room) (va_Pc [.ref (av 1), .int 2] (gPre D ca ad av [] sz)) (Q_StringLatin1_charAt_2 D ca  (va_A [] sz)) 0 0 (va_A [] sz) := by
  refine gMet (Qc := Q_StringLatin1_charAt_2 D ca ) (lv := [(0, .ref (av 1)), (1, .int 2)]) (by decide) (Nat.le_of_ble_eq_true rfl) rfl (fun A p e s m below meth c ls hx hb hr hml hown hts hlk hnm hl hP hK hD hS hA hX => ?_)
  have hown : s.vm.findClass "java/lang/StringLatin1" = some m.cls := hown
  have hnm : meth.name = "charAt" := hnm
  refine lv_iload_n hx hb d_22_2_0 rfl (lv_at hl 1 rfl) ?_
  refine lv_aload_n hx hb d_22_2_1 rfl (lv_at hl 0 rfl) ?_
  refine va_tlen (v := 6) hx hb ((hX.2.2.2.2.1 1 _ rfl).2.1 0 (by decide)).2.2.2 hS (by decide) d_22_2_2 ?_
  have hFc1 := va_free (wc := []) hD hS hA [] rfl
  refine va_callv (va_runS (As := [.int 2, .int 6]) (rest := []) ⟨hx, hb, hml, hown, hts⟩ (c_String_checkIndex_2 l D ca ad av s.heap.size  ) (va_cwS 2 hts (gdS k_7_140 k_7_141 k_1_11 k_7_142) rfl rfl rfl (by decide +kernel) ⟨Nat.le_of_ble_eq_true rfl, Nat.le_of_ble_eq_true rfl⟩) (gPS hP hD hK hS hA hX [] (by decide) rfl [.int 2, .int 6]) rfl rfl hl.1 rfl (lv_room (Nat.le_of_ble_eq_true rfl)) d_22_2_3 ⟨Nat.le_of_ble_eq_true rfl, Nat.le_of_ble_eq_true rfl⟩) hS (fun q _ h => hFc1 q h) hFc1 (fun u1 t1 H1 locs1 ht1 hvm1 hw1 hB1 hz1 hk1 hS1 => ?_)
  obtain ⟨hP1, hD1⟩ := gJoin (wr := []) (w1 := []) hP hD [] [] rfl rfl (by decide) (by decide) hk1 hFc1 ht1 hB1
  have hP1 : va_P D cls [] H1 := hP1
  have hD1 : va_D A [] := hD1
  refine W.widen (k := 0) (n := 0) (Nat.le_of_ble_eq_true rfl) (Nat.le_of_ble_eq_true rfl) ?_
  refine lv_aload_n hx hb d_22_2_6 rfl (lv_at hl 0 rfl) ?_
  refine lv_iload_n hx hb d_22_2_7 rfl (lv_at hl 1 rfl) ?_
  refine va_tb (v := .int 101) hx hb ((hX.2.2.2.2.1 1 _ rfl).2.1 0 (by decide)).2.2.2 hS1 (vinC (by decide)) rfl d_22_2_8 ?_
  refine lv_sipush (v := 255) hx hb d_22_2_9 (by decide) ?_
  refine lv_iand hx hb d_22_2_12 ?_
  refine lv_topi (fun y2 ey2 => ?_)
  obtain rfl : y2 = 101 := ey2.trans (by decide)
  refine lv_i2c hx hb d_22_2_13 rfl ?_
  refine lv_topi (fun y3 ey3 => ?_)
  obtain rfl : y3 = 101 := ey3.trans (by decide)
  have hP9 := hP1.sub (ws' := []) [] rfl
  have hD9 := hD1.sub (ws' := []) [] (by decide) rfl
  refine W.widen (k := 0) (n := 0) (Nat.le_of_ble_eq_true rfl) (Nat.le_of_ble_eq_true rfl) ?_
  exact W.zret (v := 101) hx hb hr rfl (fun t ht hW => ⟨⟨101, (), rfl, rfl, by rw [ht]; exact hP9, va_K.moved hW.alike hK, hD9⟩, hS1.F ht⟩) hS1.2.2 d_22_2_14
abbrev Q_String_charAt_2 (D : va_G) (ca : Nat → ClassId)  (A : Nat → Prop) : Array Value → State → Outcome → State → Prop := va_Qi (S := Unit) (fun (r : Int32) (u : Unit) => r = 101) (fun u => gB D ca A []) A
set_option maxHeartbeats 8000000 in
set_option maxRecDepth 100000 in
theorem c_String_charAt_2 (l : Launch) (D : va_G) (ca : Nat → ClassId) (ad av : Nat → Nat) (sz : Nat)   : Met l ({ cls := "java/lang/String", name := "charAt", desc := "(I)C" } : Jvm.MethodName) (Cond.code ({ cls := "java/lang/String", name := "charAt", desc := "(I)C" } : Jvm.MethodName) prog_21_method_56_code 2 (Option.some Jvm.ClassFile.FieldType.char) :: wAll) ({ frames := 3, cells := 0, slots := 0, locals := 64 } : Room) (va_Pc [.ref (ad 1), .int 2] (gPre D ca ad av [] sz)) (Q_String_charAt_2 D ca  (va_A [] sz)) 0 0 (va_A [] sz) := by
  refine gMet (Qc := Q_String_charAt_2 D ca ) (lv := [(0, .ref (ad 1)), (1, .int 2)]) (by decide) (Nat.le_of_ble_eq_true rfl) rfl (fun A p e s m below meth c ls hx hb hr hml hown hts hlk hnm hl hP hK hD hS hA hX => ?_)
  have hown : s.vm.findClass "java/lang/String" = some m.cls := hown
  have hnm : meth.name = "charAt" := hnm
  refine lv_aload_n hx hb d_21_56_0 rfl (lv_at hl 0 rfl) ?_
  have hFc1 := va_free (wc := []) hD hS hA [] rfl
  refine va_calli (va_runV (As := []) (rest := []) ⟨hx, hb, hml, hown, hts⟩ (c_String_isLatin1_0 l D ca ad av s.heap.size  ) (cwV 0 hts (gdV k_3_75 k_3_76 k_3_77 k_1_11 k_3_78) rfl rfl rfl (by decide +kernel) ⟨Nat.le_of_ble_eq_true rfl, Nat.le_of_ble_eq_true rfl⟩) ⟨gBlind, vk_recv (i := 0) (hX.2.2.2.2.1 1 _ rfl).2 (by decide) hS, gAt hP hD hK hS hA hX [] (by decide) rfl [.ref (ad 1)]⟩ rfl rfl hl.1 rfl (lv_room (Nat.le_of_ble_eq_true rfl)) d_21_56_1 ⟨Nat.le_of_ble_eq_true rfl, Nat.le_of_ble_eq_true rfl⟩) hS (fun q _ h => hFc1 q h) hFc1 (fun r1 u1 t1 H1 locs1 ht1 hvm1 hw1 hB1 hz1 hk1 hS1 => ?_)
  have hr1 := hw1
  obtain ⟨hP1, hD1⟩ := gJoin (wr := []) (w1 := []) hP hD [] [] rfl rfl (by decide) (by decide) hk1 hFc1 ht1 hB1
  have hP1 : va_P D cls [] H1 := hP1
  have hD1 : va_D A [] := hD1
  refine W.widen (k := 0) (n := 0) (Nat.le_of_ble_eq_true rfl) (Nat.le_of_ble_eq_true rfl) ?_
  subst hr1
  refine lv_if_eq (tgt := 16) hx hb d_21_56_4 (by decide) (fun c => absurd c (by decide)) (fun _ => ?_)
  refine lv_aload_n hx hb d_21_56_7 rfl (lv_at hl 0 rfl) ?_
  refine vk_getf hx hb ((hX.2.2.2.2.1 1 _ rfl).2.1 0 (by decide)).2.2.1 hS1 hown (hts _ k_15_170) (fun _ h => h) d_21_56_8 ?_
  refine W.eq (g2 := F0 m 11 ls [.ref (av 1)]) rfl ?_
  refine lv_iload_n hx hb d_21_56_11 rfl (lv_at hl 1 rfl) ?_
  have hFc2 := va_free (wc := []) hD1 hS1 hA [] rfl
  refine va_calli (va_runS (As := [.ref (av 1), .int 2]) (rest := []) ⟨hx, hb, hml, hown, hts⟩ (c_StringLatin1_charAt_2 l D ca ad av H1.size  ) (va_cwS 2 hts (gdS k_7_137 k_7_138 k_1_12 k_7_139) rfl rfl rfl (by decide +kernel) ⟨Nat.le_of_ble_eq_true rfl, Nat.le_of_ble_eq_true rfl⟩) (gPS hP1 hD1 hK hS1 hA hX [] (by decide) rfl [.ref (av 1), .int 2]) rfl rfl hl.1 rfl (lv_room (Nat.le_of_ble_eq_true rfl)) d_21_56_12 ⟨Nat.le_of_ble_eq_true rfl, Nat.le_of_ble_eq_true rfl⟩) hS1 (fun q _ h => hFc2 q h) hFc2 (fun r2 u2 t2 H2 locs2 ht2 hvm2 hw2 hB2 hz2 hk2 hS2 => ?_)
  have hr2 := hw2
  obtain ⟨hP2, hD2⟩ := gJoin (wr := []) (w1 := []) hP1 hD1 [] [] rfl rfl (by decide) (by decide) hk2 hFc2 ht2 hB2
  have hP2 : va_P D cls [] H2 := hP2
  have hD2 : va_D A [] := hD2
  refine W.widen (k := 0) (n := 0) (Nat.le_of_ble_eq_true rfl) (Nat.le_of_ble_eq_true rfl) ?_
  subst hr2
  have hP9 := hP2.sub (ws' := []) [] rfl
  have hD9 := hD2.sub (ws' := []) [] (by decide) rfl
  refine W.widen (k := 0) (n := 0) (Nat.le_of_ble_eq_true rfl) (Nat.le_of_ble_eq_true rfl) ?_
  exact W.zret (v := 101) hx hb hr rfl (fun t ht hW => ⟨⟨101, (), rfl, rfl, by rw [ht]; exact hP9, va_K.moved hW.alike hK, hD9⟩, hS2.F ht⟩) hS2.2.2 d_21_56_15
abbrev Q_Preconditions_checkIndex_6 (D : va_G) (ca : Nat → ClassId)  (A : Nat → Prop) : Array Value → State → Outcome → State → Prop := va_Qi (S := Unit) (fun (r : Int32) (u : Unit) => r = 3) (fun u => gB D ca A []) A
set_option maxHeartbeats 8000000 in
set_option maxRecDepth 100000 in
theorem c_Preconditions_checkIndex_6 (l : Launch) (D : va_G) (ca : Nat → ClassId) (ad av : Nat → Nat) (sz : Nat)   : Met l ({ cls := "jdk/internal/util/Preconditions", name := "checkIndex", desc := "(IILjava/util/function/BiFunction;)I" } : Jvm.MethodName) (Cond.code ({ cls := "jdk/internal/util/Preconditions", name := "checkIndex", desc := "(IILjava/util/function/BiFunction;)I" } : Jvm.MethodName) prog_24_method_11_code 3 (Option.some Jvm.ClassFile.FieldType.int) :: wAll) ({ frames := 0, cells := 0, slots := 0, locals := 0 } : Room) (va_Pc [.int 3, .int 6, .null] (gPre D ca ad av [] sz)) (Q_Preconditions_checkIndex_6 D ca  (va_A [] sz)) 0 0 (va_A [] sz) := by
  refine gMet (Qc := Q_Preconditions_checkIndex_6 D ca ) (lv := [(0, .int 3), (1, .int 6), (2, .null)]) (by decide) (Nat.le_of_ble_eq_true rfl) rfl (fun A p e s m below meth c ls hx hb hr hml hown hts hlk hnm hl hP hK hD hS hA hX => ?_)
  have hown : s.vm.findClass "jdk/internal/util/Preconditions" = some m.cls := hown
  have hnm : meth.name = "checkIndex" := hnm
  refine lv_iload_n hx hb d_24_11_0 rfl (lv_at hl 0 rfl) ?_
  refine lv_if_lt (tgt := 9) hx hb d_24_11_1 (by decide) (fun c => absurd c (by decide)) (fun _ => ?_)
  refine lv_iload_n hx hb d_24_11_4 rfl (lv_at hl 0 rfl) ?_
  refine lv_iload_n hx hb d_24_11_5 rfl (lv_at hl 1 rfl) ?_
  refine lv_icmp_lt (tgt := 16) hx hb d_24_11_6 (by decide) (fun _ => ?_) (fun c => absurd (by decide) c)
  refine lv_iload_n hx hb d_24_11_16 rfl (lv_at hl 0 rfl) ?_
  have hP9 := hP.sub (ws' := []) [] rfl
  have hD9 := hD.sub (ws' := []) [] (by decide) rfl
  refine W.widen (k := 0) (n := 0) (Nat.le_of_ble_eq_true rfl) (Nat.le_of_ble_eq_true rfl) ?_
  exact W.iret (v := 3) hx hb hr (fun t ht hW => ⟨⟨3, (), rfl, rfl, by rw [ht]; exact hP9, va_K.moved hW.alike hK, hD9⟩, hS.F ht⟩) hS.2.2 d_24_11_17
abbrev Q_Preconditions_checkIndex_7 (D : va_G) (ca : Nat → ClassId) (r0 : Nat) (A : Nat → Prop) : Array Value → State → Outcome → State → Prop := va_Qi (S := Unit) (fun (r : Int32) (u : Unit) => r = 3) (fun u => gB D ca A []) A
set_option maxHeartbeats 8000000 in
set_option maxRecDepth 100000 in
theorem c_Preconditions_checkIndex_7 (l : Launch) (D : va_G) (ca : Nat → ClassId) (ad av : Nat → Nat) (sz : Nat) (r0 : Nat)  : Met l ({ cls := "jdk/internal/util/Preconditions", name := "checkIndex", desc := "(IILjava/util/function/BiFunction;)I" } : Jvm.MethodName) (Cond.code ({ cls := "jdk/internal/util/Preconditions", name := "checkIndex", desc := "(IILjava/util/function/BiFunction;)I" } : Jvm.MethodName) prog_24_method_11_code 3 (Option.some Jvm.ClassFile.FieldType.int) :: wAll) ({ frames := 0, cells := 0, slots := 0, locals := 0 } : Room) (va_Pc [.int 3, .int 6, .ref r0] (gPre D ca ad av [] sz)) (Q_Preconditions_checkIndex_7 D ca r0 (va_A [] sz)) 0 0 (va_A [] sz) := by
  refine gMet (Qc := Q_Preconditions_checkIndex_7 D ca r0) (lv := [(0, .int 3), (1, .int 6), (2, .ref r0)]) (by decide) (Nat.le_of_ble_eq_true rfl) rfl (fun A p e s m below meth c ls hx hb hr hml hown hts hlk hnm hl hP hK hD hS hA hX => ?_)
  have hown : s.vm.findClass "jdk/internal/util/Preconditions" = some m.cls := hown
  have hnm : meth.name = "checkIndex" := hnm
  refine lv_iload_n hx hb d_24_11_0 rfl (lv_at hl 0 rfl) ?_
  refine lv_if_lt (tgt := 9) hx hb d_24_11_1 (by decide) (fun c => absurd c (by decide)) (fun _ => ?_)
  refine lv_iload_n hx hb d_24_11_4 rfl (lv_at hl 0 rfl) ?_
  refine lv_iload_n hx hb d_24_11_5 rfl (lv_at hl 1 rfl) ?_
  refine lv_icmp_lt (tgt := 16) hx hb d_24_11_6 (by decide) (fun _ => ?_) (fun c => absurd (by decide) c)
  refine lv_iload_n hx hb d_24_11_16 rfl (lv_at hl 0 rfl) ?_
  have hP9 := hP.sub (ws' := []) [] rfl
  have hD9 := hD.sub (ws' := []) [] (by decide) rfl
  refine W.widen (k := 0) (n := 0) (Nat.le_of_ble_eq_true rfl) (Nat.le_of_ble_eq_true rfl) ?_
  exact W.iret (v := 3) hx hb hr (fun t ht hW => ⟨⟨3, (), rfl, rfl, by rw [ht]; exact hP9, va_K.moved hW.alike hK, hD9⟩, hS.F ht⟩) hS.2.2 d_24_11_17
abbrev Q_String_checkIndex_3 (D : va_G) (ca : Nat → ClassId)  (A : Nat → Prop) : Array Value → State → Outcome → State → Prop := va_Qv (S := Unit) (fun (u : Unit) => True) (fun u => gB D ca A []) A
set_option maxHeartbeats 8000000 in
set_option maxRecDepth 100000 in
theorem c_String_checkIndex_3 (l : Launch) (D : va_G) (ca : Nat → ClassId) (ad av : Nat → Nat) (sz : Nat)   : Met l ({ cls := "java/lang/String", name := "checkIndex", desc := "(II)V" } : Jvm.MethodName) (Cond.code ({ cls := "java/lang/String", name := "checkIndex", desc := "(II)V" } : Jvm.MethodName) prog_21_method_155_code 2 (Option.none : Option Jvm.ClassFile.FieldType) :: wAll) ({ frames := 1, cells := 0, slots := 0, locals := 22 } : Room) (va_Pc [.int 3, .int 6] (gPre D ca ad av [] sz)) (Q_String_checkIndex_3 D ca  (va_A [] sz)) 0 0 (va_A [] sz) := by
  refine gMet (Qc := Q_String_checkIndex_3 D ca ) (lv := [(0, .int 3), (1, .int 6)]) (by decide) (Nat.le_of_ble_eq_true rfl) rfl (fun A p e s m below meth c ls hx hb hr hml hown hts hlk hnm hl hP hK hD hS hA hX => ?_)
  have hown : s.vm.findClass "java/lang/String" = some m.cls := hown
  have hnm : meth.name = "checkIndex" := hnm
  refine lv_iload_n hx hb d_21_155_0 rfl (lv_at hl 0 rfl) ?_
  refine lv_iload_n hx hb d_21_155_1 rfl (lv_at hl 1 rfl) ?_
  rcases hX.2.2.2.2.2 with hz1 | ⟨tz1, hz1⟩
  · refine va_gets hx hb hz1 hS hown (hts _ k_3_120) (fun _ h => h) d_21_155_2 ?_
    have hFc2 := va_free (wc := []) hD hS hA [] rfl
    refine va_calli (va_runS (As := [.int 3, .int 6, .null]) (rest := []) ⟨hx, hb, hml, hown, hts⟩ (c_Preconditions_checkIndex_6 l D ca ad av s.heap.size  ) (va_cwS 3 hts (gdS k_7_143 k_7_144 k_1_13 k_7_145) rfl rfl rfl (by decide +kernel) ⟨Nat.le_of_ble_eq_true rfl, Nat.le_of_ble_eq_true rfl⟩) (gPS hP hD hK hS hA hX [] (by decide) rfl [.int 3, .int 6, .null]) rfl rfl hl.1 rfl (lv_room (Nat.le_of_ble_eq_true rfl)) d_21_155_5 ⟨Nat.le_of_ble_eq_true rfl, Nat.le_of_ble_eq_true rfl⟩) hS (fun q _ h => hFc2 q h) hFc2 (fun r2 u2 t2 H2 locs2 ht2 hvm2 hw2 hB2 hz2 hk2 hS2 => ?_)
    have hr2 := hw2
    obtain ⟨hP2, hD2⟩ := gJoin (wr := []) (w1 := []) hP hD [] [] rfl rfl (by decide) (by decide) hk2 hFc2 ht2 hB2
    have hP2 : va_P D cls [] H2 := hP2
    have hD2 : va_D A [] := hD2
    refine W.widen (k := 0) (n := 0) (Nat.le_of_ble_eq_true rfl) (Nat.le_of_ble_eq_true rfl) ?_
    subst hr2
    refine lv_pop hx hb d_21_155_8 rfl ?_
    have hP9 := hP2.sub (ws' := []) [] rfl
    have hD9 := hD2.sub (ws' := []) [] (by decide) rfl
    refine W.widen (k := 0) (n := 0) (Nat.le_of_ble_eq_true rfl) (Nat.le_of_ble_eq_true rfl) ?_
    exact W.vret hx hb hr (fun t ht hW => ⟨⟨(), rfl, trivial, by rw [ht]; exact hP9, va_K.moved hW.alike hK, hD9⟩, hS2.F ht⟩) hS2.2.2 d_21_155_9
  · refine va_gets hx hb hz1 hS hown (hts _ k_3_120) (fun _ h => h) d_21_155_2 ?_
    have hFc3 := va_free (wc := []) hD hS hA [] rfl
    refine va_calli (va_runS (As := [.int 3, .int 6, .ref tz1]) (rest := []) ⟨hx, hb, hml, hown, hts⟩ (c_Preconditions_checkIndex_7 l D ca ad av s.heap.size tz1 ) (va_cwS 3 hts (gdS k_7_143 k_7_144 k_1_13 k_7_145) rfl rfl rfl (by decide +kernel) ⟨Nat.le_of_ble_eq_true rfl, Nat.le_of_ble_eq_true rfl⟩) (gPS hP hD hK hS hA hX [] (by decide) rfl [.int 3, .int 6, .ref tz1]) rfl rfl hl.1 rfl (lv_room (Nat.le_of_ble_eq_true rfl)) d_21_155_5 ⟨Nat.le_of_ble_eq_true rfl, Nat.le_of_ble_eq_true rfl⟩) hS (fun q _ h => hFc3 q h) hFc3 (fun r3 u3 t3 H3 locs3 ht3 hvm3 hw3 hB3 hz3 hk3 hS3 => ?_)
    have hr3 := hw3
    obtain ⟨hP3, hD3⟩ := gJoin (wr := []) (w1 := []) hP hD [] [] rfl rfl (by decide) (by decide) hk3 hFc3 ht3 hB3
    have hP3 : va_P D cls [] H3 := hP3
    have hD3 : va_D A [] := hD3
    refine W.widen (k := 0) (n := 0) (Nat.le_of_ble_eq_true rfl) (Nat.le_of_ble_eq_true rfl) ?_
    subst hr3
    refine lv_pop hx hb d_21_155_8 rfl ?_
    have hP9 := hP3.sub (ws' := []) [] rfl
    have hD9 := hD3.sub (ws' := []) [] (by decide) rfl
    refine W.widen (k := 0) (n := 0) (Nat.le_of_ble_eq_true rfl) (Nat.le_of_ble_eq_true rfl) ?_
    exact W.vret hx hb hr (fun t ht hW => ⟨⟨(), rfl, trivial, by rw [ht]; exact hP9, va_K.moved hW.alike hK, hD9⟩, hS3.F ht⟩) hS3.2.2 d_21_155_9
abbrev Q_StringLatin1_charAt_3 (D : va_G) (ca : Nat → ClassId)  (A : Nat → Prop) : Array Value → State → Outcome → State → Prop := va_Qi (S := Unit) (fun (r : Int32) (u : Unit) => r = 98) (fun u => gB D ca A []) A
set_option maxHeartbeats 8000000 in
set_option maxRecDepth 100000 in
theorem c_StringLatin1_charAt_3 (l : Launch) (D : va_G) (ca : Nat → ClassId) (ad av : Nat → Nat) (sz : Nat)   : Met l ({ cls := "java/lang/StringLatin1", name := "charAt", desc := "([BI)C" } : Jvm.MethodName) (Cond.code ({ cls := "java/lang/StringLatin1", name := "charAt", desc := "([BI)C" } : Jvm.MethodName) prog_22_method_2_code 2 (Option.some Jvm.ClassFile.FieldType.char) :: wAll) ({ frames := 2, cells := 0, slots := 0, locals := 43 } : Room) (va_Pc [.ref (av 1), .int 3] (gPre D ca ad av [] sz)) (Q_StringLatin1_charAt_3 D ca  (va_A [] sz)) 0 0 (va_A [] sz) := by
  refine gMet (Qc := Q_StringLatin1_charAt_3 D ca ) (lv := [(0, .ref (av 1)), (1, .int 3)]) (by decide) (Nat.le_of_ble_eq_true rfl) rfl (fun A p e s m below meth c ls hx hb hr hml hown hts hlk hnm hl hP hK hD hS hA hX => ?_)
  have hown : s.vm.findClass "java/lang/StringLatin1" = some m.cls := hown
  have hnm : meth.name = "charAt" := hnm
  refine lv_iload_n hx hb d_22_2_0 rfl (lv_at hl 1 rfl) ?_
  refine lv_aload_n hx hb d_22_2_1 rfl (lv_at hl 0 rfl) ?_
  refine va_tlen (v := 6) hx hb ((hX.2.2.2.2.1 1 _ rfl).2.1 0 (by decide)).2.2.2 hS (by decide) d_22_2_2 ?_
  have hFc1 := va_free (wc := []) hD hS hA [] rfl
  refine va_callv (va_runS (As := [.int 3, .int 6]) (rest := []) ⟨hx, hb, hml, hown, hts⟩ (c_String_checkIndex_3 l D ca ad av s.heap.size  ) (va_cwS 2 hts (gdS k_7_140 k_7_141 k_1_11 k_7_142) rfl rfl rfl (by decide +kernel) ⟨Nat.le_of_ble_eq_true rfl, Nat.le_of_ble_eq_true rfl⟩) (gPS hP hD hK hS hA hX [] (by decide) rfl [.int 3, .int 6]) rfl rfl hl.1 rfl (lv_room (Nat.le_of_ble_eq_true rfl)) d_22_2_3 ⟨Nat.le_of_ble_eq_true rfl, Nat.le_of_ble_eq_true rfl⟩) hS (fun q _ h => hFc1 q h) hFc1 (fun u1 t1 H1 locs1 ht1 hvm1 hw1 hB1 hz1 hk1 hS1 => ?_)
  obtain ⟨hP1, hD1⟩ := gJoin (wr := []) (w1 := []) hP hD [] [] rfl rfl (by decide) (by decide) hk1 hFc1 ht1 hB1
  have hP1 : va_P D cls [] H1 := hP1
  have hD1 : va_D A [] := hD1
  refine W.widen (k := 0) (n := 0) (Nat.le_of_ble_eq_true rfl) (Nat.le_of_ble_eq_true rfl) ?_
  refine lv_aload_n hx hb d_22_2_6 rfl (lv_at hl 0 rfl) ?_
  refine lv_iload_n hx hb d_22_2_7 rfl (lv_at hl 1 rfl) ?_
  refine va_tb (v := .int 98) hx hb ((hX.2.2.2.2.1 1 _ rfl).2.1 0 (by decide)).2.2.2 hS1 (vinC (by decide)) rfl d_22_2_8 ?_
  refine lv_sipush (v := 255) hx hb d_22_2_9 (by decide) ?_
  refine lv_iand hx hb d_22_2_12 ?_
  refine lv_topi (fun y2 ey2 => ?_)
  obtain rfl : y2 = 98 := ey2.trans (by decide)
  refine lv_i2c hx hb d_22_2_13 rfl ?_
  refine lv_topi (fun y3 ey3 => ?_)
  obtain rfl : y3 = 98 := ey3.trans (by decide)
  have hP9 := hP1.sub (ws' := []) [] rfl
  have hD9 := hD1.sub (ws' := []) [] (by decide) rfl
  refine W.widen (k := 0) (n := 0) (Nat.le_of_ble_eq_true rfl) (Nat.le_of_ble_eq_true rfl) ?_
  exact W.zret (v := 98) hx hb hr rfl (fun t ht hW => ⟨⟨98, (), rfl, rfl, by rw [ht]; exact hP9, va_K.moved hW.alike hK, hD9⟩, hS1.F ht⟩) hS1.2.2 d_22_2_14
abbrev Q_String_charAt_3 (D : va_G) (ca : Nat → ClassId)  (A : Nat → Prop) : Array Value → State → Outcome → State → Prop := va_Qi (S := Unit) (fun (r : Int32) (u : Unit) => r = 98) (fun u => gB D ca A []) A
set_option maxHeartbeats 8000000 in
set_option maxRecDepth 100000 in
theorem c_String_charAt_3 (l : Launch) (D : va_G) (ca : Nat → ClassId) (ad av : Nat → Nat) (sz : Nat)   : Met l ({ cls := "java/lang/String", name := "charAt", desc := "(I)C" } : Jvm.MethodName) (Cond.code ({ cls := "java/lang/String", name := "charAt", desc := "(I)C" } : Jvm.MethodName) prog_21_method_56_code 2 (Option.some Jvm.ClassFile.FieldType.char) :: wAll) ({ frames := 3, cells := 0, slots := 0, locals := 64 } : Room) (va_Pc [.ref (ad 1), .int 3] (gPre D ca ad av [] sz)) (Q_String_charAt_3 D ca  (va_A [] sz)) 0 0 (va_A [] sz) := by
  refine gMet (Qc := Q_String_charAt_3 D ca ) (lv := [(0, .ref (ad 1)), (1, .int 3)]) (by decide) (Nat.le_of_ble_eq_true rfl) rfl (fun A p e s m below meth c ls hx hb hr hml hown hts hlk hnm hl hP hK hD hS hA hX => ?_)
  have hown : s.vm.findClass "java/lang/String" = some m.cls := hown
  have hnm : meth.name = "charAt" := hnm
  refine lv_aload_n hx hb d_21_56_0 rfl (lv_at hl 0 rfl) ?_
  have hFc1 := va_free (wc := []) hD hS hA [] rfl
  refine va_calli (va_runV (As := []) (rest := []) ⟨hx, hb, hml, hown, hts⟩ (c_String_isLatin1_0 l D ca ad av s.heap.size  ) (cwV 0 hts (gdV k_3_75 k_3_76 k_3_77 k_1_11 k_3_78) rfl rfl rfl (by decide +kernel) ⟨Nat.le_of_ble_eq_true rfl, Nat.le_of_ble_eq_true rfl⟩) ⟨gBlind, vk_recv (i := 0) (hX.2.2.2.2.1 1 _ rfl).2 (by decide) hS, gAt hP hD hK hS hA hX [] (by decide) rfl [.ref (ad 1)]⟩ rfl rfl hl.1 rfl (lv_room (Nat.le_of_ble_eq_true rfl)) d_21_56_1 ⟨Nat.le_of_ble_eq_true rfl, Nat.le_of_ble_eq_true rfl⟩) hS (fun q _ h => hFc1 q h) hFc1 (fun r1 u1 t1 H1 locs1 ht1 hvm1 hw1 hB1 hz1 hk1 hS1 => ?_)
  have hr1 := hw1
  obtain ⟨hP1, hD1⟩ := gJoin (wr := []) (w1 := []) hP hD [] [] rfl rfl (by decide) (by decide) hk1 hFc1 ht1 hB1
  have hP1 : va_P D cls [] H1 := hP1
  have hD1 : va_D A [] := hD1
  refine W.widen (k := 0) (n := 0) (Nat.le_of_ble_eq_true rfl) (Nat.le_of_ble_eq_true rfl) ?_
  subst hr1
  refine lv_if_eq (tgt := 16) hx hb d_21_56_4 (by decide) (fun c => absurd c (by decide)) (fun _ => ?_)
  refine lv_aload_n hx hb d_21_56_7 rfl (lv_at hl 0 rfl) ?_
  refine vk_getf hx hb ((hX.2.2.2.2.1 1 _ rfl).2.1 0 (by decide)).2.2.1 hS1 hown (hts _ k_15_170) (fun _ h => h) d_21_56_8 ?_
  refine W.eq (g2 := F0 m 11 ls [.ref (av 1)]) rfl ?_
  refine lv_iload_n hx hb d_21_56_11 rfl (lv_at hl 1 rfl) ?_
  have hFc2 := va_free (wc := []) hD1 hS1 hA [] rfl
  refine va_calli (va_runS (As := [.ref (av 1), .int 3]) (rest := []) ⟨hx, hb, hml, hown, hts⟩ (c_StringLatin1_charAt_3 l D ca ad av H1.size  ) (va_cwS 2 hts (gdS k_7_137 k_7_138 k_1_12 k_7_139) rfl rfl rfl (by decide +kernel) ⟨Nat.le_of_ble_eq_true rfl, Nat.le_of_ble_eq_true rfl⟩) (gPS hP1 hD1 hK hS1 hA hX [] (by decide) rfl [.ref (av 1), .int 3]) rfl rfl hl.1 rfl (lv_room (Nat.le_of_ble_eq_true rfl)) d_21_56_12 ⟨Nat.le_of_ble_eq_true rfl, Nat.le_of_ble_eq_true rfl⟩) hS1 (fun q _ h => hFc2 q h) hFc2 (fun r2 u2 t2 H2 locs2 ht2 hvm2 hw2 hB2 hz2 hk2 hS2 => ?_)
  have hr2 := hw2
  obtain ⟨hP2, hD2⟩ := gJoin (wr := []) (w1 := []) hP1 hD1 [] [] rfl rfl (by decide) (by decide) hk2 hFc2 ht2 hB2
  have hP2 : va_P D cls [] H2 := hP2
  have hD2 : va_D A [] := hD2
  refine W.widen (k := 0) (n := 0) (Nat.le_of_ble_eq_true rfl) (Nat.le_of_ble_eq_true rfl) ?_
  subst hr2
  have hP9 := hP2.sub (ws' := []) [] rfl
  have hD9 := hD2.sub (ws' := []) [] (by decide) rfl
  refine W.widen (k := 0) (n := 0) (Nat.le_of_ble_eq_true rfl) (Nat.le_of_ble_eq_true rfl) ?_
  exact W.zret (v := 98) hx hb hr rfl (fun t ht hW => ⟨⟨98, (), rfl, rfl, by rw [ht]; exact hP9, va_K.moved hW.alike hK, hD9⟩, hS2.F ht⟩) hS2.2.2 d_21_56_15
abbrev Q_Preconditions_checkIndex_8 (D : va_G) (ca : Nat → ClassId)  (A : Nat → Prop) : Array Value → State → Outcome → State → Prop := va_Qi (S := Unit) (fun (r : Int32) (u : Unit) => r = 4) (fun u => gB D ca A []) A
set_option maxHeartbeats 8000000 in
set_option maxRecDepth 100000 in
theorem c_Preconditions_checkIndex_8 (l : Launch) (D : va_G) (ca : Nat → ClassId) (ad av : Nat → Nat) (sz : Nat)   : Met l ({ cls := "jdk/internal/util/Preconditions", name := "checkIndex", desc := "(IILjava/util/function/BiFunction;)I" } : Jvm.MethodName) (Cond.code ({ cls := "jdk/internal/util/Preconditions", name := "checkIndex", desc := "(IILjava/util/function/BiFunction;)I" } : Jvm.MethodName) prog_24_method_11_code 3 (Option.some Jvm.ClassFile.FieldType.int) :: wAll) ({ frames := 0, cells := 0, slots := 0, locals := 0 } : Room) (va_Pc [.int 4, .int 6, .null] (gPre D ca ad av [] sz)) (Q_Preconditions_checkIndex_8 D ca  (va_A [] sz)) 0 0 (va_A [] sz) := by
  refine gMet (Qc := Q_Preconditions_checkIndex_8 D ca ) (lv := [(0, .int 4), (1, .int 6), (2, .null)]) (by decide) (Nat.le_of_ble_eq_true rfl) rfl (fun A p e s m below meth c ls hx hb hr hml hown hts hlk hnm hl hP hK hD hS hA hX => ?_)
  have hown : s.vm.findClass "jdk/internal/util/Preconditions" = some m.cls := hown
  have hnm : meth.name = "checkIndex" := hnm
  refine lv_iload_n hx hb d_24_11_0 rfl (lv_at hl 0 rfl) ?_
  refine lv_if_lt (tgt := 9) hx hb d_24_11_1 (by decide) (fun c => absurd c (by decide)) (fun _ => ?_)
  refine lv_iload_n hx hb d_24_11_4 rfl (lv_at hl 0 rfl) ?_
  refine lv_iload_n hx hb d_24_11_5 rfl (lv_at hl 1 rfl) ?_
  refine lv_icmp_lt (tgt := 16) hx hb d_24_11_6 (by decide) (fun _ => ?_) (fun c => absurd (by decide) c)
  refine lv_iload_n hx hb d_24_11_16 rfl (lv_at hl 0 rfl) ?_
  have hP9 := hP.sub (ws' := []) [] rfl
  have hD9 := hD.sub (ws' := []) [] (by decide) rfl
  refine W.widen (k := 0) (n := 0) (Nat.le_of_ble_eq_true rfl) (Nat.le_of_ble_eq_true rfl) ?_
  exact W.iret (v := 4) hx hb hr (fun t ht hW => ⟨⟨4, (), rfl, rfl, by rw [ht]; exact hP9, va_K.moved hW.alike hK, hD9⟩, hS.F ht⟩) hS.2.2 d_24_11_17
abbrev Q_Preconditions_checkIndex_9 (D : va_G) (ca : Nat → ClassId) (r0 : Nat) (A : Nat → Prop) : Array Value → State → Outcome → State → Prop := va_Qi (S := Unit) (fun (r : Int32) (u : Unit) => r = 4) (fun u => gB D ca A []) A
set_option maxHeartbeats 8000000 in
set_option maxRecDepth 100000 in
theorem c_Preconditions_checkIndex_9 (l : Launch) (D : va_G) (ca : Nat → ClassId) (ad av : Nat → Nat) (sz : Nat) (r0 : Nat)  : Met l ({ cls := "jdk/internal/util/Preconditions", name := "checkIndex", desc := "(IILjava/util/function/BiFunction;)I" } : Jvm.MethodName) (Cond.code ({ cls := "jdk/internal/util/Preconditions", name := "checkIndex", desc := "(IILjava/util/function/BiFunction;)I" } : Jvm.MethodName) prog_24_method_11_code 3 (Option.some Jvm.ClassFile.FieldType.int) :: wAll) ({ frames := 0, cells := 0, slots := 0, locals := 0 } : Room) (va_Pc [.int 4, .int 6, .ref r0] (gPre D ca ad av [] sz)) (Q_Preconditions_checkIndex_9 D ca r0 (va_A [] sz)) 0 0 (va_A [] sz) := by
  refine gMet (Qc := Q_Preconditions_checkIndex_9 D ca r0) (lv := [(0, .int 4), (1, .int 6), (2, .ref r0)]) (by decide) (Nat.le_of_ble_eq_true rfl) rfl (fun A p e s m below meth c ls hx hb hr hml hown hts hlk hnm hl hP hK hD hS hA hX => ?_)
  have hown : s.vm.findClass "jdk/internal/util/Preconditions" = some m.cls := hown
  have hnm : meth.name = "checkIndex" := hnm
  refine lv_iload_n hx hb d_24_11_0 rfl (lv_at hl 0 rfl) ?_
  refine lv_if_lt (tgt := 9) hx hb d_24_11_1 (by decide) (fun c => absurd c (by decide)) (fun _ => ?_)
  refine lv_iload_n hx hb d_24_11_4 rfl (lv_at hl 0 rfl) ?_
  refine lv_iload_n hx hb d_24_11_5 rfl (lv_at hl 1 rfl) ?_
  refine lv_icmp_lt (tgt := 16) hx hb d_24_11_6 (by decide) (fun _ => ?_) (fun c => absurd (by decide) c)
  refine lv_iload_n hx hb d_24_11_16 rfl (lv_at hl 0 rfl) ?_
  have hP9 := hP.sub (ws' := []) [] rfl
  have hD9 := hD.sub (ws' := []) [] (by decide) rfl
  refine W.widen (k := 0) (n := 0) (Nat.le_of_ble_eq_true rfl) (Nat.le_of_ble_eq_true rfl) ?_
  exact W.iret (v := 4) hx hb hr (fun t ht hW => ⟨⟨4, (), rfl, rfl, by rw [ht]; exact hP9, va_K.moved hW.alike hK, hD9⟩, hS.F ht⟩) hS.2.2 d_24_11_17
abbrev Q_String_checkIndex_4 (D : va_G) (ca : Nat → ClassId)  (A : Nat → Prop) : Array Value → State → Outcome → State → Prop := va_Qv (S := Unit) (fun (u : Unit) => True) (fun u => gB D ca A []) A
set_option maxHeartbeats 8000000 in
set_option maxRecDepth 100000 in
theorem c_String_checkIndex_4 (l : Launch) (D : va_G) (ca : Nat → ClassId) (ad av : Nat → Nat) (sz : Nat)   : Met l ({ cls := "java/lang/String", name := "checkIndex", desc := "(II)V" } : Jvm.MethodName) (Cond.code ({ cls := "java/lang/String", name := "checkIndex", desc := "(II)V" } : Jvm.MethodName) prog_21_method_155_code 2 (Option.none : Option Jvm.ClassFile.FieldType) :: wAll) ({ frames := 1, cells := 0, slots := 0, locals := 22 } : Room) (va_Pc [.int 4, .int 6] (gPre D ca ad av [] sz)) (Q_String_checkIndex_4 D ca  (va_A [] sz)) 0 0 (va_A [] sz) := by
  refine gMet (Qc := Q_String_checkIndex_4 D ca ) (lv := [(0, .int 4), (1, .int 6)]) (by decide) (Nat.le_of_ble_eq_true rfl) rfl (fun A p e s m below meth c ls hx hb hr hml hown hts hlk hnm hl hP hK hD hS hA hX => ?_)
  have hown : s.vm.findClass "java/lang/String" = some m.cls := hown
  have hnm : meth.name = "checkIndex" := hnm
  refine lv_iload_n hx hb d_21_155_0 rfl (lv_at hl 0 rfl) ?_
  refine lv_iload_n hx hb d_21_155_1 rfl (lv_at hl 1 rfl) ?_
  rcases hX.2.2.2.2.2 with hz1 | ⟨tz1, hz1⟩
  · refine va_gets hx hb hz1 hS hown (hts _ k_3_120) (fun _ h => h) d_21_155_2 ?_
    have hFc2 := va_free (wc := []) hD hS hA [] rfl
    refine va_calli (va_runS (As := [.int 4, .int 6, .null]) (rest := []) ⟨hx, hb, hml, hown, hts⟩ (c_Preconditions_checkIndex_8 l D ca ad av s.heap.size  ) (va_cwS 3 hts (gdS k_7_143 k_7_144 k_1_13 k_7_145) rfl rfl rfl (by decide +kernel) ⟨Nat.le_of_ble_eq_true rfl, Nat.le_of_ble_eq_true rfl⟩) (gPS hP hD hK hS hA hX [] (by decide) rfl [.int 4, .int 6, .null]) rfl rfl hl.1 rfl (lv_room (Nat.le_of_ble_eq_true rfl)) d_21_155_5 ⟨Nat.le_of_ble_eq_true rfl, Nat.le_of_ble_eq_true rfl⟩) hS (fun q _ h => hFc2 q h) hFc2 (fun r2 u2 t2 H2 locs2 ht2 hvm2 hw2 hB2 hz2 hk2 hS2 => ?_)
    have hr2 := hw2
    obtain ⟨hP2, hD2⟩ := gJoin (wr := []) (w1 := []) hP hD [] [] rfl rfl (by decide) (by decide) hk2 hFc2 ht2 hB2
    have hP2 : va_P D cls [] H2 := hP2
    have hD2 : va_D A [] := hD2
    refine W.widen (k := 0) (n := 0) (Nat.le_of_ble_eq_true rfl) (Nat.le_of_ble_eq_true rfl) ?_
    subst hr2
    refine lv_pop hx hb d_21_155_8 rfl ?_
    have hP9 := hP2.sub (ws' := []) [] rfl
    have hD9 := hD2.sub (ws' := []) [] (by decide) rfl
    refine W.widen (k := 0) (n := 0) (Nat.le_of_ble_eq_true rfl) (Nat.le_of_ble_eq_true rfl) ?_
    exact W.vret hx hb hr (fun t ht hW => ⟨⟨(), rfl, trivial, by rw [ht]; exact hP9, va_K.moved hW.alike hK, hD9⟩, hS2.F ht⟩) hS2.2.2 d_21_155_9
  · refine va_gets hx hb hz1 hS hown (hts _ k_3_120) (fun _ h => h) d_21_155_2 ?_
    have hFc3 := va_free (wc := []) hD hS hA [] rfl
    refine va_calli (va_runS (As := [.int 4, .int 6, .ref tz1]) (rest := []) ⟨hx, hb, hml, hown, hts⟩ (c_Preconditions_checkIndex_9 l D ca ad av s.heap.size tz1 ) (va_cwS 3 hts (gdS k_7_143 k_7_144 k_1_13 k_7_145) rfl rfl rfl (by decide +kernel) ⟨Nat.le_of_ble_eq_true rfl, Nat.le_of_ble_eq_true rfl⟩) (gPS hP hD hK hS hA hX [] (by decide) rfl [.int 4, .int 6, .ref tz1]) rfl rfl hl.1 rfl (lv_room (Nat.le_of_ble_eq_true rfl)) d_21_155_5 ⟨Nat.le_of_ble_eq_true rfl, Nat.le_of_ble_eq_true rfl⟩) hS (fun q _ h => hFc3 q h) hFc3 (fun r3 u3 t3 H3 locs3 ht3 hvm3 hw3 hB3 hz3 hk3 hS3 => ?_)
    have hr3 := hw3
    obtain ⟨hP3, hD3⟩ := gJoin (wr := []) (w1 := []) hP hD [] [] rfl rfl (by decide) (by decide) hk3 hFc3 ht3 hB3
    have hP3 : va_P D cls [] H3 := hP3
    have hD3 : va_D A [] := hD3
    refine W.widen (k := 0) (n := 0) (Nat.le_of_ble_eq_true rfl) (Nat.le_of_ble_eq_true rfl) ?_
    subst hr3
    refine lv_pop hx hb d_21_155_8 rfl ?_
    have hP9 := hP3.sub (ws' := []) [] rfl
    have hD9 := hD3.sub (ws' := []) [] (by decide) rfl
    refine W.widen (k := 0) (n := 0) (Nat.le_of_ble_eq_true rfl) (Nat.le_of_ble_eq_true rfl) ?_
    exact W.vret hx hb hr (fun t ht hW => ⟨⟨(), rfl, trivial, by rw [ht]; exact hP9, va_K.moved hW.alike hK, hD9⟩, hS3.F ht⟩) hS3.2.2 d_21_155_9
abbrev Q_StringLatin1_charAt_4 (D : va_G) (ca : Nat → ClassId)  (A : Nat → Prop) : Array Value → State → Outcome → State → Prop := va_Qi (S := Unit) (fun (r : Int32) (u : Unit) => r = 108) (fun u => gB D ca A []) A
set_option maxHeartbeats 8000000 in
set_option maxRecDepth 100000 in
theorem c_StringLatin1_charAt_4 (l : Launch) (D : va_G) (ca : Nat → ClassId) (ad av : Nat → Nat) (sz : Nat)   : Met l ({ cls := "java/lang/StringLatin1", name := "charAt", desc := "([BI)C" } : Jvm.MethodName) (Cond.code ({ cls := "java/lang/StringLatin1", name := "charAt", desc := "([BI)C" } : Jvm.MethodName) prog_22_method_2_code 2 (Option.some Jvm.ClassFile.FieldType.char) :: wAll) ({ frames := 2, cells := 0, slots := 0, locals := 43 } : Room) (va_Pc [.ref (av 1), .int 4] (gPre D ca ad av [] sz)) (Q_StringLatin1_charAt_4 D ca  (va_A [] sz)) 0 0 (va_A [] sz) := by
  refine gMet (Qc := Q_StringLatin1_charAt_4 D ca ) (lv := [(0, .ref (av 1)), (1, .int 4)]) (by decide) (Nat.le_of_ble_eq_true rfl) rfl (fun A p e s m below meth c ls hx hb hr hml hown hts hlk hnm hl hP hK hD hS hA hX => ?_)
  have hown : s.vm.findClass "java/lang/StringLatin1" = some m.cls := hown
  have hnm : meth.name = "charAt" := hnm
  refine lv_iload_n hx hb d_22_2_0 rfl (lv_at hl 1 rfl) ?_
  refine lv_aload_n hx hb d_22_2_1 rfl (lv_at hl 0 rfl) ?_
  refine va_tlen (v := 6) hx hb ((hX.2.2.2.2.1 1 _ rfl).2.1 0 (by decide)).2.2.2 hS (by decide) d_22_2_2 ?_
  have hFc1 := va_free (wc := []) hD hS hA [] rfl
  refine va_callv (va_runS (As := [.int 4, .int 6]) (rest := []) ⟨hx, hb, hml, hown, hts⟩ (c_String_checkIndex_4 l D ca ad av s.heap.size  ) (va_cwS 2 hts (gdS k_7_140 k_7_141 k_1_11 k_7_142) rfl rfl rfl (by decide +kernel) ⟨Nat.le_of_ble_eq_true rfl, Nat.le_of_ble_eq_true rfl⟩) (gPS hP hD hK hS hA hX [] (by decide) rfl [.int 4, .int 6]) rfl rfl hl.1 rfl (lv_room (Nat.le_of_ble_eq_true rfl)) d_22_2_3 ⟨Nat.le_of_ble_eq_true rfl, Nat.le_of_ble_eq_true rfl⟩) hS (fun q _ h => hFc1 q h) hFc1 (fun u1 t1 H1 locs1 ht1 hvm1 hw1 hB1 hz1 hk1 hS1 => ?_)
  obtain ⟨hP1, hD1⟩ := gJoin (wr := []) (w1 := []) hP hD [] [] rfl rfl (by decide) (by decide) hk1 hFc1 ht1 hB1
  have hP1 : va_P D cls [] H1 := hP1
  have hD1 : va_D A [] := hD1
  refine W.widen (k := 0) (n := 0) (Nat.le_of_ble_eq_true rfl) (Nat.le_of_ble_eq_true rfl) ?_
  refine lv_aload_n hx hb d_22_2_6 rfl (lv_at hl 0 rfl) ?_
  refine lv_iload_n hx hb d_22_2_7 rfl (lv_at hl 1 rfl) ?_
  refine va_tb (v := .int 108) hx hb ((hX.2.2.2.2.1 1 _ rfl).2.1 0 (by decide)).2.2.2 hS1 (vinC (by decide)) rfl d_22_2_8 ?_
  refine lv_sipush (v := 255) hx hb d_22_2_9 (by decide) ?_
  refine lv_iand hx hb d_22_2_12 ?_
  refine lv_topi (fun y2 ey2 => ?_)
  obtain rfl : y2 = 108 := ey2.trans (by decide)
  refine lv_i2c hx hb d_22_2_13 rfl ?_
  refine lv_topi (fun y3 ey3 => ?_)
  obtain rfl : y3 = 108 := ey3.trans (by decide)
  have hP9 := hP1.sub (ws' := []) [] rfl
  have hD9 := hD1.sub (ws' := []) [] (by decide) rfl
  refine W.widen (k := 0) (n := 0) (Nat.le_of_ble_eq_true rfl) (Nat.le_of_ble_eq_true rfl) ?_
  exact W.zret (v := 108) hx hb hr rfl (fun t ht hW => ⟨⟨108, (), rfl, rfl, by rw [ht]; exact hP9, va_K.moved hW.alike hK, hD9⟩, hS1.F ht⟩) hS1.2.2 d_22_2_14
abbrev Q_String_charAt_4 (D : va_G) (ca : Nat → ClassId)  (A : Nat → Prop) : Array Value → State → Outcome → State → Prop := va_Qi (S := Unit) (fun (r : Int32) (u : Unit) => r = 108) (fun u => gB D ca A []) A
set_option maxHeartbeats 8000000 in
set_option maxRecDepth 100000 in
theorem c_String_charAt_4 (l : Launch) (D : va_G) (ca : Nat → ClassId) (ad av : Nat → Nat) (sz : Nat)   : Met l ({ cls := "java/lang/String", name := "charAt", desc := "(I)C" } : Jvm.MethodName) (Cond.code ({ cls := "java/lang/String", name := "charAt", desc := "(I)C" } : Jvm.MethodName) prog_21_method_56_code 2 (Option.some Jvm.ClassFile.FieldType.char) :: wAll) ({ frames := 3, cells := 0, slots := 0, locals := 64 } : Room) (va_Pc [.ref (ad 1), .int 4] (gPre D ca ad av [] sz)) (Q_String_charAt_4 D ca  (va_A [] sz)) 0 0 (va_A [] sz) := by
  refine gMet (Qc := Q_String_charAt_4 D ca ) (lv := [(0, .ref (ad 1)), (1, .int 4)]) (by decide) (Nat.le_of_ble_eq_true rfl) rfl (fun A p e s m below meth c ls hx hb hr hml hown hts hlk hnm hl hP hK hD hS hA hX => ?_)
  have hown : s.vm.findClass "java/lang/String" = some m.cls := hown
  have hnm : meth.name = "charAt" := hnm
  refine lv_aload_n hx hb d_21_56_0 rfl (lv_at hl 0 rfl) ?_
  have hFc1 := va_free (wc := []) hD hS hA [] rfl
  refine va_calli (va_runV (As := []) (rest := []) ⟨hx, hb, hml, hown, hts⟩ (c_String_isLatin1_0 l D ca ad av s.heap.size  ) (cwV 0 hts (gdV k_3_75 k_3_76 k_3_77 k_1_11 k_3_78) rfl rfl rfl (by decide +kernel) ⟨Nat.le_of_ble_eq_true rfl, Nat.le_of_ble_eq_true rfl⟩) ⟨gBlind, vk_recv (i := 0) (hX.2.2.2.2.1 1 _ rfl).2 (by decide) hS, gAt hP hD hK hS hA hX [] (by decide) rfl [.ref (ad 1)]⟩ rfl rfl hl.1 rfl (lv_room (Nat.le_of_ble_eq_true rfl)) d_21_56_1 ⟨Nat.le_of_ble_eq_true rfl, Nat.le_of_ble_eq_true rfl⟩) hS (fun q _ h => hFc1 q h) hFc1 (fun r1 u1 t1 H1 locs1 ht1 hvm1 hw1 hB1 hz1 hk1 hS1 => ?_)
  have hr1 := hw1
  obtain ⟨hP1, hD1⟩ := gJoin (wr := []) (w1 := []) hP hD [] [] rfl rfl (by decide) (by decide) hk1 hFc1 ht1 hB1
  have hP1 : va_P D cls [] H1 := hP1
  have hD1 : va_D A [] := hD1
  refine W.widen (k := 0) (n := 0) (Nat.le_of_ble_eq_true rfl) (Nat.le_of_ble_eq_true rfl) ?_
  subst hr1
  refine lv_if_eq (tgt := 16) hx hb d_21_56_4 (by decide) (fun c => absurd c (by decide)) (fun _ => ?_)
  refine lv_aload_n hx hb d_21_56_7 rfl (lv_at hl 0 rfl) ?_
  refine vk_getf hx hb ((hX.2.2.2.2.1 1 _ rfl).2.1 0 (by decide)).2.2.1 hS1 hown (hts _ k_15_170) (fun _ h => h) d_21_56_8 ?_
  refine W.eq (g2 := F0 m 11 ls [.ref (av 1)]) rfl ?_
  refine lv_iload_n hx hb d_21_56_11 rfl (lv_at hl 1 rfl) ?_
  have hFc2 := va_free (wc := []) hD1 hS1 hA [] rfl
  refine va_calli (va_runS (As := [.ref (av 1), .int 4]) (rest := []) ⟨hx, hb, hml, hown, hts⟩ (c_StringLatin1_charAt_4 l D ca ad av H1.size  ) (va_cwS 2 hts (gdS k_7_137 k_7_138 k_1_12 k_7_139) rfl rfl rfl (by decide +kernel) ⟨Nat.le_of_ble_eq_true rfl, Nat.le_of_ble_eq_true rfl⟩) (gPS hP1 hD1 hK hS1 hA hX [] (by decide) rfl [.ref (av 1), .int 4]) rfl rfl hl.1 rfl (lv_room (Nat.le_of_ble_eq_true rfl)) d_21_56_12 ⟨Nat.le_of_ble_eq_true rfl, Nat.le_of_ble_eq_true rfl⟩) hS1 (fun q _ h => hFc2 q h) hFc2 (fun r2 u2 t2 H2 locs2 ht2 hvm2 hw2 hB2 hz2 hk2 hS2 => ?_)
  have hr2 := hw2
  obtain ⟨hP2, hD2⟩ := gJoin (wr := []) (w1 := []) hP1 hD1 [] [] rfl rfl (by decide) (by decide) hk2 hFc2 ht2 hB2
  have hP2 : va_P D cls [] H2 := hP2
  have hD2 : va_D A [] := hD2
  refine W.widen (k := 0) (n := 0) (Nat.le_of_ble_eq_true rfl) (Nat.le_of_ble_eq_true rfl) ?_
  subst hr2
  have hP9 := hP2.sub (ws' := []) [] rfl
  have hD9 := hD2.sub (ws' := []) [] (by decide) rfl
  refine W.widen (k := 0) (n := 0) (Nat.le_of_ble_eq_true rfl) (Nat.le_of_ble_eq_true rfl) ?_
  exact W.zret (v := 108) hx hb hr rfl (fun t ht hW => ⟨⟨108, (), rfl, rfl, by rw [ht]; exact hP9, va_K.moved hW.alike hK, hD9⟩, hS2.F ht⟩) hS2.2.2 d_21_56_15
abbrev Q_Preconditions_checkIndex_10 (D : va_G) (ca : Nat → ClassId)  (A : Nat → Prop) : Array Value → State → Outcome → State → Prop := va_Qi (S := Unit) (fun (r : Int32) (u : Unit) => r = 5) (fun u => gB D ca A []) A
set_option maxHeartbeats 8000000 in
set_option maxRecDepth 100000 in
theorem c_Preconditions_checkIndex_10 (l : Launch) (D : va_G) (ca : Nat → ClassId) (ad av : Nat → Nat) (sz : Nat)   : Met l ({ cls := "jdk/internal/util/Preconditions", name := "checkIndex", desc := "(IILjava/util/function/BiFunction;)I" } : Jvm.MethodName) (Cond.code ({ cls := "jdk/internal/util/Preconditions", name := "checkIndex", desc := "(IILjava/util/function/BiFunction;)I" } : Jvm.MethodName) prog_24_method_11_code 3 (Option.some Jvm.ClassFile.FieldType.int) :: wAll) ({ frames := 0, cells := 0, slots := 0, locals := 0 } : Room) (va_Pc [.int 5, .int 6, .null] (gPre D ca ad av [] sz)) (Q_Preconditions_checkIndex_10 D ca  (va_A [] sz)) 0 0 (va_A [] sz) := by
  refine gMet (Qc := Q_Preconditions_checkIndex_10 D ca ) (lv := [(0, .int 5), (1, .int 6), (2, .null)]) (by decide) (Nat.le_of_ble_eq_true rfl) rfl (fun A p e s m below meth c ls hx hb hr hml hown hts hlk hnm hl hP hK hD hS hA hX => ?_)
  have hown : s.vm.findClass "jdk/internal/util/Preconditions" = some m.cls := hown
  have hnm : meth.name = "checkIndex" := hnm
  refine lv_iload_n hx hb d_24_11_0 rfl (lv_at hl 0 rfl) ?_
  refine lv_if_lt (tgt := 9) hx hb d_24_11_1 (by decide) (fun c => absurd c (by decide)) (fun _ => ?_)
  refine lv_iload_n hx hb d_24_11_4 rfl (lv_at hl 0 rfl) ?_
  refine lv_iload_n hx hb d_24_11_5 rfl (lv_at hl 1 rfl) ?_
  refine lv_icmp_lt (tgt := 16) hx hb d_24_11_6 (by decide) (fun _ => ?_) (fun c => absurd (by decide) c)
  refine lv_iload_n hx hb d_24_11_16 rfl (lv_at hl 0 rfl) ?_
  have hP9 := hP.sub (ws' := []) [] rfl
  have hD9 := hD.sub (ws' := []) [] (by decide) rfl
  refine W.widen (k := 0) (n := 0) (Nat.le_of_ble_eq_true rfl) (Nat.le_of_ble_eq_true rfl) ?_
  exact W.iret (v := 5) hx hb hr (fun t ht hW => ⟨⟨5, (), rfl, rfl, by rw [ht]; exact hP9, va_K.moved hW.alike hK, hD9⟩, hS.F ht⟩) hS.2.2 d_24_11_17
abbrev Q_Preconditions_checkIndex_11 (D : va_G) (ca : Nat → ClassId) (r0 : Nat) (A : Nat → Prop) : Array Value → State → Outcome → State → Prop := va_Qi (S := Unit) (fun (r : Int32) (u : Unit) => r = 5) (fun u => gB D ca A []) A
set_option maxHeartbeats 8000000 in
set_option maxRecDepth 100000 in
theorem c_Preconditions_checkIndex_11 (l : Launch) (D : va_G) (ca : Nat → ClassId) (ad av : Nat → Nat) (sz : Nat) (r0 : Nat)  : Met l ({ cls := "jdk/internal/util/Preconditions", name := "checkIndex", desc := "(IILjava/util/function/BiFunction;)I" } : Jvm.MethodName) (Cond.code ({ cls := "jdk/internal/util/Preconditions", name := "checkIndex", desc := "(IILjava/util/function/BiFunction;)I" } : Jvm.MethodName) prog_24_method_11_code 3 (Option.some Jvm.ClassFile.FieldType.int) :: wAll) ({ frames := 0, cells := 0, slots := 0, locals := 0 } : Room) (va_Pc [.int 5, .int 6, .ref r0] (gPre D ca ad av [] sz)) (Q_Preconditions_checkIndex_11 D ca r0 (va_A [] sz)) 0 0 (va_A [] sz) := by
  refine gMet (Qc := Q_Preconditions_checkIndex_11 D ca r0) (lv := [(0, .int 5), (1, .int 6), (2, .ref r0)]) (by decide) (Nat.le_of_ble_eq_true rfl) rfl (fun A p e s m below meth c ls hx hb hr hml hown hts hlk hnm hl hP hK hD hS hA hX => ?_)
  have hown : s.vm.findClass "jdk/internal/util/Preconditions" = some m.cls := hown
  have hnm : meth.name = "checkIndex" := hnm
  refine lv_iload_n hx hb d_24_11_0 rfl (lv_at hl 0 rfl) ?_
  refine lv_if_lt (tgt := 9) hx hb d_24_11_1 (by decide) (fun c => absurd c (by decide)) (fun _ => ?_)
  refine lv_iload_n hx hb d_24_11_4 rfl (lv_at hl 0 rfl) ?_
  refine lv_iload_n hx hb d_24_11_5 rfl (lv_at hl 1 rfl) ?_
  refine lv_icmp_lt (tgt := 16) hx hb d_24_11_6 (by decide) (fun _ => ?_) (fun c => absurd (by decide) c)
  refine lv_iload_n hx hb d_24_11_16 rfl (lv_at hl 0 rfl) ?_
  have hP9 := hP.sub (ws' := []) [] rfl
  have hD9 := hD.sub (ws' := []) [] (by decide) rfl
  refine W.widen (k := 0) (n := 0) (Nat.le_of_ble_eq_true rfl) (Nat.le_of_ble_eq_true rfl) ?_
  exact W.iret (v := 5) hx hb hr (fun t ht hW => ⟨⟨5, (), rfl, rfl, by rw [ht]; exact hP9, va_K.moved hW.alike hK, hD9⟩, hS.F ht⟩) hS.2.2 d_24_11_17
abbrev Q_String_checkIndex_5 (D : va_G) (ca : Nat → ClassId)  (A : Nat → Prop) : Array Value → State → Outcome → State → Prop := va_Qv (S := Unit) (fun (u : Unit) => True) (fun u => gB D ca A []) A
set_option maxHeartbeats 8000000 in
set_option maxRecDepth 100000 in
theorem c_String_checkIndex_5 (l : Launch) (D : va_G) (ca : Nat → ClassId) (ad av : Nat → Nat) (sz : Nat)   : Met l ({ cls := "java/lang/String", name := "checkIndex", desc := "(II)V" } : Jvm.MethodName) (Cond.code ({ cls := "java/lang/String", name := "checkIndex", desc := "(II)V" } : Jvm.MethodName) prog_21_method_155_code 2 (Option.none : Option Jvm.ClassFile.FieldType) :: wAll) ({ frames := 1, cells := 0, slots := 0, locals := 22 } : Room) (va_Pc [.int 5, .int 6] (gPre D ca ad av [] sz)) (Q_String_checkIndex_5 D ca  (va_A [] sz)) 0 0 (va_A [] sz) := by
  refine gMet (Qc := Q_String_checkIndex_5 D ca ) (lv := [(0, .int 5), (1, .int 6)]) (by decide) (Nat.le_of_ble_eq_true rfl) rfl (fun A p e s m below meth c ls hx hb hr hml hown hts hlk hnm hl hP hK hD hS hA hX => ?_)
  have hown : s.vm.findClass "java/lang/String" = some m.cls := hown
  have hnm : meth.name = "checkIndex" := hnm
  refine lv_iload_n hx hb d_21_155_0 rfl (lv_at hl 0 rfl) ?_
  refine lv_iload_n hx hb d_21_155_1 rfl (lv_at hl 1 rfl) ?_
  rcases hX.2.2.2.2.2 with hz1 | ⟨tz1, hz1⟩
  · refine va_gets hx hb hz1 hS hown (hts _ k_3_120) (fun _ h => h) d_21_155_2 ?_
    have hFc2 := va_free (wc := []) hD hS hA [] rfl
    refine va_calli (va_runS (As := [.int 5, .int 6, .null]) (rest := []) ⟨hx, hb, hml, hown, hts⟩ (c_Preconditions_checkIndex_10 l D ca ad av s.heap.size  ) (va_cwS 3 hts (gdS k_7_143 k_7_144 k_1_13 k_7_145) rfl rfl rfl (by decide +kernel) ⟨Nat.le_of_ble_eq_true rfl, Nat.le_of_ble_eq_true rfl⟩) (gPS hP hD hK hS hA hX [] (by decide) rfl [.int 5, .int 6, .null]) rfl rfl hl.1 rfl (lv_room (Nat.le_of_ble_eq_true rfl)) d_21_155_5 ⟨Nat.le_of_ble_eq_true rfl, Nat.le_of_ble_eq_true rfl⟩) hS (fun q _ h => hFc2 q h) hFc2 (fun r2 u2 t2 H2 locs2 ht2 hvm2 hw2 hB2 hz2 hk2 hS2 => ?_)
    have hr2 := hw2
    obtain ⟨hP2, hD2⟩ := gJoin (wr := []) (w1 := []) hP hD [] [] rfl rfl (by decide) (by decide) hk2 hFc2 ht2 hB2
    have hP2 : va_P D cls [] H2 := hP2
    have hD2 : va_D A [] := hD2
    refine W.widen (k := 0) (n := 0) (Nat.le_of_ble_eq_true rfl) (Nat.le_of_ble_eq_true rfl) ?_
    subst hr2
    refine lv_pop hx hb d_21_155_8 rfl ?_
    have hP9 := hP2.sub (ws' := []) [] rfl
    have hD9 := hD2.sub (ws' := []) [] (by decide) rfl
    refine W.widen (k := 0) (n := 0) (Nat.le_of_ble_eq_true rfl) (Nat.le_of_ble_eq_true rfl) ?_
    exact W.vret hx hb hr (fun t ht hW => ⟨⟨(), rfl, trivial, by rw [ht]; exact hP9, va_K.moved hW.alike hK, hD9⟩, hS2.F ht⟩) hS2.2.2 d_21_155_9
  · refine va_gets hx hb hz1 hS hown (hts _ k_3_120) (fun _ h => h) d_21_155_2 ?_
    have hFc3 := va_free (wc := []) hD hS hA [] rfl
    refine va_calli (va_runS (As := [.int 5, .int 6, .ref tz1]) (rest := []) ⟨hx, hb, hml, hown, hts⟩ (c_Preconditions_checkIndex_11 l D ca ad av s.heap.size tz1 ) (va_cwS 3 hts (gdS k_7_143 k_7_144 k_1_13 k_7_145) rfl rfl rfl (by decide +kernel) ⟨Nat.le_of_ble_eq_true rfl, Nat.le_of_ble_eq_true rfl⟩) (gPS hP hD hK hS hA hX [] (by decide) rfl [.int 5, .int 6, .ref tz1]) rfl rfl hl.1 rfl (lv_room (Nat.le_of_ble_eq_true rfl)) d_21_155_5 ⟨Nat.le_of_ble_eq_true rfl, Nat.le_of_ble_eq_true rfl⟩) hS (fun q _ h => hFc3 q h) hFc3 (fun r3 u3 t3 H3 locs3 ht3 hvm3 hw3 hB3 hz3 hk3 hS3 => ?_)
    have hr3 := hw3
    obtain ⟨hP3, hD3⟩ := gJoin (wr := []) (w1 := []) hP hD [] [] rfl rfl (by decide) (by decide) hk3 hFc3 ht3 hB3
    have hP3 : va_P D cls [] H3 := hP3
    have hD3 : va_D A [] := hD3
    refine W.widen (k := 0) (n := 0) (Nat.le_of_ble_eq_true rfl) (Nat.le_of_ble_eq_true rfl) ?_
    subst hr3
    refine lv_pop hx hb d_21_155_8 rfl ?_
    have hP9 := hP3.sub (ws' := []) [] rfl
    have hD9 := hD3.sub (ws' := []) [] (by decide) rfl
    refine W.widen (k := 0) (n := 0) (Nat.le_of_ble_eq_true rfl) (Nat.le_of_ble_eq_true rfl) ?_
    exact W.vret hx hb hr (fun t ht hW => ⟨⟨(), rfl, trivial, by rw [ht]; exact hP9, va_K.moved hW.alike hK, hD9⟩, hS3.F ht⟩) hS3.2.2 d_21_155_9
abbrev Q_StringLatin1_charAt_5 (D : va_G) (ca : Nat → ClassId)  (A : Nat → Prop) : Array Value → State → Outcome → State → Prop := va_Qi (S := Unit) (fun (r : Int32) (u : Unit) => r = 101) (fun u => gB D ca A []) A
set_option maxHeartbeats 8000000 in
set_option maxRecDepth 100000 in
theorem c_StringLatin1_charAt_5 (l : Launch) (D : va_G) (ca : Nat → ClassId) (ad av : Nat → Nat) (sz : Nat)   : Met l ({ cls := "java/lang/StringLatin1", name := "charAt", desc := "([BI)C" } : Jvm.MethodName) (Cond.code ({ cls := "java/lang/StringLatin1", name := "charAt", desc := "([BI)C" } : Jvm.MethodName) prog_22_method_2_code 2 (Option.some Jvm.ClassFile.FieldType.char) :: wAll) ({ frames := 2, cells := 0, slots := 0, locals := 43 } : Room) (va_Pc [.ref (av 1), .int 5] (gPre D ca ad av [] sz)) (Q_StringLatin1_charAt_5 D ca  (va_A [] sz)) 0 0 (va_A [] sz) := by
  refine gMet (Qc := Q_StringLatin1_charAt_5 D ca ) (lv := [(0, .ref (av 1)), (1, .int 5)]) (by decide) (Nat.le_of_ble_eq_true rfl) rfl (fun A p e s m below meth c ls hx hb hr hml hown hts hlk hnm hl hP hK hD hS hA hX => ?_)
  have hown : s.vm.findClass "java/lang/StringLatin1" = some m.cls := hown
  have hnm : meth.name = "charAt" := hnm
  refine lv_iload_n hx hb d_22_2_0 rfl (lv_at hl 1 rfl) ?_
  refine lv_aload_n hx hb d_22_2_1 rfl (lv_at hl 0 rfl) ?_
  refine va_tlen (v := 6) hx hb ((hX.2.2.2.2.1 1 _ rfl).2.1 0 (by decide)).2.2.2 hS (by decide) d_22_2_2 ?_
  have hFc1 := va_free (wc := []) hD hS hA [] rfl
  refine va_callv (va_runS (As := [.int 5, .int 6]) (rest := []) ⟨hx, hb, hml, hown, hts⟩ (c_String_checkIndex_5 l D ca ad av s.heap.size  ) (va_cwS 2 hts (gdS k_7_140 k_7_141 k_1_11 k_7_142) rfl rfl rfl (by decide +kernel) ⟨Nat.le_of_ble_eq_true rfl, Nat.le_of_ble_eq_true rfl⟩) (gPS hP hD hK hS hA hX [] (by decide) rfl [.int 5, .int 6]) rfl rfl hl.1 rfl (lv_room (Nat.le_of_ble_eq_true rfl)) d_22_2_3 ⟨Nat.le_of_ble_eq_true rfl, Nat.le_of_ble_eq_true rfl⟩) hS (fun q _ h => hFc1 q h) hFc1 (fun u1 t1 H1 locs1 ht1 hvm1 hw1 hB1 hz1 hk1 hS1 => ?_)
  obtain ⟨hP1, hD1⟩ := gJoin (wr := []) (w1 := []) hP hD [] [] rfl rfl (by decide) (by decide) hk1 hFc1 ht1 hB1
  have hP1 : va_P D cls [] H1 := hP1
  have hD1 : va_D A [] := hD1
  refine W.widen (k := 0) (n := 0) (Nat.le_of_ble_eq_true rfl) (Nat.le_of_ble_eq_true rfl) ?_
  refine lv_aload_n hx hb d_22_2_6 rfl (lv_at hl 0 rfl) ?_
  refine lv_iload_n hx hb d_22_2_7 rfl (lv_at hl 1 rfl) ?_
  refine va_tb (v := .int 101) hx hb ((hX.2.2.2.2.1 1 _ rfl).2.1 0 (by decide)).2.2.2 hS1 (vinC (by decide)) rfl d_22_2_8 ?_
  refine lv_sipush (v := 255) hx hb d_22_2_9 (by decide) ?_
  refine lv_iand hx hb d_22_2_12 ?_
  refine lv_topi (fun y2 ey2 => ?_)
  obtain rfl : y2 = 101 := ey2.trans (by decide)
  refine lv_i2c hx hb d_22_2_13 rfl ?_
  refine lv_topi (fun y3 ey3 => ?_)
  obtain rfl : y3 = 101 := ey3.trans (by decide)
  have hP9 := hP1.sub (ws' := []) [] rfl
  have hD9 := hD1.sub (ws' := []) [] (by decide) rfl
  refine W.widen (k := 0) (n := 0) (Nat.le_of_ble_eq_true rfl) (Nat.le_of_ble_eq_true rfl) ?_
  exact W.zret (v := 101) hx hb hr rfl (fun t ht hW => ⟨⟨101, (), rfl, rfl, by rw [ht]; exact hP9, va_K.moved hW.alike hK, hD9⟩, hS1.F ht⟩) hS1.2.2 d_22_2_14
abbrev Q_String_charAt_5 (D : va_G) (ca : Nat → ClassId)  (A : Nat → Prop) : Array Value → State → Outcome → State → Prop := va_Qi (S := Unit) (fun (r : Int32) (u : Unit) => r = 101) (fun u => gB D ca A []) A
set_option maxHeartbeats 8000000 in
set_option maxRecDepth 100000 in
theorem c_String_charAt_5 (l : Launch) (D : va_G) (ca : Nat → ClassId) (ad av : Nat → Nat) (sz : Nat)   : Met l ({ cls := "java/lang/String", name := "charAt", desc := "(I)C" } : Jvm.MethodName) (Cond.code ({ cls := "java/lang/String", name := "charAt", desc := "(I)C" } : Jvm.MethodName) prog_21_method_56_code 2 (Option.some Jvm.ClassFile.FieldType.char) :: wAll) ({ frames := 3, cells := 0, slots := 0, locals := 64 } : Room) (va_Pc [.ref (ad 1), .int 5] (gPre D ca ad av [] sz)) (Q_String_charAt_5 D ca  (va_A [] sz)) 0 0 (va_A [] sz) := by
  refine gMet (Qc := Q_String_charAt_5 D ca ) (lv := [(0, .ref (ad 1)), (1, .int 5)]) (by decide) (Nat.le_of_ble_eq_true rfl) rfl (fun A p e s m below meth c ls hx hb hr hml hown hts hlk hnm hl hP hK hD hS hA hX => ?_)
  have hown : s.vm.findClass "java/lang/String" = some m.cls := hown
  have hnm : meth.name = "charAt" := hnm
  refine lv_aload_n hx hb d_21_56_0 rfl (lv_at hl 0 rfl) ?_
  have hFc1 := va_free (wc := []) hD hS hA [] rfl
  refine va_calli (va_runV (As := []) (rest := []) ⟨hx, hb, hml, hown, hts⟩ (c_String_isLatin1_0 l D ca ad av s.heap.size  ) (cwV 0 hts (gdV k_3_75 k_3_76 k_3_77 k_1_11 k_3_78) rfl rfl rfl (by decide +kernel) ⟨Nat.le_of_ble_eq_true rfl, Nat.le_of_ble_eq_true rfl⟩) ⟨gBlind, vk_recv (i := 0) (hX.2.2.2.2.1 1 _ rfl).2 (by decide) hS, gAt hP hD hK hS hA hX [] (by decide) rfl [.ref (ad 1)]⟩ rfl rfl hl.1 rfl (lv_room (Nat.le_of_ble_eq_true rfl)) d_21_56_1 ⟨Nat.le_of_ble_eq_true rfl, Nat.le_of_ble_eq_true rfl⟩) hS (fun q _ h => hFc1 q h) hFc1 (fun r1 u1 t1 H1 locs1 ht1 hvm1 hw1 hB1 hz1 hk1 hS1 => ?_)
  have hr1 := hw1
  obtain ⟨hP1, hD1⟩ := gJoin (wr := []) (w1 := []) hP hD [] [] rfl rfl (by decide) (by decide) hk1 hFc1 ht1 hB1
  have hP1 : va_P D cls [] H1 := hP1
  have hD1 : va_D A [] := hD1
  refine W.widen (k := 0) (n := 0) (Nat.le_of_ble_eq_true rfl) (Nat.le_of_ble_eq_true rfl) ?_
  subst hr1
  refine lv_if_eq (tgt := 16) hx hb d_21_56_4 (by decide) (fun c => absurd c (by decide)) (fun _ => ?_)
  refine lv_aload_n hx hb d_21_56_7 rfl (lv_at hl 0 rfl) ?_
  refine vk_getf hx hb ((hX.2.2.2.2.1 1 _ rfl).2.1 0 (by decide)).2.2.1 hS1 hown (hts _ k_15_170) (fun _ h => h) d_21_56_8 ?_
  refine W.eq (g2 := F0 m 11 ls [.ref (av 1)]) rfl ?_
  refine lv_iload_n hx hb d_21_56_11 rfl (lv_at hl 1 rfl) ?_
  have hFc2 := va_free (wc := []) hD1 hS1 hA [] rfl
  refine va_calli (va_runS (As := [.ref (av 1), .int 5]) (rest := []) ⟨hx, hb, hml, hown, hts⟩ (c_StringLatin1_charAt_5 l D ca ad av H1.size  ) (va_cwS 2 hts (gdS k_7_137 k_7_138 k_1_12 k_7_139) rfl rfl rfl (by decide +kernel) ⟨Nat.le_of_ble_eq_true rfl, Nat.le_of_ble_eq_true rfl⟩) (gPS hP1 hD1 hK hS1 hA hX [] (by decide) rfl [.ref (av 1), .int 5]) rfl rfl hl.1 rfl (lv_room (Nat.le_of_ble_eq_true rfl)) d_21_56_12 ⟨Nat.le_of_ble_eq_true rfl, Nat.le_of_ble_eq_true rfl⟩) hS1 (fun q _ h => hFc2 q h) hFc2 (fun r2 u2 t2 H2 locs2 ht2 hvm2 hw2 hB2 hz2 hk2 hS2 => ?_)
  have hr2 := hw2
  obtain ⟨hP2, hD2⟩ := gJoin (wr := []) (w1 := []) hP1 hD1 [] [] rfl rfl (by decide) (by decide) hk2 hFc2 ht2 hB2
  have hP2 : va_P D cls [] H2 := hP2
  have hD2 : va_D A [] := hD2
  refine W.widen (k := 0) (n := 0) (Nat.le_of_ble_eq_true rfl) (Nat.le_of_ble_eq_true rfl) ?_
  subst hr2
  have hP9 := hP2.sub (ws' := []) [] rfl
  have hD9 := hD2.sub (ws' := []) [] (by decide) rfl
  refine W.widen (k := 0) (n := 0) (Nat.le_of_ble_eq_true rfl) (Nat.le_of_ble_eq_true rfl) ?_
  exact W.zret (v := 101) hx hb hr rfl (fun t ht hW => ⟨⟨101, (), rfl, rfl, by rw [ht]; exact hP9, va_K.moved hW.alike hK, hD9⟩, hS2.F ht⟩) hS2.2.2 d_21_56_15
abbrev Q_M_code_0 (D : va_G) (ca : Nat → ClassId)  (A : Nat → Prop) : Array Value → State → Outcome → State → Prop := va_Ql (S := Unit) (fun (r : Int64) (u : Unit) => r = 128034676042853) (fun u => gB D ca A []) A
set_option maxHeartbeats 8000000 in
set_option maxRecDepth 100000 in
theorem c_M_code_0 (l : Launch) (D : va_G) (ca : Nat → ClassId) (ad av : Nat → Nat) (sz : Nat)   : Met l ({ cls := "StaveHouseModel", name := "code", desc := "(Ljava/lang/String;)J" } : Jvm.MethodName) (Cond.code ({ cls := "StaveHouseModel", name := "code", desc := "(Ljava/lang/String;)J" } : Jvm.MethodName) prog_15_method_24_code 4 (Option.some Jvm.ClassFile.FieldType.long) :: wAll) ({ frames := 4, cells := 0, slots := 0, locals := 85 } : Room) (va_Pc [.ref (ad 1)] (gPre D ca ad av [] sz)) (Q_M_code_0 D ca  (va_A [] sz)) 0 0 (va_A [] sz) := by
  refine gMet (Qc := Q_M_code_0 D ca ) (lv := [(0, .ref (ad 1))]) (by decide) (Nat.le_of_ble_eq_true rfl) rfl (fun A p e s m below meth c ls hx hb hr hml hown hts hlk hnm hl hP hK hD hS hA hX => ?_)
  have hown : s.vm.findClass "StaveHouseModel" = some m.cls := hown
  have hnm : meth.name = "code" := hnm
  refine lv_lconst (v := 0) hx hb d_15_24_0 (by decide) ?_
  refine lv_lstore_n (lv' := [(1, .long 0), (0, .ref (ad 1))]) hx hb d_15_24_1 rfl hl (by decide) rfl (fun ls hl => ?_)
  refine lv_iconst (v := 0) hx hb d_15_24_2 (by decide) ?_
  refine lv_istore_n (lv' := [(3, .int 0), (1, .long 0), (0, .ref (ad 1))]) hx hb d_15_24_3 rfl hl (by decide) rfl (fun ls hl => ?_)
  refine lv_iload_n hx hb d_15_24_4 rfl (lv_at hl 0 rfl) ?_
  refine lv_aload_n hx hb d_15_24_5 rfl (lv_at hl 2 rfl) ?_
  have hFc1 := va_free (wc := []) hD hS hA [] rfl
  refine va_calli (va_runV (As := []) (rest := [.int 0]) ⟨hx, hb, hml, hown, hts⟩ (c_String_length_0 l D ca ad av s.heap.size  ) (cwV 0 hts (gdV k_10_194 k_3_82 k_3_83 k_1_11 k_3_84) rfl rfl rfl (by decide +kernel) ⟨Nat.le_of_ble_eq_true rfl, Nat.le_of_ble_eq_true rfl⟩) ⟨gBlind, vk_recv (i := 0) (hX.2.2.2.2.1 1 _ rfl).2 (by decide) hS, gAt hP hD hK hS hA hX [] (by decide) rfl [.ref (ad 1)]⟩ rfl rfl hl.1 rfl (lv_room (Nat.le_of_ble_eq_true rfl)) d_15_24_6 ⟨Nat.le_of_ble_eq_true rfl, Nat.le_of_ble_eq_true rfl⟩) hS (fun q _ h => hFc1 q h) hFc1 (fun r1 u1 t1 H1 locs1 ht1 hvm1 hw1 hB1 hz1 hk1 hS1 => ?_)
  have hr1 := hw1
  obtain ⟨hP1, hD1⟩ := gJoin (wr := []) (w1 := []) hP hD [] [] rfl rfl (by decide) (by decide) hk1 hFc1 ht1 hB1
  have hP1 : va_P D cls [] H1 := hP1
  have hD1 : va_D A [] := hD1
  refine W.widen (k := 0) (n := 0) (Nat.le_of_ble_eq_true rfl) (Nat.le_of_ble_eq_true rfl) ?_
  subst hr1
  refine lv_icmp_ge (tgt := 30) hx hb d_15_24_9 (by decide) (fun c => absurd c (by decide)) (fun _ => ?_)
  refine lv_lload_n hx hb d_15_24_12 rfl (lv_at hl 1 rfl) ?_
  refine lv_bipush (v := 8) hx hb d_15_24_13 (by decide) ?_
  refine lv_lshl hx hb d_15_24_15 rfl ?_
  refine lv_topl (fun y2 ey2 => ?_)
  obtain rfl : y2 = 0 := ey2.trans (by decide)
  refine lv_aload_n hx hb d_15_24_16 rfl (lv_at hl 2 rfl) ?_
  refine lv_iload_n hx hb d_15_24_17 rfl (lv_at hl 0 rfl) ?_
  have hFc3 := va_free (wc := []) hD1 hS1 hA [] rfl
  refine va_calli (va_runV (As := [.int 0]) (rest := [.long 0]) ⟨hx, hb, hml, hown, hts⟩ (c_String_charAt_0 l D ca ad av H1.size  ) (cwV 1 hts (gdV k_10_195 k_7_134 k_7_135 k_1_11 k_7_136) rfl rfl rfl (by decide +kernel) ⟨Nat.le_of_ble_eq_true rfl, Nat.le_of_ble_eq_true rfl⟩) ⟨gBlind, vk_recv (i := 0) (hX.2.2.2.2.1 1 _ rfl).2 (by decide) hS1, gAt hP1 hD1 hK hS1 hA hX [] (by decide) rfl [.ref (ad 1), .int 0]⟩ rfl rfl hl.1 rfl (lv_room (Nat.le_of_ble_eq_true rfl)) d_15_24_18 ⟨Nat.le_of_ble_eq_true rfl, Nat.le_of_ble_eq_true rfl⟩) hS1 (fun q _ h => hFc3 q h) hFc3 (fun r3 u3 t3 H3 locs3 ht3 hvm3 hw3 hB3 hz3 hk3 hS3 => ?_)
  have hr3 := hw3
  obtain ⟨hP3, hD3⟩ := gJoin (wr := []) (w1 := []) hP1 hD1 [] [] rfl rfl (by decide) (by decide) hk3 hFc3 ht3 hB3
  have hP3 : va_P D cls [] H3 := hP3
  have hD3 : va_D A [] := hD3
  refine W.widen (k := 0) (n := 0) (Nat.le_of_ble_eq_true rfl) (Nat.le_of_ble_eq_true rfl) ?_
  subst hr3
  refine lv_i2l hx hb d_15_24_21 rfl ?_
  refine lv_topl (fun y4 ey4 => ?_)
  obtain rfl : y4 = 116 := ey4.trans (by decide)
  refine lv_lor hx hb d_15_24_22 ?_
  refine lv_topl (fun y5 ey5 => ?_)
  obtain rfl : y5 = 116 := ey5.trans (by decide)
  refine lv_lstore_n (lv' := [(1, .long 116), (3, .int 0), (0, .ref (ad 1))]) hx hb d_15_24_23 rfl hl (by decide) rfl (fun ls hl => ?_)
  refine lv_iinc (v := 1) (lv' := [(3, .int 1), (1, .long 116), (0, .ref (ad 1))]) hx hb d_15_24_24 hl (k := 1) rfl (by decide) (by decide) rfl (fun ls hl => ?_)
  refine lv_goto (tgt := 4) hx hb d_15_24_27 (by decide) ?_
  refine lv_iload_n hx hb d_15_24_4 rfl (lv_at hl 0 rfl) ?_
  refine lv_aload_n hx hb d_15_24_5 rfl (lv_at hl 2 rfl) ?_
  have hFc6 := va_free (wc := []) hD3 hS3 hA [] rfl
  refine va_calli (va_runV (As := []) (rest := [.int 1]) ⟨hx, hb, hml, hown, hts⟩ (c_String_length_0 l D ca ad av H3.size  ) (cwV 0 hts (gdV k_10_194 k_3_82 k_3_83 k_1_11 k_3_84) rfl rfl rfl (by decide +kernel) ⟨Nat.le_of_ble_eq_true rfl, Nat.le_of_ble_eq_true rfl⟩) ⟨gBlind, vk_recv (i := 0) (hX.2.2.2.2.1 1 _ rfl).2 (by decide) hS3, gAt hP3 hD3 hK hS3 hA hX [] (by decide) rfl [.ref (ad 1)]⟩ rfl rfl hl.1 rfl (lv_room (Nat.le_of_ble_eq_true rfl)) d_15_24_6 ⟨Nat.le_of_ble_eq_true rfl, Nat.le_of_ble_eq_true rfl⟩) hS3 (fun q _ h => hFc6 q h) hFc6 (fun r6 u6 t6 H6 locs6 ht6 hvm6 hw6 hB6 hz6 hk6 hS6 => ?_)
  have hr6 := hw6
  obtain ⟨hP6, hD6⟩ := gJoin (wr := []) (w1 := []) hP3 hD3 [] [] rfl rfl (by decide) (by decide) hk6 hFc6 ht6 hB6
  have hP6 : va_P D cls [] H6 := hP6
  have hD6 : va_D A [] := hD6
  refine W.widen (k := 0) (n := 0) (Nat.le_of_ble_eq_true rfl) (Nat.le_of_ble_eq_true rfl) ?_
  subst hr6
  refine lv_icmp_ge (tgt := 30) hx hb d_15_24_9 (by decide) (fun c => absurd c (by decide)) (fun _ => ?_)
  refine lv_lload_n hx hb d_15_24_12 rfl (lv_at hl 1 rfl) ?_
  refine lv_bipush (v := 8) hx hb d_15_24_13 (by decide) ?_
  refine lv_lshl hx hb d_15_24_15 rfl ?_
  refine lv_topl (fun y7 ey7 => ?_)
  obtain rfl : y7 = 29696 := ey7.trans (by decide)
  refine lv_aload_n hx hb d_15_24_16 rfl (lv_at hl 2 rfl) ?_
  refine lv_iload_n hx hb d_15_24_17 rfl (lv_at hl 0 rfl) ?_
  have hFc8 := va_free (wc := []) hD6 hS6 hA [] rfl
  refine va_calli (va_runV (As := [.int 1]) (rest := [.long 29696]) ⟨hx, hb, hml, hown, hts⟩ (c_String_charAt_1 l D ca ad av H6.size  ) (cwV 1 hts (gdV k_10_195 k_7_134 k_7_135 k_1_11 k_7_136) rfl rfl rfl (by decide +kernel) ⟨Nat.le_of_ble_eq_true rfl, Nat.le_of_ble_eq_true rfl⟩) ⟨gBlind, vk_recv (i := 0) (hX.2.2.2.2.1 1 _ rfl).2 (by decide) hS6, gAt hP6 hD6 hK hS6 hA hX [] (by decide) rfl [.ref (ad 1), .int 1]⟩ rfl rfl hl.1 rfl (lv_room (Nat.le_of_ble_eq_true rfl)) d_15_24_18 ⟨Nat.le_of_ble_eq_true rfl, Nat.le_of_ble_eq_true rfl⟩) hS6 (fun q _ h => hFc8 q h) hFc8 (fun r8 u8 t8 H8 locs8 ht8 hvm8 hw8 hB8 hz8 hk8 hS8 => ?_)
  have hr8 := hw8
  obtain ⟨hP8, hD8⟩ := gJoin (wr := []) (w1 := []) hP6 hD6 [] [] rfl rfl (by decide) (by decide) hk8 hFc8 ht8 hB8
  have hP8 : va_P D cls [] H8 := hP8
  have hD8 : va_D A [] := hD8
  refine W.widen (k := 0) (n := 0) (Nat.le_of_ble_eq_true rfl) (Nat.le_of_ble_eq_true rfl) ?_
  subst hr8
  refine lv_i2l hx hb d_15_24_21 rfl ?_
  refine lv_topl (fun y9 ey9 => ?_)
  obtain rfl : y9 = 114 := ey9.trans (by decide)
  refine lv_lor hx hb d_15_24_22 ?_
  refine lv_topl (fun y10 ey10 => ?_)
  obtain rfl : y10 = 29810 := ey10.trans (by decide)
  refine lv_lstore_n (lv' := [(1, .long 29810), (3, .int 1), (0, .ref (ad 1))]) hx hb d_15_24_23 rfl hl (by decide) rfl (fun ls hl => ?_)
  refine lv_iinc (v := 2) (lv' := [(3, .int 2), (1, .long 29810), (0, .ref (ad 1))]) hx hb d_15_24_24 hl (k := 1) rfl (by decide) (by decide) rfl (fun ls hl => ?_)
  refine lv_goto (tgt := 4) hx hb d_15_24_27 (by decide) ?_
  refine lv_iload_n hx hb d_15_24_4 rfl (lv_at hl 0 rfl) ?_
  refine lv_aload_n hx hb d_15_24_5 rfl (lv_at hl 2 rfl) ?_
  have hFc11 := va_free (wc := []) hD8 hS8 hA [] rfl
  refine va_calli (va_runV (As := []) (rest := [.int 2]) ⟨hx, hb, hml, hown, hts⟩ (c_String_length_0 l D ca ad av H8.size  ) (cwV 0 hts (gdV k_10_194 k_3_82 k_3_83 k_1_11 k_3_84) rfl rfl rfl (by decide +kernel) ⟨Nat.le_of_ble_eq_true rfl, Nat.le_of_ble_eq_true rfl⟩) ⟨gBlind, vk_recv (i := 0) (hX.2.2.2.2.1 1 _ rfl).2 (by decide) hS8, gAt hP8 hD8 hK hS8 hA hX [] (by decide) rfl [.ref (ad 1)]⟩ rfl rfl hl.1 rfl (lv_room (Nat.le_of_ble_eq_true rfl)) d_15_24_6 ⟨Nat.le_of_ble_eq_true rfl, Nat.le_of_ble_eq_true rfl⟩) hS8 (fun q _ h => hFc11 q h) hFc11 (fun r11 u11 t11 H11 locs11 ht11 hvm11 hw11 hB11 hz11 hk11 hS11 => ?_)
  have hr11 := hw11
  obtain ⟨hP11, hD11⟩ := gJoin (wr := []) (w1 := []) hP8 hD8 [] [] rfl rfl (by decide) (by decide) hk11 hFc11 ht11 hB11
  have hP11 : va_P D cls [] H11 := hP11
  have hD11 : va_D A [] := hD11
  refine W.widen (k := 0) (n := 0) (Nat.le_of_ble_eq_true rfl) (Nat.le_of_ble_eq_true rfl) ?_
  subst hr11
  refine lv_icmp_ge (tgt := 30) hx hb d_15_24_9 (by decide) (fun c => absurd c (by decide)) (fun _ => ?_)
  refine lv_lload_n hx hb d_15_24_12 rfl (lv_at hl 1 rfl) ?_
  refine lv_bipush (v := 8) hx hb d_15_24_13 (by decide) ?_
  refine lv_lshl hx hb d_15_24_15 rfl ?_
  refine lv_topl (fun y12 ey12 => ?_)
  obtain rfl : y12 = 7631360 := ey12.trans (by decide)
  refine lv_aload_n hx hb d_15_24_16 rfl (lv_at hl 2 rfl) ?_
  refine lv_iload_n hx hb d_15_24_17 rfl (lv_at hl 0 rfl) ?_
  have hFc13 := va_free (wc := []) hD11 hS11 hA [] rfl
  refine va_calli (va_runV (As := [.int 2]) (rest := [.long 7631360]) ⟨hx, hb, hml, hown, hts⟩ (c_String_charAt_2 l D ca ad av H11.size  ) (cwV 1 hts (gdV k_10_195 k_7_134 k_7_135 k_1_11 k_7_136) rfl rfl rfl (by decide +kernel) ⟨Nat.le_of_ble_eq_true rfl, Nat.le_of_ble_eq_true rfl⟩) ⟨gBlind, vk_recv (i := 0) (hX.2.2.2.2.1 1 _ rfl).2 (by decide) hS11, gAt hP11 hD11 hK hS11 hA hX [] (by decide) rfl [.ref (ad 1), .int 2]⟩ rfl rfl hl.1 rfl (lv_room (Nat.le_of_ble_eq_true rfl)) d_15_24_18 ⟨Nat.le_of_ble_eq_true rfl, Nat.le_of_ble_eq_true rfl⟩) hS11 (fun q _ h => hFc13 q h) hFc13 (fun r13 u13 t13 H13 locs13 ht13 hvm13 hw13 hB13 hz13 hk13 hS13 => ?_)
  have hr13 := hw13
  obtain ⟨hP13, hD13⟩ := gJoin (wr := []) (w1 := []) hP11 hD11 [] [] rfl rfl (by decide) (by decide) hk13 hFc13 ht13 hB13
  have hP13 : va_P D cls [] H13 := hP13
  have hD13 : va_D A [] := hD13
  refine W.widen (k := 0) (n := 0) (Nat.le_of_ble_eq_true rfl) (Nat.le_of_ble_eq_true rfl) ?_
  subst hr13
  refine lv_i2l hx hb d_15_24_21 rfl ?_
  refine lv_topl (fun y14 ey14 => ?_)
  obtain rfl : y14 = 101 := ey14.trans (by decide)
  refine lv_lor hx hb d_15_24_22 ?_
  refine lv_topl (fun y15 ey15 => ?_)
  obtain rfl : y15 = 7631461 := ey15.trans (by decide)
  refine lv_lstore_n (lv' := [(1, .long 7631461), (3, .int 2), (0, .ref (ad 1))]) hx hb d_15_24_23 rfl hl (by decide) rfl (fun ls hl => ?_)
  refine lv_iinc (v := 3) (lv' := [(3, .int 3), (1, .long 7631461), (0, .ref (ad 1))]) hx hb d_15_24_24 hl (k := 1) rfl (by decide) (by decide) rfl (fun ls hl => ?_)
  refine lv_goto (tgt := 4) hx hb d_15_24_27 (by decide) ?_
  refine lv_iload_n hx hb d_15_24_4 rfl (lv_at hl 0 rfl) ?_
  refine lv_aload_n hx hb d_15_24_5 rfl (lv_at hl 2 rfl) ?_
  have hFc16 := va_free (wc := []) hD13 hS13 hA [] rfl
  refine va_calli (va_runV (As := []) (rest := [.int 3]) ⟨hx, hb, hml, hown, hts⟩ (c_String_length_0 l D ca ad av H13.size  ) (cwV 0 hts (gdV k_10_194 k_3_82 k_3_83 k_1_11 k_3_84) rfl rfl rfl (by decide +kernel) ⟨Nat.le_of_ble_eq_true rfl, Nat.le_of_ble_eq_true rfl⟩) ⟨gBlind, vk_recv (i := 0) (hX.2.2.2.2.1 1 _ rfl).2 (by decide) hS13, gAt hP13 hD13 hK hS13 hA hX [] (by decide) rfl [.ref (ad 1)]⟩ rfl rfl hl.1 rfl (lv_room (Nat.le_of_ble_eq_true rfl)) d_15_24_6 ⟨Nat.le_of_ble_eq_true rfl, Nat.le_of_ble_eq_true rfl⟩) hS13 (fun q _ h => hFc16 q h) hFc16 (fun r16 u16 t16 H16 locs16 ht16 hvm16 hw16 hB16 hz16 hk16 hS16 => ?_)
  have hr16 := hw16
  obtain ⟨hP16, hD16⟩ := gJoin (wr := []) (w1 := []) hP13 hD13 [] [] rfl rfl (by decide) (by decide) hk16 hFc16 ht16 hB16
  have hP16 : va_P D cls [] H16 := hP16
  have hD16 : va_D A [] := hD16
  refine W.widen (k := 0) (n := 0) (Nat.le_of_ble_eq_true rfl) (Nat.le_of_ble_eq_true rfl) ?_
  subst hr16
  refine lv_icmp_ge (tgt := 30) hx hb d_15_24_9 (by decide) (fun c => absurd c (by decide)) (fun _ => ?_)
  refine lv_lload_n hx hb d_15_24_12 rfl (lv_at hl 1 rfl) ?_
  refine lv_bipush (v := 8) hx hb d_15_24_13 (by decide) ?_
  refine lv_lshl hx hb d_15_24_15 rfl ?_
  refine lv_topl (fun y17 ey17 => ?_)
  obtain rfl : y17 = 1953654016 := ey17.trans (by decide)
  refine lv_aload_n hx hb d_15_24_16 rfl (lv_at hl 2 rfl) ?_
  refine lv_iload_n hx hb d_15_24_17 rfl (lv_at hl 0 rfl) ?_
  have hFc18 := va_free (wc := []) hD16 hS16 hA [] rfl
  refine va_calli (va_runV (As := [.int 3]) (rest := [.long 1953654016]) ⟨hx, hb, hml, hown, hts⟩ (c_String_charAt_3 l D ca ad av H16.size  ) (cwV 1 hts (gdV k_10_195 k_7_134 k_7_135 k_1_11 k_7_136) rfl rfl rfl (by decide +kernel) ⟨Nat.le_of_ble_eq_true rfl, Nat.le_of_ble_eq_true rfl⟩) ⟨gBlind, vk_recv (i := 0) (hX.2.2.2.2.1 1 _ rfl).2 (by decide) hS16, gAt hP16 hD16 hK hS16 hA hX [] (by decide) rfl [.ref (ad 1), .int 3]⟩ rfl rfl hl.1 rfl (lv_room (Nat.le_of_ble_eq_true rfl)) d_15_24_18 ⟨Nat.le_of_ble_eq_true rfl, Nat.le_of_ble_eq_true rfl⟩) hS16 (fun q _ h => hFc18 q h) hFc18 (fun r18 u18 t18 H18 locs18 ht18 hvm18 hw18 hB18 hz18 hk18 hS18 => ?_)
  have hr18 := hw18
  obtain ⟨hP18, hD18⟩ := gJoin (wr := []) (w1 := []) hP16 hD16 [] [] rfl rfl (by decide) (by decide) hk18 hFc18 ht18 hB18
  have hP18 : va_P D cls [] H18 := hP18
  have hD18 : va_D A [] := hD18
  refine W.widen (k := 0) (n := 0) (Nat.le_of_ble_eq_true rfl) (Nat.le_of_ble_eq_true rfl) ?_
  subst hr18
  refine lv_i2l hx hb d_15_24_21 rfl ?_
  refine lv_topl (fun y19 ey19 => ?_)
  obtain rfl : y19 = 98 := ey19.trans (by decide)
  refine lv_lor hx hb d_15_24_22 ?_
  refine lv_topl (fun y20 ey20 => ?_)
  obtain rfl : y20 = 1953654114 := ey20.trans (by decide)
  refine lv_lstore_n (lv' := [(1, .long 1953654114), (3, .int 3), (0, .ref (ad 1))]) hx hb d_15_24_23 rfl hl (by decide) rfl (fun ls hl => ?_)
  refine lv_iinc (v := 4) (lv' := [(3, .int 4), (1, .long 1953654114), (0, .ref (ad 1))]) hx hb d_15_24_24 hl (k := 1) rfl (by decide) (by decide) rfl (fun ls hl => ?_)
  refine lv_goto (tgt := 4) hx hb d_15_24_27 (by decide) ?_
  refine lv_iload_n hx hb d_15_24_4 rfl (lv_at hl 0 rfl) ?_
  refine lv_aload_n hx hb d_15_24_5 rfl (lv_at hl 2 rfl) ?_
  have hFc21 := va_free (wc := []) hD18 hS18 hA [] rfl
  refine va_calli (va_runV (As := []) (rest := [.int 4]) ⟨hx, hb, hml, hown, hts⟩ (c_String_length_0 l D ca ad av H18.size  ) (cwV 0 hts (gdV k_10_194 k_3_82 k_3_83 k_1_11 k_3_84) rfl rfl rfl (by decide +kernel) ⟨Nat.le_of_ble_eq_true rfl, Nat.le_of_ble_eq_true rfl⟩) ⟨gBlind, vk_recv (i := 0) (hX.2.2.2.2.1 1 _ rfl).2 (by decide) hS18, gAt hP18 hD18 hK hS18 hA hX [] (by decide) rfl [.ref (ad 1)]⟩ rfl rfl hl.1 rfl (lv_room (Nat.le_of_ble_eq_true rfl)) d_15_24_6 ⟨Nat.le_of_ble_eq_true rfl, Nat.le_of_ble_eq_true rfl⟩) hS18 (fun q _ h => hFc21 q h) hFc21 (fun r21 u21 t21 H21 locs21 ht21 hvm21 hw21 hB21 hz21 hk21 hS21 => ?_)
  have hr21 := hw21
  obtain ⟨hP21, hD21⟩ := gJoin (wr := []) (w1 := []) hP18 hD18 [] [] rfl rfl (by decide) (by decide) hk21 hFc21 ht21 hB21
  have hP21 : va_P D cls [] H21 := hP21
  have hD21 : va_D A [] := hD21
  refine W.widen (k := 0) (n := 0) (Nat.le_of_ble_eq_true rfl) (Nat.le_of_ble_eq_true rfl) ?_
  subst hr21
  refine lv_icmp_ge (tgt := 30) hx hb d_15_24_9 (by decide) (fun c => absurd c (by decide)) (fun _ => ?_)
  refine lv_lload_n hx hb d_15_24_12 rfl (lv_at hl 1 rfl) ?_
  refine lv_bipush (v := 8) hx hb d_15_24_13 (by decide) ?_
  refine lv_lshl hx hb d_15_24_15 rfl ?_
  refine lv_topl (fun y22 ey22 => ?_)
  obtain rfl : y22 = 500135453184 := ey22.trans (by decide)
  refine lv_aload_n hx hb d_15_24_16 rfl (lv_at hl 2 rfl) ?_
  refine lv_iload_n hx hb d_15_24_17 rfl (lv_at hl 0 rfl) ?_
  have hFc23 := va_free (wc := []) hD21 hS21 hA [] rfl
  refine va_calli (va_runV (As := [.int 4]) (rest := [.long 500135453184]) ⟨hx, hb, hml, hown, hts⟩ (c_String_charAt_4 l D ca ad av H21.size  ) (cwV 1 hts (gdV k_10_195 k_7_134 k_7_135 k_1_11 k_7_136) rfl rfl rfl (by decide +kernel) ⟨Nat.le_of_ble_eq_true rfl, Nat.le_of_ble_eq_true rfl⟩) ⟨gBlind, vk_recv (i := 0) (hX.2.2.2.2.1 1 _ rfl).2 (by decide) hS21, gAt hP21 hD21 hK hS21 hA hX [] (by decide) rfl [.ref (ad 1), .int 4]⟩ rfl rfl hl.1 rfl (lv_room (Nat.le_of_ble_eq_true rfl)) d_15_24_18 ⟨Nat.le_of_ble_eq_true rfl, Nat.le_of_ble_eq_true rfl⟩) hS21 (fun q _ h => hFc23 q h) hFc23 (fun r23 u23 t23 H23 locs23 ht23 hvm23 hw23 hB23 hz23 hk23 hS23 => ?_)
  have hr23 := hw23
  obtain ⟨hP23, hD23⟩ := gJoin (wr := []) (w1 := []) hP21 hD21 [] [] rfl rfl (by decide) (by decide) hk23 hFc23 ht23 hB23
  have hP23 : va_P D cls [] H23 := hP23
  have hD23 : va_D A [] := hD23
  refine W.widen (k := 0) (n := 0) (Nat.le_of_ble_eq_true rfl) (Nat.le_of_ble_eq_true rfl) ?_
  subst hr23
  refine lv_i2l hx hb d_15_24_21 rfl ?_
  refine lv_topl (fun y24 ey24 => ?_)
  obtain rfl : y24 = 108 := ey24.trans (by decide)
  refine lv_lor hx hb d_15_24_22 ?_
  refine lv_topl (fun y25 ey25 => ?_)
  obtain rfl : y25 = 500135453292 := ey25.trans (by decide)
  refine lv_lstore_n (lv' := [(1, .long 500135453292), (3, .int 4), (0, .ref (ad 1))]) hx hb d_15_24_23 rfl hl (by decide) rfl (fun ls hl => ?_)
  refine lv_iinc (v := 5) (lv' := [(3, .int 5), (1, .long 500135453292), (0, .ref (ad 1))]) hx hb d_15_24_24 hl (k := 1) rfl (by decide) (by decide) rfl (fun ls hl => ?_)
  refine lv_goto (tgt := 4) hx hb d_15_24_27 (by decide) ?_
  refine lv_iload_n hx hb d_15_24_4 rfl (lv_at hl 0 rfl) ?_
  refine lv_aload_n hx hb d_15_24_5 rfl (lv_at hl 2 rfl) ?_
  have hFc26 := va_free (wc := []) hD23 hS23 hA [] rfl
  refine va_calli (va_runV (As := []) (rest := [.int 5]) ⟨hx, hb, hml, hown, hts⟩ (c_String_length_0 l D ca ad av H23.size  ) (cwV 0 hts (gdV k_10_194 k_3_82 k_3_83 k_1_11 k_3_84) rfl rfl rfl (by decide +kernel) ⟨Nat.le_of_ble_eq_true rfl, Nat.le_of_ble_eq_true rfl⟩) ⟨gBlind, vk_recv (i := 0) (hX.2.2.2.2.1 1 _ rfl).2 (by decide) hS23, gAt hP23 hD23 hK hS23 hA hX [] (by decide) rfl [.ref (ad 1)]⟩ rfl rfl hl.1 rfl (lv_room (Nat.le_of_ble_eq_true rfl)) d_15_24_6 ⟨Nat.le_of_ble_eq_true rfl, Nat.le_of_ble_eq_true rfl⟩) hS23 (fun q _ h => hFc26 q h) hFc26 (fun r26 u26 t26 H26 locs26 ht26 hvm26 hw26 hB26 hz26 hk26 hS26 => ?_)
  have hr26 := hw26
  obtain ⟨hP26, hD26⟩ := gJoin (wr := []) (w1 := []) hP23 hD23 [] [] rfl rfl (by decide) (by decide) hk26 hFc26 ht26 hB26
  have hP26 : va_P D cls [] H26 := hP26
  have hD26 : va_D A [] := hD26
  refine W.widen (k := 0) (n := 0) (Nat.le_of_ble_eq_true rfl) (Nat.le_of_ble_eq_true rfl) ?_
  subst hr26
  refine lv_icmp_ge (tgt := 30) hx hb d_15_24_9 (by decide) (fun c => absurd c (by decide)) (fun _ => ?_)
  refine lv_lload_n hx hb d_15_24_12 rfl (lv_at hl 1 rfl) ?_
  refine lv_bipush (v := 8) hx hb d_15_24_13 (by decide) ?_
  refine lv_lshl hx hb d_15_24_15 rfl ?_
  refine lv_topl (fun y27 ey27 => ?_)
  obtain rfl : y27 = 128034676042752 := ey27.trans (by decide)
  refine lv_aload_n hx hb d_15_24_16 rfl (lv_at hl 2 rfl) ?_
  refine lv_iload_n hx hb d_15_24_17 rfl (lv_at hl 0 rfl) ?_
  have hFc28 := va_free (wc := []) hD26 hS26 hA [] rfl
  refine va_calli (va_runV (As := [.int 5]) (rest := [.long 128034676042752]) ⟨hx, hb, hml, hown, hts⟩ (c_String_charAt_5 l D ca ad av H26.size  ) (cwV 1 hts (gdV k_10_195 k_7_134 k_7_135 k_1_11 k_7_136) rfl rfl rfl (by decide +kernel) ⟨Nat.le_of_ble_eq_true rfl, Nat.le_of_ble_eq_true rfl⟩) ⟨gBlind, vk_recv (i := 0) (hX.2.2.2.2.1 1 _ rfl).2 (by decide) hS26, gAt hP26 hD26 hK hS26 hA hX [] (by decide) rfl [.ref (ad 1), .int 5]⟩ rfl rfl hl.1 rfl (lv_room (Nat.le_of_ble_eq_true rfl)) d_15_24_18 ⟨Nat.le_of_ble_eq_true rfl, Nat.le_of_ble_eq_true rfl⟩) hS26 (fun q _ h => hFc28 q h) hFc28 (fun r28 u28 t28 H28 locs28 ht28 hvm28 hw28 hB28 hz28 hk28 hS28 => ?_)
  have hr28 := hw28
  obtain ⟨hP28, hD28⟩ := gJoin (wr := []) (w1 := []) hP26 hD26 [] [] rfl rfl (by decide) (by decide) hk28 hFc28 ht28 hB28
  have hP28 : va_P D cls [] H28 := hP28
  have hD28 : va_D A [] := hD28
  refine W.widen (k := 0) (n := 0) (Nat.le_of_ble_eq_true rfl) (Nat.le_of_ble_eq_true rfl) ?_
  subst hr28
  refine lv_i2l hx hb d_15_24_21 rfl ?_
  refine lv_topl (fun y29 ey29 => ?_)
  obtain rfl : y29 = 101 := ey29.trans (by decide)
  refine lv_lor hx hb d_15_24_22 ?_
  refine lv_topl (fun y30 ey30 => ?_)
  obtain rfl : y30 = 128034676042853 := ey30.trans (by decide)
  refine lv_lstore_n (lv' := [(1, .long 128034676042853), (3, .int 5), (0, .ref (ad 1))]) hx hb d_15_24_23 rfl hl (by decide) rfl (fun ls hl => ?_)
  refine lv_iinc (v := 6) (lv' := [(3, .int 6), (1, .long 128034676042853), (0, .ref (ad 1))]) hx hb d_15_24_24 hl (k := 1) rfl (by decide) (by decide) rfl (fun ls hl => ?_)
  refine lv_goto (tgt := 4) hx hb d_15_24_27 (by decide) ?_
  refine lv_iload_n hx hb d_15_24_4 rfl (lv_at hl 0 rfl) ?_
  refine lv_aload_n hx hb d_15_24_5 rfl (lv_at hl 2 rfl) ?_
  have hFc31 := va_free (wc := []) hD28 hS28 hA [] rfl
  refine va_calli (va_runV (As := []) (rest := [.int 6]) ⟨hx, hb, hml, hown, hts⟩ (c_String_length_0 l D ca ad av H28.size  ) (cwV 0 hts (gdV k_10_194 k_3_82 k_3_83 k_1_11 k_3_84) rfl rfl rfl (by decide +kernel) ⟨Nat.le_of_ble_eq_true rfl, Nat.le_of_ble_eq_true rfl⟩) ⟨gBlind, vk_recv (i := 0) (hX.2.2.2.2.1 1 _ rfl).2 (by decide) hS28, gAt hP28 hD28 hK hS28 hA hX [] (by decide) rfl [.ref (ad 1)]⟩ rfl rfl hl.1 rfl (lv_room (Nat.le_of_ble_eq_true rfl)) d_15_24_6 ⟨Nat.le_of_ble_eq_true rfl, Nat.le_of_ble_eq_true rfl⟩) hS28 (fun q _ h => hFc31 q h) hFc31 (fun r31 u31 t31 H31 locs31 ht31 hvm31 hw31 hB31 hz31 hk31 hS31 => ?_)
  have hr31 := hw31
  obtain ⟨hP31, hD31⟩ := gJoin (wr := []) (w1 := []) hP28 hD28 [] [] rfl rfl (by decide) (by decide) hk31 hFc31 ht31 hB31
  have hP31 : va_P D cls [] H31 := hP31
  have hD31 : va_D A [] := hD31
  refine W.widen (k := 0) (n := 0) (Nat.le_of_ble_eq_true rfl) (Nat.le_of_ble_eq_true rfl) ?_
  subst hr31
  refine lv_icmp_ge (tgt := 30) hx hb d_15_24_9 (by decide) (fun _ => ?_) (fun c => absurd (by decide) c)
  refine lv_lload_n hx hb d_15_24_30 rfl (lv_at hl 1 rfl) ?_
  have hP9 := hP31.sub (ws' := []) [] rfl
  have hD9 := hD31.sub (ws' := []) [] (by decide) rfl
  refine W.widen (k := 0) (n := 0) (Nat.le_of_ble_eq_true rfl) (Nat.le_of_ble_eq_true rfl) ?_
  exact W.lret (v := 128034676042853) hx hb hr (fun t ht hW => ⟨⟨128034676042853, (), rfl, rfl, by rw [ht]; exact hP9, va_K.moved hW.alike hK, hD9⟩, hS31.F ht⟩) hS31.2.2 d_15_24_31
abbrev Q_String_coder_1 (D : va_G) (ca : Nat → ClassId)  (A : Nat → Prop) : Array Value → State → Outcome → State → Prop := va_Qi (S := Unit) (fun (r : Int32) (u : Unit) => r = 0) (fun u => gB D ca A []) A
set_option maxHeartbeats 8000000 in
set_option maxRecDepth 100000 in
theorem c_String_coder_1 (l : Launch) (D : va_G) (ca : Nat → ClassId) (ad av : Nat → Nat) (sz : Nat)   : Met l ({ cls := "java/lang/String", name := "coder", desc := "()B" } : Jvm.MethodName) (Cond.code ({ cls := "java/lang/String", name := "coder", desc := "()B" } : Jvm.MethodName) prog_21_method_152_code 1 (Option.some Jvm.ClassFile.FieldType.byte) :: wAll) ({ frames := 0, cells := 0, slots := 0, locals := 0 } : Room) (va_Pc [.ref (ad 2)] (gPre D ca ad av [] sz)) (Q_String_coder_1 D ca  (va_A [] sz)) 0 0 (va_A [] sz) := by
  refine gMet (Qc := Q_String_coder_1 D ca ) (lv := [(0, .ref (ad 2))]) (by decide) (Nat.le_of_ble_eq_true rfl) rfl (fun A p e s m below meth c ls hx hb hr hml hown hts hlk hnm hl hP hK hD hS hA hX => ?_)
  have hown : s.vm.findClass "java/lang/String" = some m.cls := hown
  have hnm : meth.name = "coder" := hnm
  refine va_gets hx hb (hX.2.2.2.1 _ (List.mem_of_getElem? (i := 0) rfl)) hS hown (hts _ k_3_79) (fun _ h => h) d_21_152_0 ?_
  refine lv_if_eq (tgt := 13) hx hb d_21_152_3 (by decide) (fun c => absurd c (by decide)) (fun _ => ?_)
  refine lv_aload_n hx hb d_21_152_6 rfl (lv_at hl 0 rfl) ?_
  refine vk_getf hx hb ((hX.2.2.2.2.1 2 _ rfl).2.1 0 (by decide)).2.1 hS hown (hts _ k_15_171) (fun _ h => h) d_21_152_7 ?_
  refine W.eq (g2 := F0 m 10 ls [.int 0]) rfl ?_
  refine lv_goto (tgt := 14) hx hb d_21_152_10 (by decide) ?_
  have hP9 := hP.sub (ws' := []) [] rfl
  have hD9 := hD.sub (ws' := []) [] (by decide) rfl
  refine W.widen (k := 0) (n := 0) (Nat.le_of_ble_eq_true rfl) (Nat.le_of_ble_eq_true rfl) ?_
  exact W.zret (v := 0) hx hb hr rfl (fun t ht hW => ⟨⟨0, (), rfl, rfl, by rw [ht]; exact hP9, va_K.moved hW.alike hK, hD9⟩, hS.F ht⟩) hS.2.2 d_21_152_14
abbrev Q_String_length_1 (D : va_G) (ca : Nat → ClassId)  (A : Nat → Prop) : Array Value → State → Outcome → State → Prop := va_Qi (S := Unit) (fun (r : Int32) (u : Unit) => r = 4) (fun u => gB D ca A []) A
set_option maxHeartbeats 8000000 in
set_option maxRecDepth 100000 in
theorem c_String_length_1 (l : Launch) (D : va_G) (ca : Nat → ClassId) (ad av : Nat → Nat) (sz : Nat)   : Met l ({ cls := "java/lang/String", name := "length", desc := "()I" } : Jvm.MethodName) (Cond.code ({ cls := "java/lang/String", name := "length", desc := "()I" } : Jvm.MethodName) prog_21_method_54_code 1 (Option.some Jvm.ClassFile.FieldType.int) :: wAll) ({ frames := 1, cells := 0, slots := 0, locals := 20 } : Room) (va_Pc [.ref (ad 2)] (gPre D ca ad av [] sz)) (Q_String_length_1 D ca  (va_A [] sz)) 0 0 (va_A [] sz) := by
  refine gMet (Qc := Q_String_length_1 D ca ) (lv := [(0, .ref (ad 2))]) (by decide) (Nat.le_of_ble_eq_true rfl) rfl (fun A p e s m below meth c ls hx hb hr hml hown hts hlk hnm hl hP hK hD hS hA hX => ?_)
  have hown : s.vm.findClass "java/lang/String" = some m.cls := hown
  have hnm : meth.name = "length" := hnm
  refine lv_aload_n hx hb d_21_54_0 rfl (lv_at hl 0 rfl) ?_
  refine vk_getf hx hb ((hX.2.2.2.2.1 2 _ rfl).2.1 0 (by decide)).2.2.1 hS hown (hts _ k_15_170) (fun _ h => h) d_21_54_1 ?_
  refine W.eq (g2 := F0 m 4 ls [.ref (av 2)]) rfl ?_
  refine va_tlen (v := 4) hx hb ((hX.2.2.2.2.1 2 _ rfl).2.1 0 (by decide)).2.2.2 hS (by decide) d_21_54_4 ?_
  refine lv_aload_n hx hb d_21_54_5 rfl (lv_at hl 0 rfl) ?_
  have hFc1 := va_free (wc := []) hD hS hA [] rfl
  refine va_calli (va_runV (As := []) (rest := [.int 4]) ⟨hx, hb, hml, hown, hts⟩ (c_String_coder_1 l D ca ad av s.heap.size  ) (cwV 0 hts (gdV k_3_85 k_3_86 k_3_87 k_1_11 k_3_88) rfl rfl rfl (by decide +kernel) ⟨Nat.le_of_ble_eq_true rfl, Nat.le_of_ble_eq_true rfl⟩) ⟨gBlind, vk_recv (i := 0) (hX.2.2.2.2.1 2 _ rfl).2 (by decide) hS, gAt hP hD hK hS hA hX [] (by decide) rfl [.ref (ad 2)]⟩ rfl rfl hl.1 rfl (lv_room (Nat.le_of_ble_eq_true rfl)) d_21_54_6 ⟨Nat.le_of_ble_eq_true rfl, Nat.le_of_ble_eq_true rfl⟩) hS (fun q _ h => hFc1 q h) hFc1 (fun r1 u1 t1 H1 locs1 ht1 hvm1 hw1 hB1 hz1 hk1 hS1 => ?_)
  have hr1 := hw1
  obtain ⟨hP1, hD1⟩ := gJoin (wr := []) (w1 := []) hP hD [] [] rfl rfl (by decide) (by decide) hk1 hFc1 ht1 hB1
  have hP1 : va_P D cls [] H1 := hP1
  have hD1 : va_D A [] := hD1
  refine W.widen (k := 0) (n := 0) (Nat.le_of_ble_eq_true rfl) (Nat.le_of_ble_eq_true rfl) ?_
  subst hr1
  refine lv_ishr hx hb d_21_54_9 ?_
  refine lv_topi (fun y2 ey2 => ?_)
  obtain rfl : y2 = 4 := ey2.trans (by decide)
  have hP9 := hP1.sub (ws' := []) [] rfl
  have hD9 := hD1.sub (ws' := []) [] (by decide) rfl
  refine W.widen (k := 0) (n := 0) (Nat.le_of_ble_eq_true rfl) (Nat.le_of_ble_eq_true rfl) ?_
  exact W.iret (v := 4) hx hb hr (fun t ht hW => ⟨⟨4, (), rfl, rfl, by rw [ht]; exact hP9, va_K.moved hW.alike hK, hD9⟩, hS1.F ht⟩) hS1.2.2 d_21_54_10
abbrev Q_String_isLatin1_1 (D : va_G) (ca : Nat → ClassId)  (A : Nat → Prop) : Array Value → State → Outcome → State → Prop := va_Qi (S := Unit) (fun (r : Int32) (u : Unit) => r = 1) (fun u => gB D ca A []) A
set_option maxHeartbeats 8000000 in
set_option maxRecDepth 100000 in
theorem c_String_isLatin1_1 (l : Launch) (D : va_G) (ca : Nat → ClassId) (ad av : Nat → Nat) (sz : Nat)   : Met l ({ cls := "java/lang/String", name := "isLatin1", desc := "()Z" } : Jvm.MethodName) (Cond.code ({ cls := "java/lang/String", name := "isLatin1", desc := "()Z" } : Jvm.MethodName) prog_21_method_154_code 1 (Option.some Jvm.ClassFile.FieldType.boolean) :: wAll) ({ frames := 0, cells := 0, slots := 0, locals := 0 } : Room) (va_Pc [.ref (ad 2)] (gPre D ca ad av [] sz)) (Q_String_isLatin1_1 D ca  (va_A [] sz)) 0 0 (va_A [] sz) := by
  refine gMet (Qc := Q_String_isLatin1_1 D ca ) (lv := [(0, .ref (ad 2))]) (by decide) (Nat.le_of_ble_eq_true rfl) rfl (fun A p e s m below meth c ls hx hb hr hml hown hts hlk hnm hl hP hK hD hS hA hX => ?_)
  have hown : s.vm.findClass "java/lang/String" = some m.cls := hown
  have hnm : meth.name = "isLatin1" := hnm
  refine va_gets hx hb (hX.2.2.2.1 _ (List.mem_of_getElem? (i := 0) rfl)) hS hown (hts _ k_3_79) (fun _ h => h) d_21_154_0 ?_
  refine lv_if_eq (tgt := 17) hx hb d_21_154_3 (by decide) (fun c => absurd c (by decide)) (fun _ => ?_)
  refine lv_aload_n hx hb d_21_154_6 rfl (lv_at hl 0 rfl) ?_
  refine vk_getf hx hb ((hX.2.2.2.2.1 2 _ rfl).2.1 0 (by decide)).2.1 hS hown (hts _ k_15_171) (fun _ h => h) d_21_154_7 ?_
  refine W.eq (g2 := F0 m 10 ls [.int 0]) rfl ?_
  refine lv_if_ne (tgt := 17) hx hb d_21_154_10 (by decide) (fun c => absurd c (by decide)) (fun _ => ?_)
  refine lv_iconst (v := 1) hx hb d_21_154_13 (by decide) ?_
  refine lv_goto (tgt := 18) hx hb d_21_154_14 (by decide) ?_
  have hP9 := hP.sub (ws' := []) [] rfl
  have hD9 := hD.sub (ws' := []) [] (by decide) rfl
  refine W.widen (k := 0) (n := 0) (Nat.le_of_ble_eq_true rfl) (Nat.le_of_ble_eq_true rfl) ?_
  exact W.zret (v := 1) hx hb hr rfl (fun t ht hW => ⟨⟨1, (), rfl, rfl, by rw [ht]; exact hP9, va_K.moved hW.alike hK, hD9⟩, hS.F ht⟩) hS.2.2 d_21_154_18
abbrev Q_Preconditions_checkIndex_12 (D : va_G) (ca : Nat → ClassId)  (A : Nat → Prop) : Array Value → State → Outcome → State → Prop := va_Qi (S := Unit) (fun (r : Int32) (u : Unit) => r = 0) (fun u => gB D ca A []) A
set_option maxHeartbeats 8000000 in
set_option maxRecDepth 100000 in
theorem c_Preconditions_checkIndex_12 (l : Launch) (D : va_G) (ca : Nat → ClassId) (ad av : Nat → Nat) (sz : Nat)   : Met l ({ cls := "jdk/internal/util/Preconditions", name := "checkIndex", desc := "(IILjava/util/function/BiFunction;)I" } : Jvm.MethodName) (Cond.code ({ cls := "jdk/internal/util/Preconditions", name := "checkIndex", desc := "(IILjava/util/function/BiFunction;)I" } : Jvm.MethodName) prog_24_method_11_code 3 (Option.some Jvm.ClassFile.FieldType.int) :: wAll) ({ frames := 0, cells := 0, slots := 0, locals := 0 } : Room) (va_Pc [.int 0, .int 4, .null] (gPre D ca ad av [] sz)) (Q_Preconditions_checkIndex_12 D ca  (va_A [] sz)) 0 0 (va_A [] sz) := by
  refine gMet (Qc := Q_Preconditions_checkIndex_12 D ca ) (lv := [(0, .int 0), (1, .int 4), (2, .null)]) (by decide) (Nat.le_of_ble_eq_true rfl) rfl (fun A p e s m below meth c ls hx hb hr hml hown hts hlk hnm hl hP hK hD hS hA hX => ?_)
  have hown : s.vm.findClass "jdk/internal/util/Preconditions" = some m.cls := hown
  have hnm : meth.name = "checkIndex" := hnm
  refine lv_iload_n hx hb d_24_11_0 rfl (lv_at hl 0 rfl) ?_
  refine lv_if_lt (tgt := 9) hx hb d_24_11_1 (by decide) (fun c => absurd c (by decide)) (fun _ => ?_)
  refine lv_iload_n hx hb d_24_11_4 rfl (lv_at hl 0 rfl) ?_
  refine lv_iload_n hx hb d_24_11_5 rfl (lv_at hl 1 rfl) ?_
  refine lv_icmp_lt (tgt := 16) hx hb d_24_11_6 (by decide) (fun _ => ?_) (fun c => absurd (by decide) c)
  refine lv_iload_n hx hb d_24_11_16 rfl (lv_at hl 0 rfl) ?_
  have hP9 := hP.sub (ws' := []) [] rfl
  have hD9 := hD.sub (ws' := []) [] (by decide) rfl
  refine W.widen (k := 0) (n := 0) (Nat.le_of_ble_eq_true rfl) (Nat.le_of_ble_eq_true rfl) ?_
  exact W.iret (v := 0) hx hb hr (fun t ht hW => ⟨⟨0, (), rfl, rfl, by rw [ht]; exact hP9, va_K.moved hW.alike hK, hD9⟩, hS.F ht⟩) hS.2.2 d_24_11_17
abbrev Q_Preconditions_checkIndex_13 (D : va_G) (ca : Nat → ClassId) (r0 : Nat) (A : Nat → Prop) : Array Value → State → Outcome → State → Prop := va_Qi (S := Unit) (fun (r : Int32) (u : Unit) => r = 0) (fun u => gB D ca A []) A
set_option maxHeartbeats 8000000 in
set_option maxRecDepth 100000 in
theorem c_Preconditions_checkIndex_13 (l : Launch) (D : va_G) (ca : Nat → ClassId) (ad av : Nat → Nat) (sz : Nat) (r0 : Nat)  : Met l ({ cls := "jdk/internal/util/Preconditions", name := "checkIndex", desc := "(IILjava/util/function/BiFunction;)I" } : Jvm.MethodName) (Cond.code ({ cls := "jdk/internal/util/Preconditions", name := "checkIndex", desc := "(IILjava/util/function/BiFunction;)I" } : Jvm.MethodName) prog_24_method_11_code 3 (Option.some Jvm.ClassFile.FieldType.int) :: wAll) ({ frames := 0, cells := 0, slots := 0, locals := 0 } : Room) (va_Pc [.int 0, .int 4, .ref r0] (gPre D ca ad av [] sz)) (Q_Preconditions_checkIndex_13 D ca r0 (va_A [] sz)) 0 0 (va_A [] sz) := by
  refine gMet (Qc := Q_Preconditions_checkIndex_13 D ca r0) (lv := [(0, .int 0), (1, .int 4), (2, .ref r0)]) (by decide) (Nat.le_of_ble_eq_true rfl) rfl (fun A p e s m below meth c ls hx hb hr hml hown hts hlk hnm hl hP hK hD hS hA hX => ?_)
  have hown : s.vm.findClass "jdk/internal/util/Preconditions" = some m.cls := hown
  have hnm : meth.name = "checkIndex" := hnm
  refine lv_iload_n hx hb d_24_11_0 rfl (lv_at hl 0 rfl) ?_
  refine lv_if_lt (tgt := 9) hx hb d_24_11_1 (by decide) (fun c => absurd c (by decide)) (fun _ => ?_)
  refine lv_iload_n hx hb d_24_11_4 rfl (lv_at hl 0 rfl) ?_
  refine lv_iload_n hx hb d_24_11_5 rfl (lv_at hl 1 rfl) ?_
  refine lv_icmp_lt (tgt := 16) hx hb d_24_11_6 (by decide) (fun _ => ?_) (fun c => absurd (by decide) c)
  refine lv_iload_n hx hb d_24_11_16 rfl (lv_at hl 0 rfl) ?_
  have hP9 := hP.sub (ws' := []) [] rfl
  have hD9 := hD.sub (ws' := []) [] (by decide) rfl
  refine W.widen (k := 0) (n := 0) (Nat.le_of_ble_eq_true rfl) (Nat.le_of_ble_eq_true rfl) ?_
  exact W.iret (v := 0) hx hb hr (fun t ht hW => ⟨⟨0, (), rfl, rfl, by rw [ht]; exact hP9, va_K.moved hW.alike hK, hD9⟩, hS.F ht⟩) hS.2.2 d_24_11_17
abbrev Q_String_checkIndex_6 (D : va_G) (ca : Nat → ClassId)  (A : Nat → Prop) : Array Value → State → Outcome → State → Prop := va_Qv (S := Unit) (fun (u : Unit) => True) (fun u => gB D ca A []) A
set_option maxHeartbeats 8000000 in
set_option maxRecDepth 100000 in
theorem c_String_checkIndex_6 (l : Launch) (D : va_G) (ca : Nat → ClassId) (ad av : Nat → Nat) (sz : Nat)   : Met l ({ cls := "java/lang/String", name := "checkIndex", desc := "(II)V" } : Jvm.MethodName) (Cond.code ({ cls := "java/lang/String", name := "checkIndex", desc := "(II)V" } : Jvm.MethodName) prog_21_method_155_code 2 (Option.none : Option Jvm.ClassFile.FieldType) :: wAll) ({ frames := 1, cells := 0, slots := 0, locals := 22 } : Room) (va_Pc [.int 0, .int 4] (gPre D ca ad av [] sz)) (Q_String_checkIndex_6 D ca  (va_A [] sz)) 0 0 (va_A [] sz) := by
  refine gMet (Qc := Q_String_checkIndex_6 D ca ) (lv := [(0, .int 0), (1, .int 4)]) (by decide) (Nat.le_of_ble_eq_true rfl) rfl (fun A p e s m below meth c ls hx hb hr hml hown hts hlk hnm hl hP hK hD hS hA hX => ?_)
  have hown : s.vm.findClass "java/lang/String" = some m.cls := hown
  have hnm : meth.name = "checkIndex" := hnm
  refine lv_iload_n hx hb d_21_155_0 rfl (lv_at hl 0 rfl) ?_
  refine lv_iload_n hx hb d_21_155_1 rfl (lv_at hl 1 rfl) ?_
  rcases hX.2.2.2.2.2 with hz1 | ⟨tz1, hz1⟩
  · refine va_gets hx hb hz1 hS hown (hts _ k_3_120) (fun _ h => h) d_21_155_2 ?_
    have hFc2 := va_free (wc := []) hD hS hA [] rfl
    refine va_calli (va_runS (As := [.int 0, .int 4, .null]) (rest := []) ⟨hx, hb, hml, hown, hts⟩ (c_Preconditions_checkIndex_12 l D ca ad av s.heap.size  ) (va_cwS 3 hts (gdS k_7_143 k_7_144 k_1_13 k_7_145) rfl rfl rfl (by decide +kernel) ⟨Nat.le_of_ble_eq_true rfl, Nat.le_of_ble_eq_true rfl⟩) (gPS hP hD hK hS hA hX [] (by decide) rfl [.int 0, .int 4, .null]) rfl rfl hl.1 rfl (lv_room (Nat.le_of_ble_eq_true rfl)) d_21_155_5 ⟨Nat.le_of_ble_eq_true rfl, Nat.le_of_ble_eq_true rfl⟩) hS (fun q _ h => hFc2 q h) hFc2 (fun r2 u2 t2 H2 locs2 ht2 hvm2 hw2 hB2 hz2 hk2 hS2 => ?_)
    have hr2 := hw2
    obtain ⟨hP2, hD2⟩ := gJoin (wr := []) (w1 := []) hP hD [] [] rfl rfl (by decide) (by decide) hk2 hFc2 ht2 hB2
    have hP2 : va_P D cls [] H2 := hP2
    have hD2 : va_D A [] := hD2
    refine W.widen (k := 0) (n := 0) (Nat.le_of_ble_eq_true rfl) (Nat.le_of_ble_eq_true rfl) ?_
    subst hr2
    refine lv_pop hx hb d_21_155_8 rfl ?_
    have hP9 := hP2.sub (ws' := []) [] rfl
    have hD9 := hD2.sub (ws' := []) [] (by decide) rfl
    refine W.widen (k := 0) (n := 0) (Nat.le_of_ble_eq_true rfl) (Nat.le_of_ble_eq_true rfl) ?_
    exact W.vret hx hb hr (fun t ht hW => ⟨⟨(), rfl, trivial, by rw [ht]; exact hP9, va_K.moved hW.alike hK, hD9⟩, hS2.F ht⟩) hS2.2.2 d_21_155_9
  · refine va_gets hx hb hz1 hS hown (hts _ k_3_120) (fun _ h => h) d_21_155_2 ?_
    have hFc3 := va_free (wc := []) hD hS hA [] rfl
    refine va_calli (va_runS (As := [.int 0, .int 4, .ref tz1]) (rest := []) ⟨hx, hb, hml, hown, hts⟩ (c_Preconditions_checkIndex_13 l D ca ad av s.heap.size tz1 ) (va_cwS 3 hts (gdS k_7_143 k_7_144 k_1_13 k_7_145) rfl rfl rfl (by decide +kernel) ⟨Nat.le_of_ble_eq_true rfl, Nat.le_of_ble_eq_true rfl⟩) (gPS hP hD hK hS hA hX [] (by decide) rfl [.int 0, .int 4, .ref tz1]) rfl rfl hl.1 rfl (lv_room (Nat.le_of_ble_eq_true rfl)) d_21_155_5 ⟨Nat.le_of_ble_eq_true rfl, Nat.le_of_ble_eq_true rfl⟩) hS (fun q _ h => hFc3 q h) hFc3 (fun r3 u3 t3 H3 locs3 ht3 hvm3 hw3 hB3 hz3 hk3 hS3 => ?_)
    have hr3 := hw3
    obtain ⟨hP3, hD3⟩ := gJoin (wr := []) (w1 := []) hP hD [] [] rfl rfl (by decide) (by decide) hk3 hFc3 ht3 hB3
    have hP3 : va_P D cls [] H3 := hP3
    have hD3 : va_D A [] := hD3
    refine W.widen (k := 0) (n := 0) (Nat.le_of_ble_eq_true rfl) (Nat.le_of_ble_eq_true rfl) ?_
    subst hr3
    refine lv_pop hx hb d_21_155_8 rfl ?_
    have hP9 := hP3.sub (ws' := []) [] rfl
    have hD9 := hD3.sub (ws' := []) [] (by decide) rfl
    refine W.widen (k := 0) (n := 0) (Nat.le_of_ble_eq_true rfl) (Nat.le_of_ble_eq_true rfl) ?_
    exact W.vret hx hb hr (fun t ht hW => ⟨⟨(), rfl, trivial, by rw [ht]; exact hP9, va_K.moved hW.alike hK, hD9⟩, hS3.F ht⟩) hS3.2.2 d_21_155_9
abbrev Q_StringLatin1_charAt_6 (D : va_G) (ca : Nat → ClassId)  (A : Nat → Prop) : Array Value → State → Outcome → State → Prop := va_Qi (S := Unit) (fun (r : Int32) (u : Unit) => r = 98) (fun u => gB D ca A []) A
set_option maxHeartbeats 8000000 in
set_option maxRecDepth 100000 in
theorem c_StringLatin1_charAt_6 (l : Launch) (D : va_G) (ca : Nat → ClassId) (ad av : Nat → Nat) (sz : Nat)   : Met l ({ cls := "java/lang/StringLatin1", name := "charAt", desc := "([BI)C" } : Jvm.MethodName) (Cond.code ({ cls := "java/lang/StringLatin1", name := "charAt", desc := "([BI)C" } : Jvm.MethodName) prog_22_method_2_code 2 (Option.some Jvm.ClassFile.FieldType.char) :: wAll) ({ frames := 2, cells := 0, slots := 0, locals := 43 } : Room) (va_Pc [.ref (av 2), .int 0] (gPre D ca ad av [] sz)) (Q_StringLatin1_charAt_6 D ca  (va_A [] sz)) 0 0 (va_A [] sz) := by
  refine gMet (Qc := Q_StringLatin1_charAt_6 D ca ) (lv := [(0, .ref (av 2)), (1, .int 0)]) (by decide) (Nat.le_of_ble_eq_true rfl) rfl (fun A p e s m below meth c ls hx hb hr hml hown hts hlk hnm hl hP hK hD hS hA hX => ?_)
  have hown : s.vm.findClass "java/lang/StringLatin1" = some m.cls := hown
  have hnm : meth.name = "charAt" := hnm
  refine lv_iload_n hx hb d_22_2_0 rfl (lv_at hl 1 rfl) ?_
  refine lv_aload_n hx hb d_22_2_1 rfl (lv_at hl 0 rfl) ?_
  refine va_tlen (v := 4) hx hb ((hX.2.2.2.2.1 2 _ rfl).2.1 0 (by decide)).2.2.2 hS (by decide) d_22_2_2 ?_
  have hFc1 := va_free (wc := []) hD hS hA [] rfl
  refine va_callv (va_runS (As := [.int 0, .int 4]) (rest := []) ⟨hx, hb, hml, hown, hts⟩ (c_String_checkIndex_6 l D ca ad av s.heap.size  ) (va_cwS 2 hts (gdS k_7_140 k_7_141 k_1_11 k_7_142) rfl rfl rfl (by decide +kernel) ⟨Nat.le_of_ble_eq_true rfl, Nat.le_of_ble_eq_true rfl⟩) (gPS hP hD hK hS hA hX [] (by decide) rfl [.int 0, .int 4]) rfl rfl hl.1 rfl (lv_room (Nat.le_of_ble_eq_true rfl)) d_22_2_3 ⟨Nat.le_of_ble_eq_true rfl, Nat.le_of_ble_eq_true rfl⟩) hS (fun q _ h => hFc1 q h) hFc1 (fun u1 t1 H1 locs1 ht1 hvm1 hw1 hB1 hz1 hk1 hS1 => ?_)
  obtain ⟨hP1, hD1⟩ := gJoin (wr := []) (w1 := []) hP hD [] [] rfl rfl (by decide) (by decide) hk1 hFc1 ht1 hB1
  have hP1 : va_P D cls [] H1 := hP1
  have hD1 : va_D A [] := hD1
  refine W.widen (k := 0) (n := 0) (Nat.le_of_ble_eq_true rfl) (Nat.le_of_ble_eq_true rfl) ?_
  refine lv_aload_n hx hb d_22_2_6 rfl (lv_at hl 0 rfl) ?_
  refine lv_iload_n hx hb d_22_2_7 rfl (lv_at hl 1 rfl) ?_
  refine va_tb (v := .int 98) hx hb ((hX.2.2.2.2.1 2 _ rfl).2.1 0 (by decide)).2.2.2 hS1 (vinC (by decide)) rfl d_22_2_8 ?_
  refine lv_sipush (v := 255) hx hb d_22_2_9 (by decide) ?_
  refine lv_iand hx hb d_22_2_12 ?_
  refine lv_topi (fun y2 ey2 => ?_)
  obtain rfl : y2 = 98 := ey2.trans (by decide)
  refine lv_i2c hx hb d_22_2_13 rfl ?_
  refine lv_topi (fun y3 ey3 => ?_)
  obtain rfl : y3 = 98 := ey3.trans (by decide)
  have hP9 := hP1.sub (ws' := []) [] rfl
  have hD9 := hD1.sub (ws' := []) [] (by decide) rfl
  refine W.widen (k := 0) (n := 0) (Nat.le_of_ble_eq_true rfl) (Nat.le_of_ble_eq_true rfl) ?_
  exact W.zret (v := 98) hx hb hr rfl (fun t ht hW => ⟨⟨98, (), rfl, rfl, by rw [ht]; exact hP9, va_K.moved hW.alike hK, hD9⟩, hS1.F ht⟩) hS1.2.2 d_22_2_14
abbrev Q_String_charAt_6 (D : va_G) (ca : Nat → ClassId)  (A : Nat → Prop) : Array Value → State → Outcome → State → Prop := va_Qi (S := Unit) (fun (r : Int32) (u : Unit) => r = 98) (fun u => gB D ca A []) A
set_option maxHeartbeats 8000000 in
set_option maxRecDepth 100000 in
theorem c_String_charAt_6 (l : Launch) (D : va_G) (ca : Nat → ClassId) (ad av : Nat → Nat) (sz : Nat)   : Met l ({ cls := "java/lang/String", name := "charAt", desc := "(I)C" } : Jvm.MethodName) (Cond.code ({ cls := "java/lang/String", name := "charAt", desc := "(I)C" } : Jvm.MethodName) prog_21_method_56_code 2 (Option.some Jvm.ClassFile.FieldType.char) :: wAll) ({ frames := 3, cells := 0, slots := 0, locals := 64 } : Room) (va_Pc [.ref (ad 2), .int 0] (gPre D ca ad av [] sz)) (Q_String_charAt_6 D ca  (va_A [] sz)) 0 0 (va_A [] sz) := by
  refine gMet (Qc := Q_String_charAt_6 D ca ) (lv := [(0, .ref (ad 2)), (1, .int 0)]) (by decide) (Nat.le_of_ble_eq_true rfl) rfl (fun A p e s m below meth c ls hx hb hr hml hown hts hlk hnm hl hP hK hD hS hA hX => ?_)
  have hown : s.vm.findClass "java/lang/String" = some m.cls := hown
  have hnm : meth.name = "charAt" := hnm
  refine lv_aload_n hx hb d_21_56_0 rfl (lv_at hl 0 rfl) ?_
  have hFc1 := va_free (wc := []) hD hS hA [] rfl
  refine va_calli (va_runV (As := []) (rest := []) ⟨hx, hb, hml, hown, hts⟩ (c_String_isLatin1_1 l D ca ad av s.heap.size  ) (cwV 0 hts (gdV k_3_75 k_3_76 k_3_77 k_1_11 k_3_78) rfl rfl rfl (by decide +kernel) ⟨Nat.le_of_ble_eq_true rfl, Nat.le_of_ble_eq_true rfl⟩) ⟨gBlind, vk_recv (i := 0) (hX.2.2.2.2.1 2 _ rfl).2 (by decide) hS, gAt hP hD hK hS hA hX [] (by decide) rfl [.ref (ad 2)]⟩ rfl rfl hl.1 rfl (lv_room (Nat.le_of_ble_eq_true rfl)) d_21_56_1 ⟨Nat.le_of_ble_eq_true rfl, Nat.le_of_ble_eq_true rfl⟩) hS (fun q _ h => hFc1 q h) hFc1 (fun r1 u1 t1 H1 locs1 ht1 hvm1 hw1 hB1 hz1 hk1 hS1 => ?_)
  have hr1 := hw1
  obtain ⟨hP1, hD1⟩ := gJoin (wr := []) (w1 := []) hP hD [] [] rfl rfl (by decide) (by decide) hk1 hFc1 ht1 hB1
  have hP1 : va_P D cls [] H1 := hP1
  have hD1 : va_D A [] := hD1
  refine W.widen (k := 0) (n := 0) (Nat.le_of_ble_eq_true rfl) (Nat.le_of_ble_eq_true rfl) ?_
  subst hr1
  refine lv_if_eq (tgt := 16) hx hb d_21_56_4 (by decide) (fun c => absurd c (by decide)) (fun _ => ?_)
  refine lv_aload_n hx hb d_21_56_7 rfl (lv_at hl 0 rfl) ?_
  refine vk_getf hx hb ((hX.2.2.2.2.1 2 _ rfl).2.1 0 (by decide)).2.2.1 hS1 hown (hts _ k_15_170) (fun _ h => h) d_21_56_8 ?_
  refine W.eq (g2 := F0 m 11 ls [.ref (av 2)]) rfl ?_
  refine lv_iload_n hx hb d_21_56_11 rfl (lv_at hl 1 rfl) ?_
  have hFc2 := va_free (wc := []) hD1 hS1 hA [] rfl
  refine va_calli (va_runS (As := [.ref (av 2), .int 0]) (rest := []) ⟨hx, hb, hml, hown, hts⟩ (c_StringLatin1_charAt_6 l D ca ad av H1.size  ) (va_cwS 2 hts (gdS k_7_137 k_7_138 k_1_12 k_7_139) rfl rfl rfl (by decide +kernel) ⟨Nat.le_of_ble_eq_true rfl, Nat.le_of_ble_eq_true rfl⟩) (gPS hP1 hD1 hK hS1 hA hX [] (by decide) rfl [.ref (av 2), .int 0]) rfl rfl hl.1 rfl (lv_room (Nat.le_of_ble_eq_true rfl)) d_21_56_12 ⟨Nat.le_of_ble_eq_true rfl, Nat.le_of_ble_eq_true rfl⟩) hS1 (fun q _ h => hFc2 q h) hFc2 (fun r2 u2 t2 H2 locs2 ht2 hvm2 hw2 hB2 hz2 hk2 hS2 => ?_)
  have hr2 := hw2
  obtain ⟨hP2, hD2⟩ := gJoin (wr := []) (w1 := []) hP1 hD1 [] [] rfl rfl (by decide) (by decide) hk2 hFc2 ht2 hB2
  have hP2 : va_P D cls [] H2 := hP2
  have hD2 : va_D A [] := hD2
  refine W.widen (k := 0) (n := 0) (Nat.le_of_ble_eq_true rfl) (Nat.le_of_ble_eq_true rfl) ?_
  subst hr2
  have hP9 := hP2.sub (ws' := []) [] rfl
  have hD9 := hD2.sub (ws' := []) [] (by decide) rfl
  refine W.widen (k := 0) (n := 0) (Nat.le_of_ble_eq_true rfl) (Nat.le_of_ble_eq_true rfl) ?_
  exact W.zret (v := 98) hx hb hr rfl (fun t ht hW => ⟨⟨98, (), rfl, rfl, by rw [ht]; exact hP9, va_K.moved hW.alike hK, hD9⟩, hS2.F ht⟩) hS2.2.2 d_21_56_15
abbrev Q_Preconditions_checkIndex_14 (D : va_G) (ca : Nat → ClassId)  (A : Nat → Prop) : Array Value → State → Outcome → State → Prop := va_Qi (S := Unit) (fun (r : Int32) (u : Unit) => r = 1) (fun u => gB D ca A []) A
set_option maxHeartbeats 8000000 in
set_option maxRecDepth 100000 in
theorem c_Preconditions_checkIndex_14 (l : Launch) (D : va_G) (ca : Nat → ClassId) (ad av : Nat → Nat) (sz : Nat)   : Met l ({ cls := "jdk/internal/util/Preconditions", name := "checkIndex", desc := "(IILjava/util/function/BiFunction;)I" } : Jvm.MethodName) (Cond.code ({ cls := "jdk/internal/util/Preconditions", name := "checkIndex", desc := "(IILjava/util/function/BiFunction;)I" } : Jvm.MethodName) prog_24_method_11_code 3 (Option.some Jvm.ClassFile.FieldType.int) :: wAll) ({ frames := 0, cells := 0, slots := 0, locals := 0 } : Room) (va_Pc [.int 1, .int 4, .null] (gPre D ca ad av [] sz)) (Q_Preconditions_checkIndex_14 D ca  (va_A [] sz)) 0 0 (va_A [] sz) := by
  refine gMet (Qc := Q_Preconditions_checkIndex_14 D ca ) (lv := [(0, .int 1), (1, .int 4), (2, .null)]) (by decide) (Nat.le_of_ble_eq_true rfl) rfl (fun A p e s m below meth c ls hx hb hr hml hown hts hlk hnm hl hP hK hD hS hA hX => ?_)
  have hown : s.vm.findClass "jdk/internal/util/Preconditions" = some m.cls := hown
  have hnm : meth.name = "checkIndex" := hnm
  refine lv_iload_n hx hb d_24_11_0 rfl (lv_at hl 0 rfl) ?_
  refine lv_if_lt (tgt := 9) hx hb d_24_11_1 (by decide) (fun c => absurd c (by decide)) (fun _ => ?_)
  refine lv_iload_n hx hb d_24_11_4 rfl (lv_at hl 0 rfl) ?_
  refine lv_iload_n hx hb d_24_11_5 rfl (lv_at hl 1 rfl) ?_
  refine lv_icmp_lt (tgt := 16) hx hb d_24_11_6 (by decide) (fun _ => ?_) (fun c => absurd (by decide) c)
  refine lv_iload_n hx hb d_24_11_16 rfl (lv_at hl 0 rfl) ?_
  have hP9 := hP.sub (ws' := []) [] rfl
  have hD9 := hD.sub (ws' := []) [] (by decide) rfl
  refine W.widen (k := 0) (n := 0) (Nat.le_of_ble_eq_true rfl) (Nat.le_of_ble_eq_true rfl) ?_
  exact W.iret (v := 1) hx hb hr (fun t ht hW => ⟨⟨1, (), rfl, rfl, by rw [ht]; exact hP9, va_K.moved hW.alike hK, hD9⟩, hS.F ht⟩) hS.2.2 d_24_11_17
abbrev Q_Preconditions_checkIndex_15 (D : va_G) (ca : Nat → ClassId) (r0 : Nat) (A : Nat → Prop) : Array Value → State → Outcome → State → Prop := va_Qi (S := Unit) (fun (r : Int32) (u : Unit) => r = 1) (fun u => gB D ca A []) A
set_option maxHeartbeats 8000000 in
set_option maxRecDepth 100000 in
theorem c_Preconditions_checkIndex_15 (l : Launch) (D : va_G) (ca : Nat → ClassId) (ad av : Nat → Nat) (sz : Nat) (r0 : Nat)  : Met l ({ cls := "jdk/internal/util/Preconditions", name := "checkIndex", desc := "(IILjava/util/function/BiFunction;)I" } : Jvm.MethodName) (Cond.code ({ cls := "jdk/internal/util/Preconditions", name := "checkIndex", desc := "(IILjava/util/function/BiFunction;)I" } : Jvm.MethodName) prog_24_method_11_code 3 (Option.some Jvm.ClassFile.FieldType.int) :: wAll) ({ frames := 0, cells := 0, slots := 0, locals := 0 } : Room) (va_Pc [.int 1, .int 4, .ref r0] (gPre D ca ad av [] sz)) (Q_Preconditions_checkIndex_15 D ca r0 (va_A [] sz)) 0 0 (va_A [] sz) := by
  refine gMet (Qc := Q_Preconditions_checkIndex_15 D ca r0) (lv := [(0, .int 1), (1, .int 4), (2, .ref r0)]) (by decide) (Nat.le_of_ble_eq_true rfl) rfl (fun A p e s m below meth c ls hx hb hr hml hown hts hlk hnm hl hP hK hD hS hA hX => ?_)
  have hown : s.vm.findClass "jdk/internal/util/Preconditions" = some m.cls := hown
  have hnm : meth.name = "checkIndex" := hnm
  refine lv_iload_n hx hb d_24_11_0 rfl (lv_at hl 0 rfl) ?_
  refine lv_if_lt (tgt := 9) hx hb d_24_11_1 (by decide) (fun c => absurd c (by decide)) (fun _ => ?_)
  refine lv_iload_n hx hb d_24_11_4 rfl (lv_at hl 0 rfl) ?_
  refine lv_iload_n hx hb d_24_11_5 rfl (lv_at hl 1 rfl) ?_
  refine lv_icmp_lt (tgt := 16) hx hb d_24_11_6 (by decide) (fun _ => ?_) (fun c => absurd (by decide) c)
  refine lv_iload_n hx hb d_24_11_16 rfl (lv_at hl 0 rfl) ?_
  have hP9 := hP.sub (ws' := []) [] rfl
  have hD9 := hD.sub (ws' := []) [] (by decide) rfl
  refine W.widen (k := 0) (n := 0) (Nat.le_of_ble_eq_true rfl) (Nat.le_of_ble_eq_true rfl) ?_
  exact W.iret (v := 1) hx hb hr (fun t ht hW => ⟨⟨1, (), rfl, rfl, by rw [ht]; exact hP9, va_K.moved hW.alike hK, hD9⟩, hS.F ht⟩) hS.2.2 d_24_11_17
abbrev Q_String_checkIndex_7 (D : va_G) (ca : Nat → ClassId)  (A : Nat → Prop) : Array Value → State → Outcome → State → Prop := va_Qv (S := Unit) (fun (u : Unit) => True) (fun u => gB D ca A []) A
set_option maxHeartbeats 8000000 in
set_option maxRecDepth 100000 in
theorem c_String_checkIndex_7 (l : Launch) (D : va_G) (ca : Nat → ClassId) (ad av : Nat → Nat) (sz : Nat)   : Met l ({ cls := "java/lang/String", name := "checkIndex", desc := "(II)V" } : Jvm.MethodName) (Cond.code ({ cls := "java/lang/String", name := "checkIndex", desc := "(II)V" } : Jvm.MethodName) prog_21_method_155_code 2 (Option.none : Option Jvm.ClassFile.FieldType) :: wAll) ({ frames := 1, cells := 0, slots := 0, locals := 22 } : Room) (va_Pc [.int 1, .int 4] (gPre D ca ad av [] sz)) (Q_String_checkIndex_7 D ca  (va_A [] sz)) 0 0 (va_A [] sz) := by
  refine gMet (Qc := Q_String_checkIndex_7 D ca ) (lv := [(0, .int 1), (1, .int 4)]) (by decide) (Nat.le_of_ble_eq_true rfl) rfl (fun A p e s m below meth c ls hx hb hr hml hown hts hlk hnm hl hP hK hD hS hA hX => ?_)
  have hown : s.vm.findClass "java/lang/String" = some m.cls := hown
  have hnm : meth.name = "checkIndex" := hnm
  refine lv_iload_n hx hb d_21_155_0 rfl (lv_at hl 0 rfl) ?_
  refine lv_iload_n hx hb d_21_155_1 rfl (lv_at hl 1 rfl) ?_
  rcases hX.2.2.2.2.2 with hz1 | ⟨tz1, hz1⟩
  · refine va_gets hx hb hz1 hS hown (hts _ k_3_120) (fun _ h => h) d_21_155_2 ?_
    have hFc2 := va_free (wc := []) hD hS hA [] rfl
    refine va_calli (va_runS (As := [.int 1, .int 4, .null]) (rest := []) ⟨hx, hb, hml, hown, hts⟩ (c_Preconditions_checkIndex_14 l D ca ad av s.heap.size  ) (va_cwS 3 hts (gdS k_7_143 k_7_144 k_1_13 k_7_145) rfl rfl rfl (by decide +kernel) ⟨Nat.le_of_ble_eq_true rfl, Nat.le_of_ble_eq_true rfl⟩) (gPS hP hD hK hS hA hX [] (by decide) rfl [.int 1, .int 4, .null]) rfl rfl hl.1 rfl (lv_room (Nat.le_of_ble_eq_true rfl)) d_21_155_5 ⟨Nat.le_of_ble_eq_true rfl, Nat.le_of_ble_eq_true rfl⟩) hS (fun q _ h => hFc2 q h) hFc2 (fun r2 u2 t2 H2 locs2 ht2 hvm2 hw2 hB2 hz2 hk2 hS2 => ?_)
    have hr2 := hw2
    obtain ⟨hP2, hD2⟩ := gJoin (wr := []) (w1 := []) hP hD [] [] rfl rfl (by decide) (by decide) hk2 hFc2 ht2 hB2
    have hP2 : va_P D cls [] H2 := hP2
    have hD2 : va_D A [] := hD2
    refine W.widen (k := 0) (n := 0) (Nat.le_of_ble_eq_true rfl) (Nat.le_of_ble_eq_true rfl) ?_
    subst hr2
    refine lv_pop hx hb d_21_155_8 rfl ?_
    have hP9 := hP2.sub (ws' := []) [] rfl
    have hD9 := hD2.sub (ws' := []) [] (by decide) rfl
    refine W.widen (k := 0) (n := 0) (Nat.le_of_ble_eq_true rfl) (Nat.le_of_ble_eq_true rfl) ?_
    exact W.vret hx hb hr (fun t ht hW => ⟨⟨(), rfl, trivial, by rw [ht]; exact hP9, va_K.moved hW.alike hK, hD9⟩, hS2.F ht⟩) hS2.2.2 d_21_155_9
  · refine va_gets hx hb hz1 hS hown (hts _ k_3_120) (fun _ h => h) d_21_155_2 ?_
    have hFc3 := va_free (wc := []) hD hS hA [] rfl
    refine va_calli (va_runS (As := [.int 1, .int 4, .ref tz1]) (rest := []) ⟨hx, hb, hml, hown, hts⟩ (c_Preconditions_checkIndex_15 l D ca ad av s.heap.size tz1 ) (va_cwS 3 hts (gdS k_7_143 k_7_144 k_1_13 k_7_145) rfl rfl rfl (by decide +kernel) ⟨Nat.le_of_ble_eq_true rfl, Nat.le_of_ble_eq_true rfl⟩) (gPS hP hD hK hS hA hX [] (by decide) rfl [.int 1, .int 4, .ref tz1]) rfl rfl hl.1 rfl (lv_room (Nat.le_of_ble_eq_true rfl)) d_21_155_5 ⟨Nat.le_of_ble_eq_true rfl, Nat.le_of_ble_eq_true rfl⟩) hS (fun q _ h => hFc3 q h) hFc3 (fun r3 u3 t3 H3 locs3 ht3 hvm3 hw3 hB3 hz3 hk3 hS3 => ?_)
    have hr3 := hw3
    obtain ⟨hP3, hD3⟩ := gJoin (wr := []) (w1 := []) hP hD [] [] rfl rfl (by decide) (by decide) hk3 hFc3 ht3 hB3
    have hP3 : va_P D cls [] H3 := hP3
    have hD3 : va_D A [] := hD3
    refine W.widen (k := 0) (n := 0) (Nat.le_of_ble_eq_true rfl) (Nat.le_of_ble_eq_true rfl) ?_
    subst hr3
    refine lv_pop hx hb d_21_155_8 rfl ?_
    have hP9 := hP3.sub (ws' := []) [] rfl
    have hD9 := hD3.sub (ws' := []) [] (by decide) rfl
    refine W.widen (k := 0) (n := 0) (Nat.le_of_ble_eq_true rfl) (Nat.le_of_ble_eq_true rfl) ?_
    exact W.vret hx hb hr (fun t ht hW => ⟨⟨(), rfl, trivial, by rw [ht]; exact hP9, va_K.moved hW.alike hK, hD9⟩, hS3.F ht⟩) hS3.2.2 d_21_155_9
abbrev Q_StringLatin1_charAt_7 (D : va_G) (ca : Nat → ClassId)  (A : Nat → Prop) : Array Value → State → Outcome → State → Prop := va_Qi (S := Unit) (fun (r : Int32) (u : Unit) => r = 97) (fun u => gB D ca A []) A
set_option maxHeartbeats 8000000 in
set_option maxRecDepth 100000 in
theorem c_StringLatin1_charAt_7 (l : Launch) (D : va_G) (ca : Nat → ClassId) (ad av : Nat → Nat) (sz : Nat)   : Met l ({ cls := "java/lang/StringLatin1", name := "charAt", desc := "([BI)C" } : Jvm.MethodName) (Cond.code ({ cls := "java/lang/StringLatin1", name := "charAt", desc := "([BI)C" } : Jvm.MethodName) prog_22_method_2_code 2 (Option.some Jvm.ClassFile.FieldType.char) :: wAll) ({ frames := 2, cells := 0, slots := 0, locals := 43 } : Room) (va_Pc [.ref (av 2), .int 1] (gPre D ca ad av [] sz)) (Q_StringLatin1_charAt_7 D ca  (va_A [] sz)) 0 0 (va_A [] sz) := by
  refine gMet (Qc := Q_StringLatin1_charAt_7 D ca ) (lv := [(0, .ref (av 2)), (1, .int 1)]) (by decide) (Nat.le_of_ble_eq_true rfl) rfl (fun A p e s m below meth c ls hx hb hr hml hown hts hlk hnm hl hP hK hD hS hA hX => ?_)
  have hown : s.vm.findClass "java/lang/StringLatin1" = some m.cls := hown
  have hnm : meth.name = "charAt" := hnm
  refine lv_iload_n hx hb d_22_2_0 rfl (lv_at hl 1 rfl) ?_
  refine lv_aload_n hx hb d_22_2_1 rfl (lv_at hl 0 rfl) ?_
  refine va_tlen (v := 4) hx hb ((hX.2.2.2.2.1 2 _ rfl).2.1 0 (by decide)).2.2.2 hS (by decide) d_22_2_2 ?_
  have hFc1 := va_free (wc := []) hD hS hA [] rfl
  refine va_callv (va_runS (As := [.int 1, .int 4]) (rest := []) ⟨hx, hb, hml, hown, hts⟩ (c_String_checkIndex_7 l D ca ad av s.heap.size  ) (va_cwS 2 hts (gdS k_7_140 k_7_141 k_1_11 k_7_142) rfl rfl rfl (by decide +kernel) ⟨Nat.le_of_ble_eq_true rfl, Nat.le_of_ble_eq_true rfl⟩) (gPS hP hD hK hS hA hX [] (by decide) rfl [.int 1, .int 4]) rfl rfl hl.1 rfl (lv_room (Nat.le_of_ble_eq_true rfl)) d_22_2_3 ⟨Nat.le_of_ble_eq_true rfl, Nat.le_of_ble_eq_true rfl⟩) hS (fun q _ h => hFc1 q h) hFc1 (fun u1 t1 H1 locs1 ht1 hvm1 hw1 hB1 hz1 hk1 hS1 => ?_)
  obtain ⟨hP1, hD1⟩ := gJoin (wr := []) (w1 := []) hP hD [] [] rfl rfl (by decide) (by decide) hk1 hFc1 ht1 hB1
  have hP1 : va_P D cls [] H1 := hP1
  have hD1 : va_D A [] := hD1
  refine W.widen (k := 0) (n := 0) (Nat.le_of_ble_eq_true rfl) (Nat.le_of_ble_eq_true rfl) ?_
  refine lv_aload_n hx hb d_22_2_6 rfl (lv_at hl 0 rfl) ?_
  refine lv_iload_n hx hb d_22_2_7 rfl (lv_at hl 1 rfl) ?_
  refine va_tb (v := .int 97) hx hb ((hX.2.2.2.2.1 2 _ rfl).2.1 0 (by decide)).2.2.2 hS1 (vinC (by decide)) rfl d_22_2_8 ?_
  refine lv_sipush (v := 255) hx hb d_22_2_9 (by decide) ?_
  refine lv_iand hx hb d_22_2_12 ?_
  refine lv_topi (fun y2 ey2 => ?_)
  obtain rfl : y2 = 97 := ey2.trans (by decide)
  refine lv_i2c hx hb d_22_2_13 rfl ?_
  refine lv_topi (fun y3 ey3 => ?_)
  obtain rfl : y3 = 97 := ey3.trans (by decide)
  have hP9 := hP1.sub (ws' := []) [] rfl
  have hD9 := hD1.sub (ws' := []) [] (by decide) rfl
  refine W.widen (k := 0) (n := 0) (Nat.le_of_ble_eq_true rfl) (Nat.le_of_ble_eq_true rfl) ?_
  exact W.zret (v := 97) hx hb hr rfl (fun t ht hW => ⟨⟨97, (), rfl, rfl, by rw [ht]; exact hP9, va_K.moved hW.alike hK, hD9⟩, hS1.F ht⟩) hS1.2.2 d_22_2_14
abbrev Q_String_charAt_7 (D : va_G) (ca : Nat → ClassId)  (A : Nat → Prop) : Array Value → State → Outcome → State → Prop := va_Qi (S := Unit) (fun (r : Int32) (u : Unit) => r = 97) (fun u => gB D ca A []) A
set_option maxHeartbeats 8000000 in
set_option maxRecDepth 100000 in
theorem c_String_charAt_7 (l : Launch) (D : va_G) (ca : Nat → ClassId) (ad av : Nat → Nat) (sz : Nat)   : Met l ({ cls := "java/lang/String", name := "charAt", desc := "(I)C" } : Jvm.MethodName) (Cond.code ({ cls := "java/lang/String", name := "charAt", desc := "(I)C" } : Jvm.MethodName) prog_21_method_56_code 2 (Option.some Jvm.ClassFile.FieldType.char) :: wAll) ({ frames := 3, cells := 0, slots := 0, locals := 64 } : Room) (va_Pc [.ref (ad 2), .int 1] (gPre D ca ad av [] sz)) (Q_String_charAt_7 D ca  (va_A [] sz)) 0 0 (va_A [] sz) := by
  refine gMet (Qc := Q_String_charAt_7 D ca ) (lv := [(0, .ref (ad 2)), (1, .int 1)]) (by decide) (Nat.le_of_ble_eq_true rfl) rfl (fun A p e s m below meth c ls hx hb hr hml hown hts hlk hnm hl hP hK hD hS hA hX => ?_)
  have hown : s.vm.findClass "java/lang/String" = some m.cls := hown
  have hnm : meth.name = "charAt" := hnm
  refine lv_aload_n hx hb d_21_56_0 rfl (lv_at hl 0 rfl) ?_
  have hFc1 := va_free (wc := []) hD hS hA [] rfl
  refine va_calli (va_runV (As := []) (rest := []) ⟨hx, hb, hml, hown, hts⟩ (c_String_isLatin1_1 l D ca ad av s.heap.size  ) (cwV 0 hts (gdV k_3_75 k_3_76 k_3_77 k_1_11 k_3_78) rfl rfl rfl (by decide +kernel) ⟨Nat.le_of_ble_eq_true rfl, Nat.le_of_ble_eq_true rfl⟩) ⟨gBlind, vk_recv (i := 0) (hX.2.2.2.2.1 2 _ rfl).2 (by decide) hS, gAt hP hD hK hS hA hX [] (by decide) rfl [.ref (ad 2)]⟩ rfl rfl hl.1 rfl (lv_room (Nat.le_of_ble_eq_true rfl)) d_21_56_1 ⟨Nat.le_of_ble_eq_true rfl, Nat.le_of_ble_eq_true rfl⟩) hS (fun q _ h => hFc1 q h) hFc1 (fun r1 u1 t1 H1 locs1 ht1 hvm1 hw1 hB1 hz1 hk1 hS1 => ?_)
  have hr1 := hw1
  obtain ⟨hP1, hD1⟩ := gJoin (wr := []) (w1 := []) hP hD [] [] rfl rfl (by decide) (by decide) hk1 hFc1 ht1 hB1
  have hP1 : va_P D cls [] H1 := hP1
  have hD1 : va_D A [] := hD1
  refine W.widen (k := 0) (n := 0) (Nat.le_of_ble_eq_true rfl) (Nat.le_of_ble_eq_true rfl) ?_
  subst hr1
  refine lv_if_eq (tgt := 16) hx hb d_21_56_4 (by decide) (fun c => absurd c (by decide)) (fun _ => ?_)
  refine lv_aload_n hx hb d_21_56_7 rfl (lv_at hl 0 rfl) ?_
  refine vk_getf hx hb ((hX.2.2.2.2.1 2 _ rfl).2.1 0 (by decide)).2.2.1 hS1 hown (hts _ k_15_170) (fun _ h => h) d_21_56_8 ?_
  refine W.eq (g2 := F0 m 11 ls [.ref (av 2)]) rfl ?_
  refine lv_iload_n hx hb d_21_56_11 rfl (lv_at hl 1 rfl) ?_
  have hFc2 := va_free (wc := []) hD1 hS1 hA [] rfl
  refine va_calli (va_runS (As := [.ref (av 2), .int 1]) (rest := []) ⟨hx, hb, hml, hown, hts⟩ (c_StringLatin1_charAt_7 l D ca ad av H1.size  ) (va_cwS 2 hts (gdS k_7_137 k_7_138 k_1_12 k_7_139) rfl rfl rfl (by decide +kernel) ⟨Nat.le_of_ble_eq_true rfl, Nat.le_of_ble_eq_true rfl⟩) (gPS hP1 hD1 hK hS1 hA hX [] (by decide) rfl [.ref (av 2), .int 1]) rfl rfl hl.1 rfl (lv_room (Nat.le_of_ble_eq_true rfl)) d_21_56_12 ⟨Nat.le_of_ble_eq_true rfl, Nat.le_of_ble_eq_true rfl⟩) hS1 (fun q _ h => hFc2 q h) hFc2 (fun r2 u2 t2 H2 locs2 ht2 hvm2 hw2 hB2 hz2 hk2 hS2 => ?_)
  have hr2 := hw2
  obtain ⟨hP2, hD2⟩ := gJoin (wr := []) (w1 := []) hP1 hD1 [] [] rfl rfl (by decide) (by decide) hk2 hFc2 ht2 hB2
  have hP2 : va_P D cls [] H2 := hP2
  have hD2 : va_D A [] := hD2
  refine W.widen (k := 0) (n := 0) (Nat.le_of_ble_eq_true rfl) (Nat.le_of_ble_eq_true rfl) ?_
  subst hr2
  have hP9 := hP2.sub (ws' := []) [] rfl
  have hD9 := hD2.sub (ws' := []) [] (by decide) rfl
  refine W.widen (k := 0) (n := 0) (Nat.le_of_ble_eq_true rfl) (Nat.le_of_ble_eq_true rfl) ?_
  exact W.zret (v := 97) hx hb hr rfl (fun t ht hW => ⟨⟨97, (), rfl, rfl, by rw [ht]; exact hP9, va_K.moved hW.alike hK, hD9⟩, hS2.F ht⟩) hS2.2.2 d_21_56_15
abbrev Q_Preconditions_checkIndex_16 (D : va_G) (ca : Nat → ClassId)  (A : Nat → Prop) : Array Value → State → Outcome → State → Prop := va_Qi (S := Unit) (fun (r : Int32) (u : Unit) => r = 2) (fun u => gB D ca A []) A
set_option maxHeartbeats 8000000 in
set_option maxRecDepth 100000 in
theorem c_Preconditions_checkIndex_16 (l : Launch) (D : va_G) (ca : Nat → ClassId) (ad av : Nat → Nat) (sz : Nat)   : Met l ({ cls := "jdk/internal/util/Preconditions", name := "checkIndex", desc := "(IILjava/util/function/BiFunction;)I" } : Jvm.MethodName) (Cond.code ({ cls := "jdk/internal/util/Preconditions", name := "checkIndex", desc := "(IILjava/util/function/BiFunction;)I" } : Jvm.MethodName) prog_24_method_11_code 3 (Option.some Jvm.ClassFile.FieldType.int) :: wAll) ({ frames := 0, cells := 0, slots := 0, locals := 0 } : Room) (va_Pc [.int 2, .int 4, .null] (gPre D ca ad av [] sz)) (Q_Preconditions_checkIndex_16 D ca  (va_A [] sz)) 0 0 (va_A [] sz) := by
  refine gMet (Qc := Q_Preconditions_checkIndex_16 D ca ) (lv := [(0, .int 2), (1, .int 4), (2, .null)]) (by decide) (Nat.le_of_ble_eq_true rfl) rfl (fun A p e s m below meth c ls hx hb hr hml hown hts hlk hnm hl hP hK hD hS hA hX => ?_)
  have hown : s.vm.findClass "jdk/internal/util/Preconditions" = some m.cls := hown
  have hnm : meth.name = "checkIndex" := hnm
  refine lv_iload_n hx hb d_24_11_0 rfl (lv_at hl 0 rfl) ?_
  refine lv_if_lt (tgt := 9) hx hb d_24_11_1 (by decide) (fun c => absurd c (by decide)) (fun _ => ?_)
  refine lv_iload_n hx hb d_24_11_4 rfl (lv_at hl 0 rfl) ?_
  refine lv_iload_n hx hb d_24_11_5 rfl (lv_at hl 1 rfl) ?_
  refine lv_icmp_lt (tgt := 16) hx hb d_24_11_6 (by decide) (fun _ => ?_) (fun c => absurd (by decide) c)
  refine lv_iload_n hx hb d_24_11_16 rfl (lv_at hl 0 rfl) ?_
  have hP9 := hP.sub (ws' := []) [] rfl
  have hD9 := hD.sub (ws' := []) [] (by decide) rfl
  refine W.widen (k := 0) (n := 0) (Nat.le_of_ble_eq_true rfl) (Nat.le_of_ble_eq_true rfl) ?_
  exact W.iret (v := 2) hx hb hr (fun t ht hW => ⟨⟨2, (), rfl, rfl, by rw [ht]; exact hP9, va_K.moved hW.alike hK, hD9⟩, hS.F ht⟩) hS.2.2 d_24_11_17
abbrev Q_Preconditions_checkIndex_17 (D : va_G) (ca : Nat → ClassId) (r0 : Nat) (A : Nat → Prop) : Array Value → State → Outcome → State → Prop := va_Qi (S := Unit) (fun (r : Int32) (u : Unit) => r = 2) (fun u => gB D ca A []) A
set_option maxHeartbeats 8000000 in
set_option maxRecDepth 100000 in
theorem c_Preconditions_checkIndex_17 (l : Launch) (D : va_G) (ca : Nat → ClassId) (ad av : Nat → Nat) (sz : Nat) (r0 : Nat)  : Met l ({ cls := "jdk/internal/util/Preconditions", name := "checkIndex", desc := "(IILjava/util/function/BiFunction;)I" } : Jvm.MethodName) (Cond.code ({ cls := "jdk/internal/util/Preconditions", name := "checkIndex", desc := "(IILjava/util/function/BiFunction;)I" } : Jvm.MethodName) prog_24_method_11_code 3 (Option.some Jvm.ClassFile.FieldType.int) :: wAll) ({ frames := 0, cells := 0, slots := 0, locals := 0 } : Room) (va_Pc [.int 2, .int 4, .ref r0] (gPre D ca ad av [] sz)) (Q_Preconditions_checkIndex_17 D ca r0 (va_A [] sz)) 0 0 (va_A [] sz) := by
  refine gMet (Qc := Q_Preconditions_checkIndex_17 D ca r0) (lv := [(0, .int 2), (1, .int 4), (2, .ref r0)]) (by decide) (Nat.le_of_ble_eq_true rfl) rfl (fun A p e s m below meth c ls hx hb hr hml hown hts hlk hnm hl hP hK hD hS hA hX => ?_)
  have hown : s.vm.findClass "jdk/internal/util/Preconditions" = some m.cls := hown
  have hnm : meth.name = "checkIndex" := hnm
  refine lv_iload_n hx hb d_24_11_0 rfl (lv_at hl 0 rfl) ?_
  refine lv_if_lt (tgt := 9) hx hb d_24_11_1 (by decide) (fun c => absurd c (by decide)) (fun _ => ?_)
  refine lv_iload_n hx hb d_24_11_4 rfl (lv_at hl 0 rfl) ?_
  refine lv_iload_n hx hb d_24_11_5 rfl (lv_at hl 1 rfl) ?_
  refine lv_icmp_lt (tgt := 16) hx hb d_24_11_6 (by decide) (fun _ => ?_) (fun c => absurd (by decide) c)
  refine lv_iload_n hx hb d_24_11_16 rfl (lv_at hl 0 rfl) ?_
  have hP9 := hP.sub (ws' := []) [] rfl
  have hD9 := hD.sub (ws' := []) [] (by decide) rfl
  refine W.widen (k := 0) (n := 0) (Nat.le_of_ble_eq_true rfl) (Nat.le_of_ble_eq_true rfl) ?_
  exact W.iret (v := 2) hx hb hr (fun t ht hW => ⟨⟨2, (), rfl, rfl, by rw [ht]; exact hP9, va_K.moved hW.alike hK, hD9⟩, hS.F ht⟩) hS.2.2 d_24_11_17
abbrev Q_String_checkIndex_8 (D : va_G) (ca : Nat → ClassId)  (A : Nat → Prop) : Array Value → State → Outcome → State → Prop := va_Qv (S := Unit) (fun (u : Unit) => True) (fun u => gB D ca A []) A
set_option maxHeartbeats 8000000 in
set_option maxRecDepth 100000 in
theorem c_String_checkIndex_8 (l : Launch) (D : va_G) (ca : Nat → ClassId) (ad av : Nat → Nat) (sz : Nat)   : Met l ({ cls := "java/lang/String", name := "checkIndex", desc := "(II)V" } : Jvm.MethodName) (Cond.code ({ cls := "java/lang/String", name := "checkIndex", desc := "(II)V" } : Jvm.MethodName) prog_21_method_155_code 2 (Option.none : Option Jvm.ClassFile.FieldType) :: wAll) ({ frames := 1, cells := 0, slots := 0, locals := 22 } : Room) (va_Pc [.int 2, .int 4] (gPre D ca ad av [] sz)) (Q_String_checkIndex_8 D ca  (va_A [] sz)) 0 0 (va_A [] sz) := by
  refine gMet (Qc := Q_String_checkIndex_8 D ca ) (lv := [(0, .int 2), (1, .int 4)]) (by decide) (Nat.le_of_ble_eq_true rfl) rfl (fun A p e s m below meth c ls hx hb hr hml hown hts hlk hnm hl hP hK hD hS hA hX => ?_)
  have hown : s.vm.findClass "java/lang/String" = some m.cls := hown
  have hnm : meth.name = "checkIndex" := hnm
  refine lv_iload_n hx hb d_21_155_0 rfl (lv_at hl 0 rfl) ?_
  refine lv_iload_n hx hb d_21_155_1 rfl (lv_at hl 1 rfl) ?_
  rcases hX.2.2.2.2.2 with hz1 | ⟨tz1, hz1⟩
  · refine va_gets hx hb hz1 hS hown (hts _ k_3_120) (fun _ h => h) d_21_155_2 ?_
    have hFc2 := va_free (wc := []) hD hS hA [] rfl
    refine va_calli (va_runS (As := [.int 2, .int 4, .null]) (rest := []) ⟨hx, hb, hml, hown, hts⟩ (c_Preconditions_checkIndex_16 l D ca ad av s.heap.size  ) (va_cwS 3 hts (gdS k_7_143 k_7_144 k_1_13 k_7_145) rfl rfl rfl (by decide +kernel) ⟨Nat.le_of_ble_eq_true rfl, Nat.le_of_ble_eq_true rfl⟩) (gPS hP hD hK hS hA hX [] (by decide) rfl [.int 2, .int 4, .null]) rfl rfl hl.1 rfl (lv_room (Nat.le_of_ble_eq_true rfl)) d_21_155_5 ⟨Nat.le_of_ble_eq_true rfl, Nat.le_of_ble_eq_true rfl⟩) hS (fun q _ h => hFc2 q h) hFc2 (fun r2 u2 t2 H2 locs2 ht2 hvm2 hw2 hB2 hz2 hk2 hS2 => ?_)
    have hr2 := hw2
    obtain ⟨hP2, hD2⟩ := gJoin (wr := []) (w1 := []) hP hD [] [] rfl rfl (by decide) (by decide) hk2 hFc2 ht2 hB2
    have hP2 : va_P D cls [] H2 := hP2
    have hD2 : va_D A [] := hD2
    refine W.widen (k := 0) (n := 0) (Nat.le_of_ble_eq_true rfl) (Nat.le_of_ble_eq_true rfl) ?_
    subst hr2
    refine lv_pop hx hb d_21_155_8 rfl ?_
    have hP9 := hP2.sub (ws' := []) [] rfl
    have hD9 := hD2.sub (ws' := []) [] (by decide) rfl
    refine W.widen (k := 0) (n := 0) (Nat.le_of_ble_eq_true rfl) (Nat.le_of_ble_eq_true rfl) ?_
    exact W.vret hx hb hr (fun t ht hW => ⟨⟨(), rfl, trivial, by rw [ht]; exact hP9, va_K.moved hW.alike hK, hD9⟩, hS2.F ht⟩) hS2.2.2 d_21_155_9
  · refine va_gets hx hb hz1 hS hown (hts _ k_3_120) (fun _ h => h) d_21_155_2 ?_
    have hFc3 := va_free (wc := []) hD hS hA [] rfl
    refine va_calli (va_runS (As := [.int 2, .int 4, .ref tz1]) (rest := []) ⟨hx, hb, hml, hown, hts⟩ (c_Preconditions_checkIndex_17 l D ca ad av s.heap.size tz1 ) (va_cwS 3 hts (gdS k_7_143 k_7_144 k_1_13 k_7_145) rfl rfl rfl (by decide +kernel) ⟨Nat.le_of_ble_eq_true rfl, Nat.le_of_ble_eq_true rfl⟩) (gPS hP hD hK hS hA hX [] (by decide) rfl [.int 2, .int 4, .ref tz1]) rfl rfl hl.1 rfl (lv_room (Nat.le_of_ble_eq_true rfl)) d_21_155_5 ⟨Nat.le_of_ble_eq_true rfl, Nat.le_of_ble_eq_true rfl⟩) hS (fun q _ h => hFc3 q h) hFc3 (fun r3 u3 t3 H3 locs3 ht3 hvm3 hw3 hB3 hz3 hk3 hS3 => ?_)
    have hr3 := hw3
    obtain ⟨hP3, hD3⟩ := gJoin (wr := []) (w1 := []) hP hD [] [] rfl rfl (by decide) (by decide) hk3 hFc3 ht3 hB3
    have hP3 : va_P D cls [] H3 := hP3
    have hD3 : va_D A [] := hD3
    refine W.widen (k := 0) (n := 0) (Nat.le_of_ble_eq_true rfl) (Nat.le_of_ble_eq_true rfl) ?_
    subst hr3
    refine lv_pop hx hb d_21_155_8 rfl ?_
    have hP9 := hP3.sub (ws' := []) [] rfl
    have hD9 := hD3.sub (ws' := []) [] (by decide) rfl
    refine W.widen (k := 0) (n := 0) (Nat.le_of_ble_eq_true rfl) (Nat.le_of_ble_eq_true rfl) ?_
    exact W.vret hx hb hr (fun t ht hW => ⟨⟨(), rfl, trivial, by rw [ht]; exact hP9, va_K.moved hW.alike hK, hD9⟩, hS3.F ht⟩) hS3.2.2 d_21_155_9
abbrev Q_StringLatin1_charAt_8 (D : va_G) (ca : Nat → ClassId)  (A : Nat → Prop) : Array Value → State → Outcome → State → Prop := va_Qi (S := Unit) (fun (r : Int32) (u : Unit) => r = 115) (fun u => gB D ca A []) A
set_option maxHeartbeats 8000000 in
set_option maxRecDepth 100000 in
theorem c_StringLatin1_charAt_8 (l : Launch) (D : va_G) (ca : Nat → ClassId) (ad av : Nat → Nat) (sz : Nat)   : Met l ({ cls := "java/lang/StringLatin1", name := "charAt", desc := "([BI)C" } : Jvm.MethodName) (Cond.code ({ cls := "java/lang/StringLatin1", name := "charAt", desc := "([BI)C" } : Jvm.MethodName) prog_22_method_2_code 2 (Option.some Jvm.ClassFile.FieldType.char) :: wAll) ({ frames := 2, cells := 0, slots := 0, locals := 43 } : Room) (va_Pc [.ref (av 2), .int 2] (gPre D ca ad av [] sz)) (Q_StringLatin1_charAt_8 D ca  (va_A [] sz)) 0 0 (va_A [] sz) := by
  refine gMet (Qc := Q_StringLatin1_charAt_8 D ca ) (lv := [(0, .ref (av 2)), (1, .int 2)]) (by decide) (Nat.le_of_ble_eq_true rfl) rfl (fun A p e s m below meth c ls hx hb hr hml hown hts hlk hnm hl hP hK hD hS hA hX => ?_)
  have hown : s.vm.findClass "java/lang/StringLatin1" = some m.cls := hown
  have hnm : meth.name = "charAt" := hnm
  refine lv_iload_n hx hb d_22_2_0 rfl (lv_at hl 1 rfl) ?_
  refine lv_aload_n hx hb d_22_2_1 rfl (lv_at hl 0 rfl) ?_
  refine va_tlen (v := 4) hx hb ((hX.2.2.2.2.1 2 _ rfl).2.1 0 (by decide)).2.2.2 hS (by decide) d_22_2_2 ?_
  have hFc1 := va_free (wc := []) hD hS hA [] rfl
  refine va_callv (va_runS (As := [.int 2, .int 4]) (rest := []) ⟨hx, hb, hml, hown, hts⟩ (c_String_checkIndex_8 l D ca ad av s.heap.size  ) (va_cwS 2 hts (gdS k_7_140 k_7_141 k_1_11 k_7_142) rfl rfl rfl (by decide +kernel) ⟨Nat.le_of_ble_eq_true rfl, Nat.le_of_ble_eq_true rfl⟩) (gPS hP hD hK hS hA hX [] (by decide) rfl [.int 2, .int 4]) rfl rfl hl.1 rfl (lv_room (Nat.le_of_ble_eq_true rfl)) d_22_2_3 ⟨Nat.le_of_ble_eq_true rfl, Nat.le_of_ble_eq_true rfl⟩) hS (fun q _ h => hFc1 q h) hFc1 (fun u1 t1 H1 locs1 ht1 hvm1 hw1 hB1 hz1 hk1 hS1 => ?_)
  obtain ⟨hP1, hD1⟩ := gJoin (wr := []) (w1 := []) hP hD [] [] rfl rfl (by decide) (by decide) hk1 hFc1 ht1 hB1
  have hP1 : va_P D cls [] H1 := hP1
  have hD1 : va_D A [] := hD1
  refine W.widen (k := 0) (n := 0) (Nat.le_of_ble_eq_true rfl) (Nat.le_of_ble_eq_true rfl) ?_
  refine lv_aload_n hx hb d_22_2_6 rfl (lv_at hl 0 rfl) ?_
  refine lv_iload_n hx hb d_22_2_7 rfl (lv_at hl 1 rfl) ?_
  refine va_tb (v := .int 115) hx hb ((hX.2.2.2.2.1 2 _ rfl).2.1 0 (by decide)).2.2.2 hS1 (vinC (by decide)) rfl d_22_2_8 ?_
  refine lv_sipush (v := 255) hx hb d_22_2_9 (by decide) ?_
  refine lv_iand hx hb d_22_2_12 ?_
  refine lv_topi (fun y2 ey2 => ?_)
  obtain rfl : y2 = 115 := ey2.trans (by decide)
  refine lv_i2c hx hb d_22_2_13 rfl ?_
  refine lv_topi (fun y3 ey3 => ?_)
  obtain rfl : y3 = 115 := ey3.trans (by decide)
  have hP9 := hP1.sub (ws' := []) [] rfl
  have hD9 := hD1.sub (ws' := []) [] (by decide) rfl
  refine W.widen (k := 0) (n := 0) (Nat.le_of_ble_eq_true rfl) (Nat.le_of_ble_eq_true rfl) ?_
  exact W.zret (v := 115) hx hb hr rfl (fun t ht hW => ⟨⟨115, (), rfl, rfl, by rw [ht]; exact hP9, va_K.moved hW.alike hK, hD9⟩, hS1.F ht⟩) hS1.2.2 d_22_2_14
abbrev Q_String_charAt_8 (D : va_G) (ca : Nat → ClassId)  (A : Nat → Prop) : Array Value → State → Outcome → State → Prop := va_Qi (S := Unit) (fun (r : Int32) (u : Unit) => r = 115) (fun u => gB D ca A []) A
set_option maxHeartbeats 8000000 in
set_option maxRecDepth 100000 in
theorem c_String_charAt_8 (l : Launch) (D : va_G) (ca : Nat → ClassId) (ad av : Nat → Nat) (sz : Nat)   : Met l ({ cls := "java/lang/String", name := "charAt", desc := "(I)C" } : Jvm.MethodName) (Cond.code ({ cls := "java/lang/String", name := "charAt", desc := "(I)C" } : Jvm.MethodName) prog_21_method_56_code 2 (Option.some Jvm.ClassFile.FieldType.char) :: wAll) ({ frames := 3, cells := 0, slots := 0, locals := 64 } : Room) (va_Pc [.ref (ad 2), .int 2] (gPre D ca ad av [] sz)) (Q_String_charAt_8 D ca  (va_A [] sz)) 0 0 (va_A [] sz) := by
  refine gMet (Qc := Q_String_charAt_8 D ca ) (lv := [(0, .ref (ad 2)), (1, .int 2)]) (by decide) (Nat.le_of_ble_eq_true rfl) rfl (fun A p e s m below meth c ls hx hb hr hml hown hts hlk hnm hl hP hK hD hS hA hX => ?_)
  have hown : s.vm.findClass "java/lang/String" = some m.cls := hown
  have hnm : meth.name = "charAt" := hnm
  refine lv_aload_n hx hb d_21_56_0 rfl (lv_at hl 0 rfl) ?_
  have hFc1 := va_free (wc := []) hD hS hA [] rfl
  refine va_calli (va_runV (As := []) (rest := []) ⟨hx, hb, hml, hown, hts⟩ (c_String_isLatin1_1 l D ca ad av s.heap.size  ) (cwV 0 hts (gdV k_3_75 k_3_76 k_3_77 k_1_11 k_3_78) rfl rfl rfl (by decide +kernel) ⟨Nat.le_of_ble_eq_true rfl, Nat.le_of_ble_eq_true rfl⟩) ⟨gBlind, vk_recv (i := 0) (hX.2.2.2.2.1 2 _ rfl).2 (by decide) hS, gAt hP hD hK hS hA hX [] (by decide) rfl [.ref (ad 2)]⟩ rfl rfl hl.1 rfl (lv_room (Nat.le_of_ble_eq_true rfl)) d_21_56_1 ⟨Nat.le_of_ble_eq_true rfl, Nat.le_of_ble_eq_true rfl⟩) hS (fun q _ h => hFc1 q h) hFc1 (fun r1 u1 t1 H1 locs1 ht1 hvm1 hw1 hB1 hz1 hk1 hS1 => ?_)
  have hr1 := hw1
  obtain ⟨hP1, hD1⟩ := gJoin (wr := []) (w1 := []) hP hD [] [] rfl rfl (by decide) (by decide) hk1 hFc1 ht1 hB1
  have hP1 : va_P D cls [] H1 := hP1
  have hD1 : va_D A [] := hD1
  refine W.widen (k := 0) (n := 0) (Nat.le_of_ble_eq_true rfl) (Nat.le_of_ble_eq_true rfl) ?_
  subst hr1
  refine lv_if_eq (tgt := 16) hx hb d_21_56_4 (by decide) (fun c => absurd c (by decide)) (fun _ => ?_)
  refine lv_aload_n hx hb d_21_56_7 rfl (lv_at hl 0 rfl) ?_
  refine vk_getf hx hb ((hX.2.2.2.2.1 2 _ rfl).2.1 0 (by decide)).2.2.1 hS1 hown (hts _ k_15_170) (fun _ h => h) d_21_56_8 ?_
  refine W.eq (g2 := F0 m 11 ls [.ref (av 2)]) rfl ?_
  refine lv_iload_n hx hb d_21_56_11 rfl (lv_at hl 1 rfl) ?_
  have hFc2 := va_free (wc := []) hD1 hS1 hA [] rfl
  refine va_calli (va_runS (As := [.ref (av 2), .int 2]) (rest := []) ⟨hx, hb, hml, hown, hts⟩ (c_StringLatin1_charAt_8 l D ca ad av H1.size  ) (va_cwS 2 hts (gdS k_7_137 k_7_138 k_1_12 k_7_139) rfl rfl rfl (by decide +kernel) ⟨Nat.le_of_ble_eq_true rfl, Nat.le_of_ble_eq_true rfl⟩) (gPS hP1 hD1 hK hS1 hA hX [] (by decide) rfl [.ref (av 2), .int 2]) rfl rfl hl.1 rfl (lv_room (Nat.le_of_ble_eq_true rfl)) d_21_56_12 ⟨Nat.le_of_ble_eq_true rfl, Nat.le_of_ble_eq_true rfl⟩) hS1 (fun q _ h => hFc2 q h) hFc2 (fun r2 u2 t2 H2 locs2 ht2 hvm2 hw2 hB2 hz2 hk2 hS2 => ?_)
  have hr2 := hw2
  obtain ⟨hP2, hD2⟩ := gJoin (wr := []) (w1 := []) hP1 hD1 [] [] rfl rfl (by decide) (by decide) hk2 hFc2 ht2 hB2
  have hP2 : va_P D cls [] H2 := hP2
  have hD2 : va_D A [] := hD2
  refine W.widen (k := 0) (n := 0) (Nat.le_of_ble_eq_true rfl) (Nat.le_of_ble_eq_true rfl) ?_
  subst hr2
  have hP9 := hP2.sub (ws' := []) [] rfl
  have hD9 := hD2.sub (ws' := []) [] (by decide) rfl
  refine W.widen (k := 0) (n := 0) (Nat.le_of_ble_eq_true rfl) (Nat.le_of_ble_eq_true rfl) ?_
  exact W.zret (v := 115) hx hb hr rfl (fun t ht hW => ⟨⟨115, (), rfl, rfl, by rw [ht]; exact hP9, va_K.moved hW.alike hK, hD9⟩, hS2.F ht⟩) hS2.2.2 d_21_56_15
abbrev Q_Preconditions_checkIndex_18 (D : va_G) (ca : Nat → ClassId)  (A : Nat → Prop) : Array Value → State → Outcome → State → Prop := va_Qi (S := Unit) (fun (r : Int32) (u : Unit) => r = 3) (fun u => gB D ca A []) A
set_option maxHeartbeats 8000000 in
set_option maxRecDepth 100000 in
theorem c_Preconditions_checkIndex_18 (l : Launch) (D : va_G) (ca : Nat → ClassId) (ad av : Nat → Nat) (sz : Nat)   : Met l ({ cls := "jdk/internal/util/Preconditions", name := "checkIndex", desc := "(IILjava/util/function/BiFunction;)I" } : Jvm.MethodName) (Cond.code ({ cls := "jdk/internal/util/Preconditions", name := "checkIndex", desc := "(IILjava/util/function/BiFunction;)I" } : Jvm.MethodName) prog_24_method_11_code 3 (Option.some Jvm.ClassFile.FieldType.int) :: wAll) ({ frames := 0, cells := 0, slots := 0, locals := 0 } : Room) (va_Pc [.int 3, .int 4, .null] (gPre D ca ad av [] sz)) (Q_Preconditions_checkIndex_18 D ca  (va_A [] sz)) 0 0 (va_A [] sz) := by
  refine gMet (Qc := Q_Preconditions_checkIndex_18 D ca ) (lv := [(0, .int 3), (1, .int 4), (2, .null)]) (by decide) (Nat.le_of_ble_eq_true rfl) rfl (fun A p e s m below meth c ls hx hb hr hml hown hts hlk hnm hl hP hK hD hS hA hX => ?_)
  have hown : s.vm.findClass "jdk/internal/util/Preconditions" = some m.cls := hown
  have hnm : meth.name = "checkIndex" := hnm
  refine lv_iload_n hx hb d_24_11_0 rfl (lv_at hl 0 rfl) ?_
  refine lv_if_lt (tgt := 9) hx hb d_24_11_1 (by decide) (fun c => absurd c (by decide)) (fun _ => ?_)
  refine lv_iload_n hx hb d_24_11_4 rfl (lv_at hl 0 rfl) ?_
  refine lv_iload_n hx hb d_24_11_5 rfl (lv_at hl 1 rfl) ?_
  refine lv_icmp_lt (tgt := 16) hx hb d_24_11_6 (by decide) (fun _ => ?_) (fun c => absurd (by decide) c)
  refine lv_iload_n hx hb d_24_11_16 rfl (lv_at hl 0 rfl) ?_
  have hP9 := hP.sub (ws' := []) [] rfl
  have hD9 := hD.sub (ws' := []) [] (by decide) rfl
  refine W.widen (k := 0) (n := 0) (Nat.le_of_ble_eq_true rfl) (Nat.le_of_ble_eq_true rfl) ?_
  exact W.iret (v := 3) hx hb hr (fun t ht hW => ⟨⟨3, (), rfl, rfl, by rw [ht]; exact hP9, va_K.moved hW.alike hK, hD9⟩, hS.F ht⟩) hS.2.2 d_24_11_17
abbrev Q_Preconditions_checkIndex_19 (D : va_G) (ca : Nat → ClassId) (r0 : Nat) (A : Nat → Prop) : Array Value → State → Outcome → State → Prop := va_Qi (S := Unit) (fun (r : Int32) (u : Unit) => r = 3) (fun u => gB D ca A []) A
set_option maxHeartbeats 8000000 in
set_option maxRecDepth 100000 in
theorem c_Preconditions_checkIndex_19 (l : Launch) (D : va_G) (ca : Nat → ClassId) (ad av : Nat → Nat) (sz : Nat) (r0 : Nat)  : Met l ({ cls := "jdk/internal/util/Preconditions", name := "checkIndex", desc := "(IILjava/util/function/BiFunction;)I" } : Jvm.MethodName) (Cond.code ({ cls := "jdk/internal/util/Preconditions", name := "checkIndex", desc := "(IILjava/util/function/BiFunction;)I" } : Jvm.MethodName) prog_24_method_11_code 3 (Option.some Jvm.ClassFile.FieldType.int) :: wAll) ({ frames := 0, cells := 0, slots := 0, locals := 0 } : Room) (va_Pc [.int 3, .int 4, .ref r0] (gPre D ca ad av [] sz)) (Q_Preconditions_checkIndex_19 D ca r0 (va_A [] sz)) 0 0 (va_A [] sz) := by
  refine gMet (Qc := Q_Preconditions_checkIndex_19 D ca r0) (lv := [(0, .int 3), (1, .int 4), (2, .ref r0)]) (by decide) (Nat.le_of_ble_eq_true rfl) rfl (fun A p e s m below meth c ls hx hb hr hml hown hts hlk hnm hl hP hK hD hS hA hX => ?_)
  have hown : s.vm.findClass "jdk/internal/util/Preconditions" = some m.cls := hown
  have hnm : meth.name = "checkIndex" := hnm
  refine lv_iload_n hx hb d_24_11_0 rfl (lv_at hl 0 rfl) ?_
  refine lv_if_lt (tgt := 9) hx hb d_24_11_1 (by decide) (fun c => absurd c (by decide)) (fun _ => ?_)
  refine lv_iload_n hx hb d_24_11_4 rfl (lv_at hl 0 rfl) ?_
  refine lv_iload_n hx hb d_24_11_5 rfl (lv_at hl 1 rfl) ?_
  refine lv_icmp_lt (tgt := 16) hx hb d_24_11_6 (by decide) (fun _ => ?_) (fun c => absurd (by decide) c)
  refine lv_iload_n hx hb d_24_11_16 rfl (lv_at hl 0 rfl) ?_
  have hP9 := hP.sub (ws' := []) [] rfl
  have hD9 := hD.sub (ws' := []) [] (by decide) rfl
  refine W.widen (k := 0) (n := 0) (Nat.le_of_ble_eq_true rfl) (Nat.le_of_ble_eq_true rfl) ?_
  exact W.iret (v := 3) hx hb hr (fun t ht hW => ⟨⟨3, (), rfl, rfl, by rw [ht]; exact hP9, va_K.moved hW.alike hK, hD9⟩, hS.F ht⟩) hS.2.2 d_24_11_17
abbrev Q_String_checkIndex_9 (D : va_G) (ca : Nat → ClassId)  (A : Nat → Prop) : Array Value → State → Outcome → State → Prop := va_Qv (S := Unit) (fun (u : Unit) => True) (fun u => gB D ca A []) A
set_option maxHeartbeats 8000000 in
set_option maxRecDepth 100000 in
theorem c_String_checkIndex_9 (l : Launch) (D : va_G) (ca : Nat → ClassId) (ad av : Nat → Nat) (sz : Nat)   : Met l ({ cls := "java/lang/String", name := "checkIndex", desc := "(II)V" } : Jvm.MethodName) (Cond.code ({ cls := "java/lang/String", name := "checkIndex", desc := "(II)V" } : Jvm.MethodName) prog_21_method_155_code 2 (Option.none : Option Jvm.ClassFile.FieldType) :: wAll) ({ frames := 1, cells := 0, slots := 0, locals := 22 } : Room) (va_Pc [.int 3, .int 4] (gPre D ca ad av [] sz)) (Q_String_checkIndex_9 D ca  (va_A [] sz)) 0 0 (va_A [] sz) := by
  refine gMet (Qc := Q_String_checkIndex_9 D ca ) (lv := [(0, .int 3), (1, .int 4)]) (by decide) (Nat.le_of_ble_eq_true rfl) rfl (fun A p e s m below meth c ls hx hb hr hml hown hts hlk hnm hl hP hK hD hS hA hX => ?_)
  have hown : s.vm.findClass "java/lang/String" = some m.cls := hown
  have hnm : meth.name = "checkIndex" := hnm
  refine lv_iload_n hx hb d_21_155_0 rfl (lv_at hl 0 rfl) ?_
  refine lv_iload_n hx hb d_21_155_1 rfl (lv_at hl 1 rfl) ?_
  rcases hX.2.2.2.2.2 with hz1 | ⟨tz1, hz1⟩
  · refine va_gets hx hb hz1 hS hown (hts _ k_3_120) (fun _ h => h) d_21_155_2 ?_
    have hFc2 := va_free (wc := []) hD hS hA [] rfl
    refine va_calli (va_runS (As := [.int 3, .int 4, .null]) (rest := []) ⟨hx, hb, hml, hown, hts⟩ (c_Preconditions_checkIndex_18 l D ca ad av s.heap.size  ) (va_cwS 3 hts (gdS k_7_143 k_7_144 k_1_13 k_7_145) rfl rfl rfl (by decide +kernel) ⟨Nat.le_of_ble_eq_true rfl, Nat.le_of_ble_eq_true rfl⟩) (gPS hP hD hK hS hA hX [] (by decide) rfl [.int 3, .int 4, .null]) rfl rfl hl.1 rfl (lv_room (Nat.le_of_ble_eq_true rfl)) d_21_155_5 ⟨Nat.le_of_ble_eq_true rfl, Nat.le_of_ble_eq_true rfl⟩) hS (fun q _ h => hFc2 q h) hFc2 (fun r2 u2 t2 H2 locs2 ht2 hvm2 hw2 hB2 hz2 hk2 hS2 => ?_)
    have hr2 := hw2
    obtain ⟨hP2, hD2⟩ := gJoin (wr := []) (w1 := []) hP hD [] [] rfl rfl (by decide) (by decide) hk2 hFc2 ht2 hB2
    have hP2 : va_P D cls [] H2 := hP2
    have hD2 : va_D A [] := hD2
    refine W.widen (k := 0) (n := 0) (Nat.le_of_ble_eq_true rfl) (Nat.le_of_ble_eq_true rfl) ?_
    subst hr2
    refine lv_pop hx hb d_21_155_8 rfl ?_
    have hP9 := hP2.sub (ws' := []) [] rfl
    have hD9 := hD2.sub (ws' := []) [] (by decide) rfl
    refine W.widen (k := 0) (n := 0) (Nat.le_of_ble_eq_true rfl) (Nat.le_of_ble_eq_true rfl) ?_
    exact W.vret hx hb hr (fun t ht hW => ⟨⟨(), rfl, trivial, by rw [ht]; exact hP9, va_K.moved hW.alike hK, hD9⟩, hS2.F ht⟩) hS2.2.2 d_21_155_9
  · refine va_gets hx hb hz1 hS hown (hts _ k_3_120) (fun _ h => h) d_21_155_2 ?_
    have hFc3 := va_free (wc := []) hD hS hA [] rfl
    refine va_calli (va_runS (As := [.int 3, .int 4, .ref tz1]) (rest := []) ⟨hx, hb, hml, hown, hts⟩ (c_Preconditions_checkIndex_19 l D ca ad av s.heap.size tz1 ) (va_cwS 3 hts (gdS k_7_143 k_7_144 k_1_13 k_7_145) rfl rfl rfl (by decide +kernel) ⟨Nat.le_of_ble_eq_true rfl, Nat.le_of_ble_eq_true rfl⟩) (gPS hP hD hK hS hA hX [] (by decide) rfl [.int 3, .int 4, .ref tz1]) rfl rfl hl.1 rfl (lv_room (Nat.le_of_ble_eq_true rfl)) d_21_155_5 ⟨Nat.le_of_ble_eq_true rfl, Nat.le_of_ble_eq_true rfl⟩) hS (fun q _ h => hFc3 q h) hFc3 (fun r3 u3 t3 H3 locs3 ht3 hvm3 hw3 hB3 hz3 hk3 hS3 => ?_)
    have hr3 := hw3
    obtain ⟨hP3, hD3⟩ := gJoin (wr := []) (w1 := []) hP hD [] [] rfl rfl (by decide) (by decide) hk3 hFc3 ht3 hB3
    have hP3 : va_P D cls [] H3 := hP3
    have hD3 : va_D A [] := hD3
    refine W.widen (k := 0) (n := 0) (Nat.le_of_ble_eq_true rfl) (Nat.le_of_ble_eq_true rfl) ?_
    subst hr3
    refine lv_pop hx hb d_21_155_8 rfl ?_
    have hP9 := hP3.sub (ws' := []) [] rfl
    have hD9 := hD3.sub (ws' := []) [] (by decide) rfl
    refine W.widen (k := 0) (n := 0) (Nat.le_of_ble_eq_true rfl) (Nat.le_of_ble_eq_true rfl) ?_
    exact W.vret hx hb hr (fun t ht hW => ⟨⟨(), rfl, trivial, by rw [ht]; exact hP9, va_K.moved hW.alike hK, hD9⟩, hS3.F ht⟩) hS3.2.2 d_21_155_9
abbrev Q_StringLatin1_charAt_9 (D : va_G) (ca : Nat → ClassId)  (A : Nat → Prop) : Array Value → State → Outcome → State → Prop := va_Qi (S := Unit) (fun (r : Int32) (u : Unit) => r = 115) (fun u => gB D ca A []) A
set_option maxHeartbeats 8000000 in
set_option maxRecDepth 100000 in
theorem c_StringLatin1_charAt_9 (l : Launch) (D : va_G) (ca : Nat → ClassId) (ad av : Nat → Nat) (sz : Nat)   : Met l ({ cls := "java/lang/StringLatin1", name := "charAt", desc := "([BI)C" } : Jvm.MethodName) (Cond.code ({ cls := "java/lang/StringLatin1", name := "charAt", desc := "([BI)C" } : Jvm.MethodName) prog_22_method_2_code 2 (Option.some Jvm.ClassFile.FieldType.char) :: wAll) ({ frames := 2, cells := 0, slots := 0, locals := 43 } : Room) (va_Pc [.ref (av 2), .int 3] (gPre D ca ad av [] sz)) (Q_StringLatin1_charAt_9 D ca  (va_A [] sz)) 0 0 (va_A [] sz) := by
  refine gMet (Qc := Q_StringLatin1_charAt_9 D ca ) (lv := [(0, .ref (av 2)), (1, .int 3)]) (by decide) (Nat.le_of_ble_eq_true rfl) rfl (fun A p e s m below meth c ls hx hb hr hml hown hts hlk hnm hl hP hK hD hS hA hX => ?_)
  have hown : s.vm.findClass "java/lang/StringLatin1" = some m.cls := hown
  have hnm : meth.name = "charAt" := hnm
  refine lv_iload_n hx hb d_22_2_0 rfl (lv_at hl 1 rfl) ?_
  refine lv_aload_n hx hb d_22_2_1 rfl (lv_at hl 0 rfl) ?_
  refine va_tlen (v := 4) hx hb ((hX.2.2.2.2.1 2 _ rfl).2.1 0 (by decide)).2.2.2 hS (by decide) d_22_2_2 ?_
  have hFc1 := va_free (wc := []) hD hS hA [] rfl
  refine va_callv (va_runS (As := [.int 3, .int 4]) (rest := []) ⟨hx, hb, hml, hown, hts⟩ (c_String_checkIndex_9 l D ca ad av s.heap.size  ) (va_cwS 2 hts (gdS k_7_140 k_7_141 k_1_11 k_7_142) rfl rfl rfl (by decide +kernel) ⟨Nat.le_of_ble_eq_true rfl, Nat.le_of_ble_eq_true rfl⟩) (gPS hP hD hK hS hA hX [] (by decide) rfl [.int 3, .int 4]) rfl rfl hl.1 rfl (lv_room (Nat.le_of_ble_eq_true rfl)) d_22_2_3 ⟨Nat.le_of_ble_eq_true rfl, Nat.le_of_ble_eq_true rfl⟩) hS (fun q _ h => hFc1 q h) hFc1 (fun u1 t1 H1 locs1 ht1 hvm1 hw1 hB1 hz1 hk1 hS1 => ?_)
  obtain ⟨hP1, hD1⟩ := gJoin (wr := []) (w1 := []) hP hD [] [] rfl rfl (by decide) (by decide) hk1 hFc1 ht1 hB1
  have hP1 : va_P D cls [] H1 := hP1
  have hD1 : va_D A [] := hD1
  refine W.widen (k := 0) (n := 0) (Nat.le_of_ble_eq_true rfl) (Nat.le_of_ble_eq_true rfl) ?_
  refine lv_aload_n hx hb d_22_2_6 rfl (lv_at hl 0 rfl) ?_
  refine lv_iload_n hx hb d_22_2_7 rfl (lv_at hl 1 rfl) ?_
  refine va_tb (v := .int 115) hx hb ((hX.2.2.2.2.1 2 _ rfl).2.1 0 (by decide)).2.2.2 hS1 (vinC (by decide)) rfl d_22_2_8 ?_
  refine lv_sipush (v := 255) hx hb d_22_2_9 (by decide) ?_
  refine lv_iand hx hb d_22_2_12 ?_
  refine lv_topi (fun y2 ey2 => ?_)
  obtain rfl : y2 = 115 := ey2.trans (by decide)
  refine lv_i2c hx hb d_22_2_13 rfl ?_
  refine lv_topi (fun y3 ey3 => ?_)
  obtain rfl : y3 = 115 := ey3.trans (by decide)
  have hP9 := hP1.sub (ws' := []) [] rfl
  have hD9 := hD1.sub (ws' := []) [] (by decide) rfl
  refine W.widen (k := 0) (n := 0) (Nat.le_of_ble_eq_true rfl) (Nat.le_of_ble_eq_true rfl) ?_
  exact W.zret (v := 115) hx hb hr rfl (fun t ht hW => ⟨⟨115, (), rfl, rfl, by rw [ht]; exact hP9, va_K.moved hW.alike hK, hD9⟩, hS1.F ht⟩) hS1.2.2 d_22_2_14
abbrev Q_String_charAt_9 (D : va_G) (ca : Nat → ClassId)  (A : Nat → Prop) : Array Value → State → Outcome → State → Prop := va_Qi (S := Unit) (fun (r : Int32) (u : Unit) => r = 115) (fun u => gB D ca A []) A
set_option maxHeartbeats 8000000 in
set_option maxRecDepth 100000 in
theorem c_String_charAt_9 (l : Launch) (D : va_G) (ca : Nat → ClassId) (ad av : Nat → Nat) (sz : Nat)   : Met l ({ cls := "java/lang/String", name := "charAt", desc := "(I)C" } : Jvm.MethodName) (Cond.code ({ cls := "java/lang/String", name := "charAt", desc := "(I)C" } : Jvm.MethodName) prog_21_method_56_code 2 (Option.some Jvm.ClassFile.FieldType.char) :: wAll) ({ frames := 3, cells := 0, slots := 0, locals := 64 } : Room) (va_Pc [.ref (ad 2), .int 3] (gPre D ca ad av [] sz)) (Q_String_charAt_9 D ca  (va_A [] sz)) 0 0 (va_A [] sz) := by
  refine gMet (Qc := Q_String_charAt_9 D ca ) (lv := [(0, .ref (ad 2)), (1, .int 3)]) (by decide) (Nat.le_of_ble_eq_true rfl) rfl (fun A p e s m below meth c ls hx hb hr hml hown hts hlk hnm hl hP hK hD hS hA hX => ?_)
  have hown : s.vm.findClass "java/lang/String" = some m.cls := hown
  have hnm : meth.name = "charAt" := hnm
  refine lv_aload_n hx hb d_21_56_0 rfl (lv_at hl 0 rfl) ?_
  have hFc1 := va_free (wc := []) hD hS hA [] rfl
  refine va_calli (va_runV (As := []) (rest := []) ⟨hx, hb, hml, hown, hts⟩ (c_String_isLatin1_1 l D ca ad av s.heap.size  ) (cwV 0 hts (gdV k_3_75 k_3_76 k_3_77 k_1_11 k_3_78) rfl rfl rfl (by decide +kernel) ⟨Nat.le_of_ble_eq_true rfl, Nat.le_of_ble_eq_true rfl⟩) ⟨gBlind, vk_recv (i := 0) (hX.2.2.2.2.1 2 _ rfl).2 (by decide) hS, gAt hP hD hK hS hA hX [] (by decide) rfl [.ref (ad 2)]⟩ rfl rfl hl.1 rfl (lv_room (Nat.le_of_ble_eq_true rfl)) d_21_56_1 ⟨Nat.le_of_ble_eq_true rfl, Nat.le_of_ble_eq_true rfl⟩) hS (fun q _ h => hFc1 q h) hFc1 (fun r1 u1 t1 H1 locs1 ht1 hvm1 hw1 hB1 hz1 hk1 hS1 => ?_)
  have hr1 := hw1
  obtain ⟨hP1, hD1⟩ := gJoin (wr := []) (w1 := []) hP hD [] [] rfl rfl (by decide) (by decide) hk1 hFc1 ht1 hB1
  have hP1 : va_P D cls [] H1 := hP1
  have hD1 : va_D A [] := hD1
  refine W.widen (k := 0) (n := 0) (Nat.le_of_ble_eq_true rfl) (Nat.le_of_ble_eq_true rfl) ?_
  subst hr1
  refine lv_if_eq (tgt := 16) hx hb d_21_56_4 (by decide) (fun c => absurd c (by decide)) (fun _ => ?_)
  refine lv_aload_n hx hb d_21_56_7 rfl (lv_at hl 0 rfl) ?_
  refine vk_getf hx hb ((hX.2.2.2.2.1 2 _ rfl).2.1 0 (by decide)).2.2.1 hS1 hown (hts _ k_15_170) (fun _ h => h) d_21_56_8 ?_
  refine W.eq (g2 := F0 m 11 ls [.ref (av 2)]) rfl ?_
  refine lv_iload_n hx hb d_21_56_11 rfl (lv_at hl 1 rfl) ?_
  have hFc2 := va_free (wc := []) hD1 hS1 hA [] rfl
  refine va_calli (va_runS (As := [.ref (av 2), .int 3]) (rest := []) ⟨hx, hb, hml, hown, hts⟩ (c_StringLatin1_charAt_9 l D ca ad av H1.size  ) (va_cwS 2 hts (gdS k_7_137 k_7_138 k_1_12 k_7_139) rfl rfl rfl (by decide +kernel) ⟨Nat.le_of_ble_eq_true rfl, Nat.le_of_ble_eq_true rfl⟩) (gPS hP1 hD1 hK hS1 hA hX [] (by decide) rfl [.ref (av 2), .int 3]) rfl rfl hl.1 rfl (lv_room (Nat.le_of_ble_eq_true rfl)) d_21_56_12 ⟨Nat.le_of_ble_eq_true rfl, Nat.le_of_ble_eq_true rfl⟩) hS1 (fun q _ h => hFc2 q h) hFc2 (fun r2 u2 t2 H2 locs2 ht2 hvm2 hw2 hB2 hz2 hk2 hS2 => ?_)
  have hr2 := hw2
  obtain ⟨hP2, hD2⟩ := gJoin (wr := []) (w1 := []) hP1 hD1 [] [] rfl rfl (by decide) (by decide) hk2 hFc2 ht2 hB2
  have hP2 : va_P D cls [] H2 := hP2
  have hD2 : va_D A [] := hD2
  refine W.widen (k := 0) (n := 0) (Nat.le_of_ble_eq_true rfl) (Nat.le_of_ble_eq_true rfl) ?_
  subst hr2
  have hP9 := hP2.sub (ws' := []) [] rfl
  have hD9 := hD2.sub (ws' := []) [] (by decide) rfl
  refine W.widen (k := 0) (n := 0) (Nat.le_of_ble_eq_true rfl) (Nat.le_of_ble_eq_true rfl) ?_
  exact W.zret (v := 115) hx hb hr rfl (fun t ht hW => ⟨⟨115, (), rfl, rfl, by rw [ht]; exact hP9, va_K.moved hW.alike hK, hD9⟩, hS2.F ht⟩) hS2.2.2 d_21_56_15
abbrev Q_M_code_1 (D : va_G) (ca : Nat → ClassId)  (A : Nat → Prop) : Array Value → State → Outcome → State → Prop := va_Ql (S := Unit) (fun (r : Int64) (u : Unit) => r = 1650553715) (fun u => gB D ca A []) A
set_option maxHeartbeats 8000000 in
set_option maxRecDepth 100000 in
theorem c_M_code_1 (l : Launch) (D : va_G) (ca : Nat → ClassId) (ad av : Nat → Nat) (sz : Nat)   : Met l ({ cls := "StaveHouseModel", name := "code", desc := "(Ljava/lang/String;)J" } : Jvm.MethodName) (Cond.code ({ cls := "StaveHouseModel", name := "code", desc := "(Ljava/lang/String;)J" } : Jvm.MethodName) prog_15_method_24_code 4 (Option.some Jvm.ClassFile.FieldType.long) :: wAll) ({ frames := 4, cells := 0, slots := 0, locals := 85 } : Room) (va_Pc [.ref (ad 2)] (gPre D ca ad av [] sz)) (Q_M_code_1 D ca  (va_A [] sz)) 0 0 (va_A [] sz) := by
  refine gMet (Qc := Q_M_code_1 D ca ) (lv := [(0, .ref (ad 2))]) (by decide) (Nat.le_of_ble_eq_true rfl) rfl (fun A p e s m below meth c ls hx hb hr hml hown hts hlk hnm hl hP hK hD hS hA hX => ?_)
  have hown : s.vm.findClass "StaveHouseModel" = some m.cls := hown
  have hnm : meth.name = "code" := hnm
  refine lv_lconst (v := 0) hx hb d_15_24_0 (by decide) ?_
  refine lv_lstore_n (lv' := [(1, .long 0), (0, .ref (ad 2))]) hx hb d_15_24_1 rfl hl (by decide) rfl (fun ls hl => ?_)
  refine lv_iconst (v := 0) hx hb d_15_24_2 (by decide) ?_
  refine lv_istore_n (lv' := [(3, .int 0), (1, .long 0), (0, .ref (ad 2))]) hx hb d_15_24_3 rfl hl (by decide) rfl (fun ls hl => ?_)
  refine lv_iload_n hx hb d_15_24_4 rfl (lv_at hl 0 rfl) ?_
  refine lv_aload_n hx hb d_15_24_5 rfl (lv_at hl 2 rfl) ?_
  have hFc1 := va_free (wc := []) hD hS hA [] rfl
  refine va_calli (va_runV (As := []) (rest := [.int 0]) ⟨hx, hb, hml, hown, hts⟩ (c_String_length_1 l D ca ad av s.heap.size  ) (cwV 0 hts (gdV k_10_194 k_3_82 k_3_83 k_1_11 k_3_84) rfl rfl rfl (by decide +kernel) ⟨Nat.le_of_ble_eq_true rfl, Nat.le_of_ble_eq_true rfl⟩) ⟨gBlind, vk_recv (i := 0) (hX.2.2.2.2.1 2 _ rfl).2 (by decide) hS, gAt hP hD hK hS hA hX [] (by decide) rfl [.ref (ad 2)]⟩ rfl rfl hl.1 rfl (lv_room (Nat.le_of_ble_eq_true rfl)) d_15_24_6 ⟨Nat.le_of_ble_eq_true rfl, Nat.le_of_ble_eq_true rfl⟩) hS (fun q _ h => hFc1 q h) hFc1 (fun r1 u1 t1 H1 locs1 ht1 hvm1 hw1 hB1 hz1 hk1 hS1 => ?_)
  have hr1 := hw1
  obtain ⟨hP1, hD1⟩ := gJoin (wr := []) (w1 := []) hP hD [] [] rfl rfl (by decide) (by decide) hk1 hFc1 ht1 hB1
  have hP1 : va_P D cls [] H1 := hP1
  have hD1 : va_D A [] := hD1
  refine W.widen (k := 0) (n := 0) (Nat.le_of_ble_eq_true rfl) (Nat.le_of_ble_eq_true rfl) ?_
  subst hr1
  refine lv_icmp_ge (tgt := 30) hx hb d_15_24_9 (by decide) (fun c => absurd c (by decide)) (fun _ => ?_)
  refine lv_lload_n hx hb d_15_24_12 rfl (lv_at hl 1 rfl) ?_
  refine lv_bipush (v := 8) hx hb d_15_24_13 (by decide) ?_
  refine lv_lshl hx hb d_15_24_15 rfl ?_
  refine lv_topl (fun y2 ey2 => ?_)
  obtain rfl : y2 = 0 := ey2.trans (by decide)
  refine lv_aload_n hx hb d_15_24_16 rfl (lv_at hl 2 rfl) ?_
  refine lv_iload_n hx hb d_15_24_17 rfl (lv_at hl 0 rfl) ?_
  have hFc3 := va_free (wc := []) hD1 hS1 hA [] rfl
  refine va_calli (va_runV (As := [.int 0]) (rest := [.long 0]) ⟨hx, hb, hml, hown, hts⟩ (c_String_charAt_6 l D ca ad av H1.size  ) (cwV 1 hts (gdV k_10_195 k_7_134 k_7_135 k_1_11 k_7_136) rfl rfl rfl (by decide +kernel) ⟨Nat.le_of_ble_eq_true rfl, Nat.le_of_ble_eq_true rfl⟩) ⟨gBlind, vk_recv (i := 0) (hX.2.2.2.2.1 2 _ rfl).2 (by decide) hS1, gAt hP1 hD1 hK hS1 hA hX [] (by decide) rfl [.ref (ad 2), .int 0]⟩ rfl rfl hl.1 rfl (lv_room (Nat.le_of_ble_eq_true rfl)) d_15_24_18 ⟨Nat.le_of_ble_eq_true rfl, Nat.le_of_ble_eq_true rfl⟩) hS1 (fun q _ h => hFc3 q h) hFc3 (fun r3 u3 t3 H3 locs3 ht3 hvm3 hw3 hB3 hz3 hk3 hS3 => ?_)
  have hr3 := hw3
  obtain ⟨hP3, hD3⟩ := gJoin (wr := []) (w1 := []) hP1 hD1 [] [] rfl rfl (by decide) (by decide) hk3 hFc3 ht3 hB3
  have hP3 : va_P D cls [] H3 := hP3
  have hD3 : va_D A [] := hD3
  refine W.widen (k := 0) (n := 0) (Nat.le_of_ble_eq_true rfl) (Nat.le_of_ble_eq_true rfl) ?_
  subst hr3
  refine lv_i2l hx hb d_15_24_21 rfl ?_
  refine lv_topl (fun y4 ey4 => ?_)
  obtain rfl : y4 = 98 := ey4.trans (by decide)
  refine lv_lor hx hb d_15_24_22 ?_
  refine lv_topl (fun y5 ey5 => ?_)
  obtain rfl : y5 = 98 := ey5.trans (by decide)
  refine lv_lstore_n (lv' := [(1, .long 98), (3, .int 0), (0, .ref (ad 2))]) hx hb d_15_24_23 rfl hl (by decide) rfl (fun ls hl => ?_)
  refine lv_iinc (v := 1) (lv' := [(3, .int 1), (1, .long 98), (0, .ref (ad 2))]) hx hb d_15_24_24 hl (k := 1) rfl (by decide) (by decide) rfl (fun ls hl => ?_)
  refine lv_goto (tgt := 4) hx hb d_15_24_27 (by decide) ?_
  refine lv_iload_n hx hb d_15_24_4 rfl (lv_at hl 0 rfl) ?_
  refine lv_aload_n hx hb d_15_24_5 rfl (lv_at hl 2 rfl) ?_
  have hFc6 := va_free (wc := []) hD3 hS3 hA [] rfl
  refine va_calli (va_runV (As := []) (rest := [.int 1]) ⟨hx, hb, hml, hown, hts⟩ (c_String_length_1 l D ca ad av H3.size  ) (cwV 0 hts (gdV k_10_194 k_3_82 k_3_83 k_1_11 k_3_84) rfl rfl rfl (by decide +kernel) ⟨Nat.le_of_ble_eq_true rfl, Nat.le_of_ble_eq_true rfl⟩) ⟨gBlind, vk_recv (i := 0) (hX.2.2.2.2.1 2 _ rfl).2 (by decide) hS3, gAt hP3 hD3 hK hS3 hA hX [] (by decide) rfl [.ref (ad 2)]⟩ rfl rfl hl.1 rfl (lv_room (Nat.le_of_ble_eq_true rfl)) d_15_24_6 ⟨Nat.le_of_ble_eq_true rfl, Nat.le_of_ble_eq_true rfl⟩) hS3 (fun q _ h => hFc6 q h) hFc6 (fun r6 u6 t6 H6 locs6 ht6 hvm6 hw6 hB6 hz6 hk6 hS6 => ?_)
  have hr6 := hw6
  obtain ⟨hP6, hD6⟩ := gJoin (wr := []) (w1 := []) hP3 hD3 [] [] rfl rfl (by decide) (by decide) hk6 hFc6 ht6 hB6
  have hP6 : va_P D cls [] H6 := hP6
  have hD6 : va_D A [] := hD6
  refine W.widen (k := 0) (n := 0) (Nat.le_of_ble_eq_true rfl) (Nat.le_of_ble_eq_true rfl) ?_
  subst hr6
  refine lv_icmp_ge (tgt := 30) hx hb d_15_24_9 (by decide) (fun c => absurd c (by decide)) (fun _ => ?_)
  refine lv_lload_n hx hb d_15_24_12 rfl (lv_at hl 1 rfl) ?_
  refine lv_bipush (v := 8) hx hb d_15_24_13 (by decide) ?_
  refine lv_lshl hx hb d_15_24_15 rfl ?_
  refine lv_topl (fun y7 ey7 => ?_)
  obtain rfl : y7 = 25088 := ey7.trans (by decide)
  refine lv_aload_n hx hb d_15_24_16 rfl (lv_at hl 2 rfl) ?_
  refine lv_iload_n hx hb d_15_24_17 rfl (lv_at hl 0 rfl) ?_
  have hFc8 := va_free (wc := []) hD6 hS6 hA [] rfl
  refine va_calli (va_runV (As := [.int 1]) (rest := [.long 25088]) ⟨hx, hb, hml, hown, hts⟩ (c_String_charAt_7 l D ca ad av H6.size  ) (cwV 1 hts (gdV k_10_195 k_7_134 k_7_135 k_1_11 k_7_136) rfl rfl rfl (by decide +kernel) ⟨Nat.le_of_ble_eq_true rfl, Nat.le_of_ble_eq_true rfl⟩) ⟨gBlind, vk_recv (i := 0) (hX.2.2.2.2.1 2 _ rfl).2 (by decide) hS6, gAt hP6 hD6 hK hS6 hA hX [] (by decide) rfl [.ref (ad 2), .int 1]⟩ rfl rfl hl.1 rfl (lv_room (Nat.le_of_ble_eq_true rfl)) d_15_24_18 ⟨Nat.le_of_ble_eq_true rfl, Nat.le_of_ble_eq_true rfl⟩) hS6 (fun q _ h => hFc8 q h) hFc8 (fun r8 u8 t8 H8 locs8 ht8 hvm8 hw8 hB8 hz8 hk8 hS8 => ?_)
  have hr8 := hw8
  obtain ⟨hP8, hD8⟩ := gJoin (wr := []) (w1 := []) hP6 hD6 [] [] rfl rfl (by decide) (by decide) hk8 hFc8 ht8 hB8
  have hP8 : va_P D cls [] H8 := hP8
  have hD8 : va_D A [] := hD8
  refine W.widen (k := 0) (n := 0) (Nat.le_of_ble_eq_true rfl) (Nat.le_of_ble_eq_true rfl) ?_
  subst hr8
  refine lv_i2l hx hb d_15_24_21 rfl ?_
  refine lv_topl (fun y9 ey9 => ?_)
  obtain rfl : y9 = 97 := ey9.trans (by decide)
  refine lv_lor hx hb d_15_24_22 ?_
  refine lv_topl (fun y10 ey10 => ?_)
  obtain rfl : y10 = 25185 := ey10.trans (by decide)
  refine lv_lstore_n (lv' := [(1, .long 25185), (3, .int 1), (0, .ref (ad 2))]) hx hb d_15_24_23 rfl hl (by decide) rfl (fun ls hl => ?_)
  refine lv_iinc (v := 2) (lv' := [(3, .int 2), (1, .long 25185), (0, .ref (ad 2))]) hx hb d_15_24_24 hl (k := 1) rfl (by decide) (by decide) rfl (fun ls hl => ?_)
  refine lv_goto (tgt := 4) hx hb d_15_24_27 (by decide) ?_
  refine lv_iload_n hx hb d_15_24_4 rfl (lv_at hl 0 rfl) ?_
  refine lv_aload_n hx hb d_15_24_5 rfl (lv_at hl 2 rfl) ?_
  have hFc11 := va_free (wc := []) hD8 hS8 hA [] rfl
  refine va_calli (va_runV (As := []) (rest := [.int 2]) ⟨hx, hb, hml, hown, hts⟩ (c_String_length_1 l D ca ad av H8.size  ) (cwV 0 hts (gdV k_10_194 k_3_82 k_3_83 k_1_11 k_3_84) rfl rfl rfl (by decide +kernel) ⟨Nat.le_of_ble_eq_true rfl, Nat.le_of_ble_eq_true rfl⟩) ⟨gBlind, vk_recv (i := 0) (hX.2.2.2.2.1 2 _ rfl).2 (by decide) hS8, gAt hP8 hD8 hK hS8 hA hX [] (by decide) rfl [.ref (ad 2)]⟩ rfl rfl hl.1 rfl (lv_room (Nat.le_of_ble_eq_true rfl)) d_15_24_6 ⟨Nat.le_of_ble_eq_true rfl, Nat.le_of_ble_eq_true rfl⟩) hS8 (fun q _ h => hFc11 q h) hFc11 (fun r11 u11 t11 H11 locs11 ht11 hvm11 hw11 hB11 hz11 hk11 hS11 => ?_)
  have hr11 := hw11
  obtain ⟨hP11, hD11⟩ := gJoin (wr := []) (w1 := []) hP8 hD8 [] [] rfl rfl (by decide) (by decide) hk11 hFc11 ht11 hB11
  have hP11 : va_P D cls [] H11 := hP11
  have hD11 : va_D A [] := hD11
  refine W.widen (k := 0) (n := 0) (Nat.le_of_ble_eq_true rfl) (Nat.le_of_ble_eq_true rfl) ?_
  subst hr11
  refine lv_icmp_ge (tgt := 30) hx hb d_15_24_9 (by decide) (fun c => absurd c (by decide)) (fun _ => ?_)
  refine lv_lload_n hx hb d_15_24_12 rfl (lv_at hl 1 rfl) ?_
  refine lv_bipush (v := 8) hx hb d_15_24_13 (by decide) ?_
  refine lv_lshl hx hb d_15_24_15 rfl ?_
  refine lv_topl (fun y12 ey12 => ?_)
  obtain rfl : y12 = 6447360 := ey12.trans (by decide)
  refine lv_aload_n hx hb d_15_24_16 rfl (lv_at hl 2 rfl) ?_
  refine lv_iload_n hx hb d_15_24_17 rfl (lv_at hl 0 rfl) ?_
  have hFc13 := va_free (wc := []) hD11 hS11 hA [] rfl
  refine va_calli (va_runV (As := [.int 2]) (rest := [.long 6447360]) ⟨hx, hb, hml, hown, hts⟩ (c_String_charAt_8 l D ca ad av H11.size  ) (cwV 1 hts (gdV k_10_195 k_7_134 k_7_135 k_1_11 k_7_136) rfl rfl rfl (by decide +kernel) ⟨Nat.le_of_ble_eq_true rfl, Nat.le_of_ble_eq_true rfl⟩) ⟨gBlind, vk_recv (i := 0) (hX.2.2.2.2.1 2 _ rfl).2 (by decide) hS11, gAt hP11 hD11 hK hS11 hA hX [] (by decide) rfl [.ref (ad 2), .int 2]⟩ rfl rfl hl.1 rfl (lv_room (Nat.le_of_ble_eq_true rfl)) d_15_24_18 ⟨Nat.le_of_ble_eq_true rfl, Nat.le_of_ble_eq_true rfl⟩) hS11 (fun q _ h => hFc13 q h) hFc13 (fun r13 u13 t13 H13 locs13 ht13 hvm13 hw13 hB13 hz13 hk13 hS13 => ?_)
  have hr13 := hw13
  obtain ⟨hP13, hD13⟩ := gJoin (wr := []) (w1 := []) hP11 hD11 [] [] rfl rfl (by decide) (by decide) hk13 hFc13 ht13 hB13
  have hP13 : va_P D cls [] H13 := hP13
  have hD13 : va_D A [] := hD13
  refine W.widen (k := 0) (n := 0) (Nat.le_of_ble_eq_true rfl) (Nat.le_of_ble_eq_true rfl) ?_
  subst hr13
  refine lv_i2l hx hb d_15_24_21 rfl ?_
  refine lv_topl (fun y14 ey14 => ?_)
  obtain rfl : y14 = 115 := ey14.trans (by decide)
  refine lv_lor hx hb d_15_24_22 ?_
  refine lv_topl (fun y15 ey15 => ?_)
  obtain rfl : y15 = 6447475 := ey15.trans (by decide)
  refine lv_lstore_n (lv' := [(1, .long 6447475), (3, .int 2), (0, .ref (ad 2))]) hx hb d_15_24_23 rfl hl (by decide) rfl (fun ls hl => ?_)
  refine lv_iinc (v := 3) (lv' := [(3, .int 3), (1, .long 6447475), (0, .ref (ad 2))]) hx hb d_15_24_24 hl (k := 1) rfl (by decide) (by decide) rfl (fun ls hl => ?_)
  refine lv_goto (tgt := 4) hx hb d_15_24_27 (by decide) ?_
  refine lv_iload_n hx hb d_15_24_4 rfl (lv_at hl 0 rfl) ?_
  refine lv_aload_n hx hb d_15_24_5 rfl (lv_at hl 2 rfl) ?_
  have hFc16 := va_free (wc := []) hD13 hS13 hA [] rfl
  refine va_calli (va_runV (As := []) (rest := [.int 3]) ⟨hx, hb, hml, hown, hts⟩ (c_String_length_1 l D ca ad av H13.size  ) (cwV 0 hts (gdV k_10_194 k_3_82 k_3_83 k_1_11 k_3_84) rfl rfl rfl (by decide +kernel) ⟨Nat.le_of_ble_eq_true rfl, Nat.le_of_ble_eq_true rfl⟩) ⟨gBlind, vk_recv (i := 0) (hX.2.2.2.2.1 2 _ rfl).2 (by decide) hS13, gAt hP13 hD13 hK hS13 hA hX [] (by decide) rfl [.ref (ad 2)]⟩ rfl rfl hl.1 rfl (lv_room (Nat.le_of_ble_eq_true rfl)) d_15_24_6 ⟨Nat.le_of_ble_eq_true rfl, Nat.le_of_ble_eq_true rfl⟩) hS13 (fun q _ h => hFc16 q h) hFc16 (fun r16 u16 t16 H16 locs16 ht16 hvm16 hw16 hB16 hz16 hk16 hS16 => ?_)
  have hr16 := hw16
  obtain ⟨hP16, hD16⟩ := gJoin (wr := []) (w1 := []) hP13 hD13 [] [] rfl rfl (by decide) (by decide) hk16 hFc16 ht16 hB16
  have hP16 : va_P D cls [] H16 := hP16
  have hD16 : va_D A [] := hD16
  refine W.widen (k := 0) (n := 0) (Nat.le_of_ble_eq_true rfl) (Nat.le_of_ble_eq_true rfl) ?_
  subst hr16
  refine lv_icmp_ge (tgt := 30) hx hb d_15_24_9 (by decide) (fun c => absurd c (by decide)) (fun _ => ?_)
  refine lv_lload_n hx hb d_15_24_12 rfl (lv_at hl 1 rfl) ?_
  refine lv_bipush (v := 8) hx hb d_15_24_13 (by decide) ?_
  refine lv_lshl hx hb d_15_24_15 rfl ?_
  refine lv_topl (fun y17 ey17 => ?_)
  obtain rfl : y17 = 1650553600 := ey17.trans (by decide)
  refine lv_aload_n hx hb d_15_24_16 rfl (lv_at hl 2 rfl) ?_
  refine lv_iload_n hx hb d_15_24_17 rfl (lv_at hl 0 rfl) ?_
  have hFc18 := va_free (wc := []) hD16 hS16 hA [] rfl
  refine va_calli (va_runV (As := [.int 3]) (rest := [.long 1650553600]) ⟨hx, hb, hml, hown, hts⟩ (c_String_charAt_9 l D ca ad av H16.size  ) (cwV 1 hts (gdV k_10_195 k_7_134 k_7_135 k_1_11 k_7_136) rfl rfl rfl (by decide +kernel) ⟨Nat.le_of_ble_eq_true rfl, Nat.le_of_ble_eq_true rfl⟩) ⟨gBlind, vk_recv (i := 0) (hX.2.2.2.2.1 2 _ rfl).2 (by decide) hS16, gAt hP16 hD16 hK hS16 hA hX [] (by decide) rfl [.ref (ad 2), .int 3]⟩ rfl rfl hl.1 rfl (lv_room (Nat.le_of_ble_eq_true rfl)) d_15_24_18 ⟨Nat.le_of_ble_eq_true rfl, Nat.le_of_ble_eq_true rfl⟩) hS16 (fun q _ h => hFc18 q h) hFc18 (fun r18 u18 t18 H18 locs18 ht18 hvm18 hw18 hB18 hz18 hk18 hS18 => ?_)
  have hr18 := hw18
  obtain ⟨hP18, hD18⟩ := gJoin (wr := []) (w1 := []) hP16 hD16 [] [] rfl rfl (by decide) (by decide) hk18 hFc18 ht18 hB18
  have hP18 : va_P D cls [] H18 := hP18
  have hD18 : va_D A [] := hD18
  refine W.widen (k := 0) (n := 0) (Nat.le_of_ble_eq_true rfl) (Nat.le_of_ble_eq_true rfl) ?_
  subst hr18
  refine lv_i2l hx hb d_15_24_21 rfl ?_
  refine lv_topl (fun y19 ey19 => ?_)
  obtain rfl : y19 = 115 := ey19.trans (by decide)
  refine lv_lor hx hb d_15_24_22 ?_
  refine lv_topl (fun y20 ey20 => ?_)
  obtain rfl : y20 = 1650553715 := ey20.trans (by decide)
  refine lv_lstore_n (lv' := [(1, .long 1650553715), (3, .int 3), (0, .ref (ad 2))]) hx hb d_15_24_23 rfl hl (by decide) rfl (fun ls hl => ?_)
  refine lv_iinc (v := 4) (lv' := [(3, .int 4), (1, .long 1650553715), (0, .ref (ad 2))]) hx hb d_15_24_24 hl (k := 1) rfl (by decide) (by decide) rfl (fun ls hl => ?_)
  refine lv_goto (tgt := 4) hx hb d_15_24_27 (by decide) ?_
  refine lv_iload_n hx hb d_15_24_4 rfl (lv_at hl 0 rfl) ?_
  refine lv_aload_n hx hb d_15_24_5 rfl (lv_at hl 2 rfl) ?_
  have hFc21 := va_free (wc := []) hD18 hS18 hA [] rfl
  refine va_calli (va_runV (As := []) (rest := [.int 4]) ⟨hx, hb, hml, hown, hts⟩ (c_String_length_1 l D ca ad av H18.size  ) (cwV 0 hts (gdV k_10_194 k_3_82 k_3_83 k_1_11 k_3_84) rfl rfl rfl (by decide +kernel) ⟨Nat.le_of_ble_eq_true rfl, Nat.le_of_ble_eq_true rfl⟩) ⟨gBlind, vk_recv (i := 0) (hX.2.2.2.2.1 2 _ rfl).2 (by decide) hS18, gAt hP18 hD18 hK hS18 hA hX [] (by decide) rfl [.ref (ad 2)]⟩ rfl rfl hl.1 rfl (lv_room (Nat.le_of_ble_eq_true rfl)) d_15_24_6 ⟨Nat.le_of_ble_eq_true rfl, Nat.le_of_ble_eq_true rfl⟩) hS18 (fun q _ h => hFc21 q h) hFc21 (fun r21 u21 t21 H21 locs21 ht21 hvm21 hw21 hB21 hz21 hk21 hS21 => ?_)
  have hr21 := hw21
  obtain ⟨hP21, hD21⟩ := gJoin (wr := []) (w1 := []) hP18 hD18 [] [] rfl rfl (by decide) (by decide) hk21 hFc21 ht21 hB21
  have hP21 : va_P D cls [] H21 := hP21
  have hD21 : va_D A [] := hD21
  refine W.widen (k := 0) (n := 0) (Nat.le_of_ble_eq_true rfl) (Nat.le_of_ble_eq_true rfl) ?_
  subst hr21
  refine lv_icmp_ge (tgt := 30) hx hb d_15_24_9 (by decide) (fun _ => ?_) (fun c => absurd (by decide) c)
  refine lv_lload_n hx hb d_15_24_30 rfl (lv_at hl 1 rfl) ?_
  have hP9 := hP21.sub (ws' := []) [] rfl
  have hD9 := hD21.sub (ws' := []) [] (by decide) rfl
  refine W.widen (k := 0) (n := 0) (Nat.le_of_ble_eq_true rfl) (Nat.le_of_ble_eq_true rfl) ?_
  exact W.lret (v := 1650553715) hx hb hr (fun t ht hW => ⟨⟨1650553715, (), rfl, rfl, by rw [ht]; exact hP9, va_K.moved hW.alike hK, hD9⟩, hS21.F ht⟩) hS21.2.2 d_15_24_31
abbrev Q_String_coder_2 (D : va_G) (ca : Nat → ClassId)  (A : Nat → Prop) : Array Value → State → Outcome → State → Prop := va_Qi (S := Unit) (fun (r : Int32) (u : Unit) => r = 0) (fun u => gB D ca A []) A
set_option maxHeartbeats 8000000 in
set_option maxRecDepth 100000 in
theorem c_String_coder_2 (l : Launch) (D : va_G) (ca : Nat → ClassId) (ad av : Nat → Nat) (sz : Nat)   : Met l ({ cls := "java/lang/String", name := "coder", desc := "()B" } : Jvm.MethodName) (Cond.code ({ cls := "java/lang/String", name := "coder", desc := "()B" } : Jvm.MethodName) prog_21_method_152_code 1 (Option.some Jvm.ClassFile.FieldType.byte) :: wAll) ({ frames := 0, cells := 0, slots := 0, locals := 0 } : Room) (va_Pc [.ref (ad 3)] (gPre D ca ad av [] sz)) (Q_String_coder_2 D ca  (va_A [] sz)) 0 0 (va_A [] sz) := by
  refine gMet (Qc := Q_String_coder_2 D ca ) (lv := [(0, .ref (ad 3))]) (by decide) (Nat.le_of_ble_eq_true rfl) rfl (fun A p e s m below meth c ls hx hb hr hml hown hts hlk hnm hl hP hK hD hS hA hX => ?_)
  have hown : s.vm.findClass "java/lang/String" = some m.cls := hown
  have hnm : meth.name = "coder" := hnm
  refine va_gets hx hb (hX.2.2.2.1 _ (List.mem_of_getElem? (i := 0) rfl)) hS hown (hts _ k_3_79) (fun _ h => h) d_21_152_0 ?_
  refine lv_if_eq (tgt := 13) hx hb d_21_152_3 (by decide) (fun c => absurd c (by decide)) (fun _ => ?_)
  refine lv_aload_n hx hb d_21_152_6 rfl (lv_at hl 0 rfl) ?_
  refine vk_getf hx hb ((hX.2.2.2.2.1 3 _ rfl).2.1 0 (by decide)).2.1 hS hown (hts _ k_15_171) (fun _ h => h) d_21_152_7 ?_
  refine W.eq (g2 := F0 m 10 ls [.int 0]) rfl ?_
  refine lv_goto (tgt := 14) hx hb d_21_152_10 (by decide) ?_
  have hP9 := hP.sub (ws' := []) [] rfl
  have hD9 := hD.sub (ws' := []) [] (by decide) rfl
  refine W.widen (k := 0) (n := 0) (Nat.le_of_ble_eq_true rfl) (Nat.le_of_ble_eq_true rfl) ?_
  exact W.zret (v := 0) hx hb hr rfl (fun t ht hW => ⟨⟨0, (), rfl, rfl, by rw [ht]; exact hP9, va_K.moved hW.alike hK, hD9⟩, hS.F ht⟩) hS.2.2 d_21_152_14
abbrev Q_String_length_2 (D : va_G) (ca : Nat → ClassId)  (A : Nat → Prop) : Array Value → State → Outcome → State → Prop := va_Qi (S := Unit) (fun (r : Int32) (u : Unit) => r = 4) (fun u => gB D ca A []) A
set_option maxHeartbeats 8000000 in
set_option maxRecDepth 100000 in
theorem c_String_length_2 (l : Launch) (D : va_G) (ca : Nat → ClassId) (ad av : Nat → Nat) (sz : Nat)   : Met l ({ cls := "java/lang/String", name := "length", desc := "()I" } : Jvm.MethodName) (Cond.code ({ cls := "java/lang/String", name := "length", desc := "()I" } : Jvm.MethodName) prog_21_method_54_code 1 (Option.some Jvm.ClassFile.FieldType.int) :: wAll) ({ frames := 1, cells := 0, slots := 0, locals := 20 } : Room) (va_Pc [.ref (ad 3)] (gPre D ca ad av [] sz)) (Q_String_length_2 D ca  (va_A [] sz)) 0 0 (va_A [] sz) := by
  refine gMet (Qc := Q_String_length_2 D ca ) (lv := [(0, .ref (ad 3))]) (by decide) (Nat.le_of_ble_eq_true rfl) rfl (fun A p e s m below meth c ls hx hb hr hml hown hts hlk hnm hl hP hK hD hS hA hX => ?_)
  have hown : s.vm.findClass "java/lang/String" = some m.cls := hown
  have hnm : meth.name = "length" := hnm
  refine lv_aload_n hx hb d_21_54_0 rfl (lv_at hl 0 rfl) ?_
  refine vk_getf hx hb ((hX.2.2.2.2.1 3 _ rfl).2.1 0 (by decide)).2.2.1 hS hown (hts _ k_15_170) (fun _ h => h) d_21_54_1 ?_
  refine W.eq (g2 := F0 m 4 ls [.ref (av 3)]) rfl ?_
  refine va_tlen (v := 4) hx hb ((hX.2.2.2.2.1 3 _ rfl).2.1 0 (by decide)).2.2.2 hS (by decide) d_21_54_4 ?_
  refine lv_aload_n hx hb d_21_54_5 rfl (lv_at hl 0 rfl) ?_
  have hFc1 := va_free (wc := []) hD hS hA [] rfl
  refine va_calli (va_runV (As := []) (rest := [.int 4]) ⟨hx, hb, hml, hown, hts⟩ (c_String_coder_2 l D ca ad av s.heap.size  ) (cwV 0 hts (gdV k_3_85 k_3_86 k_3_87 k_1_11 k_3_88) rfl rfl rfl (by decide +kernel) ⟨Nat.le_of_ble_eq_true rfl, Nat.le_of_ble_eq_true rfl⟩) ⟨gBlind, vk_recv (i := 0) (hX.2.2.2.2.1 3 _ rfl).2 (by decide) hS, gAt hP hD hK hS hA hX [] (by decide) rfl [.ref (ad 3)]⟩ rfl rfl hl.1 rfl (lv_room (Nat.le_of_ble_eq_true rfl)) d_21_54_6 ⟨Nat.le_of_ble_eq_true rfl, Nat.le_of_ble_eq_true rfl⟩) hS (fun q _ h => hFc1 q h) hFc1 (fun r1 u1 t1 H1 locs1 ht1 hvm1 hw1 hB1 hz1 hk1 hS1 => ?_)
  have hr1 := hw1
  obtain ⟨hP1, hD1⟩ := gJoin (wr := []) (w1 := []) hP hD [] [] rfl rfl (by decide) (by decide) hk1 hFc1 ht1 hB1
  have hP1 : va_P D cls [] H1 := hP1
  have hD1 : va_D A [] := hD1
  refine W.widen (k := 0) (n := 0) (Nat.le_of_ble_eq_true rfl) (Nat.le_of_ble_eq_true rfl) ?_
  subst hr1
  refine lv_ishr hx hb d_21_54_9 ?_
  refine lv_topi (fun y2 ey2 => ?_)
  obtain rfl : y2 = 4 := ey2.trans (by decide)
  have hP9 := hP1.sub (ws' := []) [] rfl
  have hD9 := hD1.sub (ws' := []) [] (by decide) rfl
  refine W.widen (k := 0) (n := 0) (Nat.le_of_ble_eq_true rfl) (Nat.le_of_ble_eq_true rfl) ?_
  exact W.iret (v := 4) hx hb hr (fun t ht hW => ⟨⟨4, (), rfl, rfl, by rw [ht]; exact hP9, va_K.moved hW.alike hK, hD9⟩, hS1.F ht⟩) hS1.2.2 d_21_54_10
abbrev Q_String_isLatin1_2 (D : va_G) (ca : Nat → ClassId)  (A : Nat → Prop) : Array Value → State → Outcome → State → Prop := va_Qi (S := Unit) (fun (r : Int32) (u : Unit) => r = 1) (fun u => gB D ca A []) A
set_option maxHeartbeats 8000000 in
set_option maxRecDepth 100000 in
theorem c_String_isLatin1_2 (l : Launch) (D : va_G) (ca : Nat → ClassId) (ad av : Nat → Nat) (sz : Nat)   : Met l ({ cls := "java/lang/String", name := "isLatin1", desc := "()Z" } : Jvm.MethodName) (Cond.code ({ cls := "java/lang/String", name := "isLatin1", desc := "()Z" } : Jvm.MethodName) prog_21_method_154_code 1 (Option.some Jvm.ClassFile.FieldType.boolean) :: wAll) ({ frames := 0, cells := 0, slots := 0, locals := 0 } : Room) (va_Pc [.ref (ad 3)] (gPre D ca ad av [] sz)) (Q_String_isLatin1_2 D ca  (va_A [] sz)) 0 0 (va_A [] sz) := by
  refine gMet (Qc := Q_String_isLatin1_2 D ca ) (lv := [(0, .ref (ad 3))]) (by decide) (Nat.le_of_ble_eq_true rfl) rfl (fun A p e s m below meth c ls hx hb hr hml hown hts hlk hnm hl hP hK hD hS hA hX => ?_)
  have hown : s.vm.findClass "java/lang/String" = some m.cls := hown
  have hnm : meth.name = "isLatin1" := hnm
  refine va_gets hx hb (hX.2.2.2.1 _ (List.mem_of_getElem? (i := 0) rfl)) hS hown (hts _ k_3_79) (fun _ h => h) d_21_154_0 ?_
  refine lv_if_eq (tgt := 17) hx hb d_21_154_3 (by decide) (fun c => absurd c (by decide)) (fun _ => ?_)
  refine lv_aload_n hx hb d_21_154_6 rfl (lv_at hl 0 rfl) ?_
  refine vk_getf hx hb ((hX.2.2.2.2.1 3 _ rfl).2.1 0 (by decide)).2.1 hS hown (hts _ k_15_171) (fun _ h => h) d_21_154_7 ?_
  refine W.eq (g2 := F0 m 10 ls [.int 0]) rfl ?_
  refine lv_if_ne (tgt := 17) hx hb d_21_154_10 (by decide) (fun c => absurd c (by decide)) (fun _ => ?_)
  refine lv_iconst (v := 1) hx hb d_21_154_13 (by decide) ?_
  refine lv_goto (tgt := 18) hx hb d_21_154_14 (by decide) ?_
  have hP9 := hP.sub (ws' := []) [] rfl
  have hD9 := hD.sub (ws' := []) [] (by decide) rfl
  refine W.widen (k := 0) (n := 0) (Nat.le_of_ble_eq_true rfl) (Nat.le_of_ble_eq_true rfl) ?_
  exact W.zret (v := 1) hx hb hr rfl (fun t ht hW => ⟨⟨1, (), rfl, rfl, by rw [ht]; exact hP9, va_K.moved hW.alike hK, hD9⟩, hS.F ht⟩) hS.2.2 d_21_154_18
abbrev Q_StringLatin1_charAt_10 (D : va_G) (ca : Nat → ClassId)  (A : Nat → Prop) : Array Value → State → Outcome → State → Prop := va_Qi (S := Unit) (fun (r : Int32) (u : Unit) => r = 97) (fun u => gB D ca A []) A
set_option maxHeartbeats 8000000 in
set_option maxRecDepth 100000 in
theorem c_StringLatin1_charAt_10 (l : Launch) (D : va_G) (ca : Nat → ClassId) (ad av : Nat → Nat) (sz : Nat)   : Met l ({ cls := "java/lang/StringLatin1", name := "charAt", desc := "([BI)C" } : Jvm.MethodName) (Cond.code ({ cls := "java/lang/StringLatin1", name := "charAt", desc := "([BI)C" } : Jvm.MethodName) prog_22_method_2_code 2 (Option.some Jvm.ClassFile.FieldType.char) :: wAll) ({ frames := 2, cells := 0, slots := 0, locals := 43 } : Room) (va_Pc [.ref (av 3), .int 0] (gPre D ca ad av [] sz)) (Q_StringLatin1_charAt_10 D ca  (va_A [] sz)) 0 0 (va_A [] sz) := by
  refine gMet (Qc := Q_StringLatin1_charAt_10 D ca ) (lv := [(0, .ref (av 3)), (1, .int 0)]) (by decide) (Nat.le_of_ble_eq_true rfl) rfl (fun A p e s m below meth c ls hx hb hr hml hown hts hlk hnm hl hP hK hD hS hA hX => ?_)
  have hown : s.vm.findClass "java/lang/StringLatin1" = some m.cls := hown
  have hnm : meth.name = "charAt" := hnm
  refine lv_iload_n hx hb d_22_2_0 rfl (lv_at hl 1 rfl) ?_
  refine lv_aload_n hx hb d_22_2_1 rfl (lv_at hl 0 rfl) ?_
  refine va_tlen (v := 4) hx hb ((hX.2.2.2.2.1 3 _ rfl).2.1 0 (by decide)).2.2.2 hS (by decide) d_22_2_2 ?_
  have hFc1 := va_free (wc := []) hD hS hA [] rfl
  refine va_callv (va_runS (As := [.int 0, .int 4]) (rest := []) ⟨hx, hb, hml, hown, hts⟩ (c_String_checkIndex_6 l D ca ad av s.heap.size  ) (va_cwS 2 hts (gdS k_7_140 k_7_141 k_1_11 k_7_142) rfl rfl rfl (by decide +kernel) ⟨Nat.le_of_ble_eq_true rfl, Nat.le_of_ble_eq_true rfl⟩) (gPS hP hD hK hS hA hX [] (by decide) rfl [.int 0, .int 4]) rfl rfl hl.1 rfl (lv_room (Nat.le_of_ble_eq_true rfl)) d_22_2_3 ⟨Nat.le_of_ble_eq_true rfl, Nat.le_of_ble_eq_true rfl⟩) hS (fun q _ h => hFc1 q h) hFc1 (fun u1 t1 H1 locs1 ht1 hvm1 hw1 hB1 hz1 hk1 hS1 => ?_)
  obtain ⟨hP1, hD1⟩ := gJoin (wr := []) (w1 := []) hP hD [] [] rfl rfl (by decide) (by decide) hk1 hFc1 ht1 hB1
  have hP1 : va_P D cls [] H1 := hP1
  have hD1 : va_D A [] := hD1
  refine W.widen (k := 0) (n := 0) (Nat.le_of_ble_eq_true rfl) (Nat.le_of_ble_eq_true rfl) ?_
  refine lv_aload_n hx hb d_22_2_6 rfl (lv_at hl 0 rfl) ?_
  refine lv_iload_n hx hb d_22_2_7 rfl (lv_at hl 1 rfl) ?_
  refine va_tb (v := .int 97) hx hb ((hX.2.2.2.2.1 3 _ rfl).2.1 0 (by decide)).2.2.2 hS1 (vinC (by decide)) rfl d_22_2_8 ?_
  refine lv_sipush (v := 255) hx hb d_22_2_9 (by decide) ?_
  refine lv_iand hx hb d_22_2_12 ?_
  refine lv_topi (fun y2 ey2 => ?_)
  obtain rfl : y2 = 97 := ey2.trans (by decide)
  refine lv_i2c hx hb d_22_2_13 rfl ?_
  refine lv_topi (fun y3 ey3 => ?_)
  obtain rfl : y3 = 97 := ey3.trans (by decide)
  have hP9 := hP1.sub (ws' := []) [] rfl
  have hD9 := hD1.sub (ws' := []) [] (by decide) rfl
  refine W.widen (k := 0) (n := 0) (Nat.le_of_ble_eq_true rfl) (Nat.le_of_ble_eq_true rfl) ?_
  exact W.zret (v := 97) hx hb hr rfl (fun t ht hW => ⟨⟨97, (), rfl, rfl, by rw [ht]; exact hP9, va_K.moved hW.alike hK, hD9⟩, hS1.F ht⟩) hS1.2.2 d_22_2_14
abbrev Q_String_charAt_10 (D : va_G) (ca : Nat → ClassId)  (A : Nat → Prop) : Array Value → State → Outcome → State → Prop := va_Qi (S := Unit) (fun (r : Int32) (u : Unit) => r = 97) (fun u => gB D ca A []) A
set_option maxHeartbeats 8000000 in
set_option maxRecDepth 100000 in
theorem c_String_charAt_10 (l : Launch) (D : va_G) (ca : Nat → ClassId) (ad av : Nat → Nat) (sz : Nat)   : Met l ({ cls := "java/lang/String", name := "charAt", desc := "(I)C" } : Jvm.MethodName) (Cond.code ({ cls := "java/lang/String", name := "charAt", desc := "(I)C" } : Jvm.MethodName) prog_21_method_56_code 2 (Option.some Jvm.ClassFile.FieldType.char) :: wAll) ({ frames := 3, cells := 0, slots := 0, locals := 64 } : Room) (va_Pc [.ref (ad 3), .int 0] (gPre D ca ad av [] sz)) (Q_String_charAt_10 D ca  (va_A [] sz)) 0 0 (va_A [] sz) := by
  refine gMet (Qc := Q_String_charAt_10 D ca ) (lv := [(0, .ref (ad 3)), (1, .int 0)]) (by decide) (Nat.le_of_ble_eq_true rfl) rfl (fun A p e s m below meth c ls hx hb hr hml hown hts hlk hnm hl hP hK hD hS hA hX => ?_)
  have hown : s.vm.findClass "java/lang/String" = some m.cls := hown
  have hnm : meth.name = "charAt" := hnm
  refine lv_aload_n hx hb d_21_56_0 rfl (lv_at hl 0 rfl) ?_
  have hFc1 := va_free (wc := []) hD hS hA [] rfl
  refine va_calli (va_runV (As := []) (rest := []) ⟨hx, hb, hml, hown, hts⟩ (c_String_isLatin1_2 l D ca ad av s.heap.size  ) (cwV 0 hts (gdV k_3_75 k_3_76 k_3_77 k_1_11 k_3_78) rfl rfl rfl (by decide +kernel) ⟨Nat.le_of_ble_eq_true rfl, Nat.le_of_ble_eq_true rfl⟩) ⟨gBlind, vk_recv (i := 0) (hX.2.2.2.2.1 3 _ rfl).2 (by decide) hS, gAt hP hD hK hS hA hX [] (by decide) rfl [.ref (ad 3)]⟩ rfl rfl hl.1 rfl (lv_room (Nat.le_of_ble_eq_true rfl)) d_21_56_1 ⟨Nat.le_of_ble_eq_true rfl, Nat.le_of_ble_eq_true rfl⟩) hS (fun q _ h => hFc1 q h) hFc1 (fun r1 u1 t1 H1 locs1 ht1 hvm1 hw1 hB1 hz1 hk1 hS1 => ?_)
  have hr1 := hw1
  obtain ⟨hP1, hD1⟩ := gJoin (wr := []) (w1 := []) hP hD [] [] rfl rfl (by decide) (by decide) hk1 hFc1 ht1 hB1
  have hP1 : va_P D cls [] H1 := hP1
  have hD1 : va_D A [] := hD1
  refine W.widen (k := 0) (n := 0) (Nat.le_of_ble_eq_true rfl) (Nat.le_of_ble_eq_true rfl) ?_
  subst hr1
  refine lv_if_eq (tgt := 16) hx hb d_21_56_4 (by decide) (fun c => absurd c (by decide)) (fun _ => ?_)
  refine lv_aload_n hx hb d_21_56_7 rfl (lv_at hl 0 rfl) ?_
  refine vk_getf hx hb ((hX.2.2.2.2.1 3 _ rfl).2.1 0 (by decide)).2.2.1 hS1 hown (hts _ k_15_170) (fun _ h => h) d_21_56_8 ?_
  refine W.eq (g2 := F0 m 11 ls [.ref (av 3)]) rfl ?_
  refine lv_iload_n hx hb d_21_56_11 rfl (lv_at hl 1 rfl) ?_
  have hFc2 := va_free (wc := []) hD1 hS1 hA [] rfl
  refine va_calli (va_runS (As := [.ref (av 3), .int 0]) (rest := []) ⟨hx, hb, hml, hown, hts⟩ (c_StringLatin1_charAt_10 l D ca ad av H1.size  ) (va_cwS 2 hts (gdS k_7_137 k_7_138 k_1_12 k_7_139) rfl rfl rfl (by decide +kernel) ⟨Nat.le_of_ble_eq_true rfl, Nat.le_of_ble_eq_true rfl⟩) (gPS hP1 hD1 hK hS1 hA hX [] (by decide) rfl [.ref (av 3), .int 0]) rfl rfl hl.1 rfl (lv_room (Nat.le_of_ble_eq_true rfl)) d_21_56_12 ⟨Nat.le_of_ble_eq_true rfl, Nat.le_of_ble_eq_true rfl⟩) hS1 (fun q _ h => hFc2 q h) hFc2 (fun r2 u2 t2 H2 locs2 ht2 hvm2 hw2 hB2 hz2 hk2 hS2 => ?_)
  have hr2 := hw2
  obtain ⟨hP2, hD2⟩ := gJoin (wr := []) (w1 := []) hP1 hD1 [] [] rfl rfl (by decide) (by decide) hk2 hFc2 ht2 hB2
  have hP2 : va_P D cls [] H2 := hP2
  have hD2 : va_D A [] := hD2
  refine W.widen (k := 0) (n := 0) (Nat.le_of_ble_eq_true rfl) (Nat.le_of_ble_eq_true rfl) ?_
  subst hr2
  have hP9 := hP2.sub (ws' := []) [] rfl
  have hD9 := hD2.sub (ws' := []) [] (by decide) rfl
  refine W.widen (k := 0) (n := 0) (Nat.le_of_ble_eq_true rfl) (Nat.le_of_ble_eq_true rfl) ?_
  exact W.zret (v := 97) hx hb hr rfl (fun t ht hW => ⟨⟨97, (), rfl, rfl, by rw [ht]; exact hP9, va_K.moved hW.alike hK, hD9⟩, hS2.F ht⟩) hS2.2.2 d_21_56_15
abbrev Q_StringLatin1_charAt_11 (D : va_G) (ca : Nat → ClassId)  (A : Nat → Prop) : Array Value → State → Outcome → State → Prop := va_Qi (S := Unit) (fun (r : Int32) (u : Unit) => r = 108) (fun u => gB D ca A []) A
set_option maxHeartbeats 8000000 in
set_option maxRecDepth 100000 in
theorem c_StringLatin1_charAt_11 (l : Launch) (D : va_G) (ca : Nat → ClassId) (ad av : Nat → Nat) (sz : Nat)   : Met l ({ cls := "java/lang/StringLatin1", name := "charAt", desc := "([BI)C" } : Jvm.MethodName) (Cond.code ({ cls := "java/lang/StringLatin1", name := "charAt", desc := "([BI)C" } : Jvm.MethodName) prog_22_method_2_code 2 (Option.some Jvm.ClassFile.FieldType.char) :: wAll) ({ frames := 2, cells := 0, slots := 0, locals := 43 } : Room) (va_Pc [.ref (av 3), .int 1] (gPre D ca ad av [] sz)) (Q_StringLatin1_charAt_11 D ca  (va_A [] sz)) 0 0 (va_A [] sz) := by
  refine gMet (Qc := Q_StringLatin1_charAt_11 D ca ) (lv := [(0, .ref (av 3)), (1, .int 1)]) (by decide) (Nat.le_of_ble_eq_true rfl) rfl (fun A p e s m below meth c ls hx hb hr hml hown hts hlk hnm hl hP hK hD hS hA hX => ?_)
  have hown : s.vm.findClass "java/lang/StringLatin1" = some m.cls := hown
  have hnm : meth.name = "charAt" := hnm
  refine lv_iload_n hx hb d_22_2_0 rfl (lv_at hl 1 rfl) ?_
  refine lv_aload_n hx hb d_22_2_1 rfl (lv_at hl 0 rfl) ?_
  refine va_tlen (v := 4) hx hb ((hX.2.2.2.2.1 3 _ rfl).2.1 0 (by decide)).2.2.2 hS (by decide) d_22_2_2 ?_
  have hFc1 := va_free (wc := []) hD hS hA [] rfl
  refine va_callv (va_runS (As := [.int 1, .int 4]) (rest := []) ⟨hx, hb, hml, hown, hts⟩ (c_String_checkIndex_7 l D ca ad av s.heap.size  ) (va_cwS 2 hts (gdS k_7_140 k_7_141 k_1_11 k_7_142) rfl rfl rfl (by decide +kernel) ⟨Nat.le_of_ble_eq_true rfl, Nat.le_of_ble_eq_true rfl⟩) (gPS hP hD hK hS hA hX [] (by decide) rfl [.int 1, .int 4]) rfl rfl hl.1 rfl (lv_room (Nat.le_of_ble_eq_true rfl)) d_22_2_3 ⟨Nat.le_of_ble_eq_true rfl, Nat.le_of_ble_eq_true rfl⟩) hS (fun q _ h => hFc1 q h) hFc1 (fun u1 t1 H1 locs1 ht1 hvm1 hw1 hB1 hz1 hk1 hS1 => ?_)
  obtain ⟨hP1, hD1⟩ := gJoin (wr := []) (w1 := []) hP hD [] [] rfl rfl (by decide) (by decide) hk1 hFc1 ht1 hB1
  have hP1 : va_P D cls [] H1 := hP1
  have hD1 : va_D A [] := hD1
  refine W.widen (k := 0) (n := 0) (Nat.le_of_ble_eq_true rfl) (Nat.le_of_ble_eq_true rfl) ?_
  refine lv_aload_n hx hb d_22_2_6 rfl (lv_at hl 0 rfl) ?_
  refine lv_iload_n hx hb d_22_2_7 rfl (lv_at hl 1 rfl) ?_
  refine va_tb (v := .int 108) hx hb ((hX.2.2.2.2.1 3 _ rfl).2.1 0 (by decide)).2.2.2 hS1 (vinC (by decide)) rfl d_22_2_8 ?_
  refine lv_sipush (v := 255) hx hb d_22_2_9 (by decide) ?_
  refine lv_iand hx hb d_22_2_12 ?_
  refine lv_topi (fun y2 ey2 => ?_)
  obtain rfl : y2 = 108 := ey2.trans (by decide)
  refine lv_i2c hx hb d_22_2_13 rfl ?_
  refine lv_topi (fun y3 ey3 => ?_)
  obtain rfl : y3 = 108 := ey3.trans (by decide)
  have hP9 := hP1.sub (ws' := []) [] rfl
  have hD9 := hD1.sub (ws' := []) [] (by decide) rfl
  refine W.widen (k := 0) (n := 0) (Nat.le_of_ble_eq_true rfl) (Nat.le_of_ble_eq_true rfl) ?_
  exact W.zret (v := 108) hx hb hr rfl (fun t ht hW => ⟨⟨108, (), rfl, rfl, by rw [ht]; exact hP9, va_K.moved hW.alike hK, hD9⟩, hS1.F ht⟩) hS1.2.2 d_22_2_14
abbrev Q_String_charAt_11 (D : va_G) (ca : Nat → ClassId)  (A : Nat → Prop) : Array Value → State → Outcome → State → Prop := va_Qi (S := Unit) (fun (r : Int32) (u : Unit) => r = 108) (fun u => gB D ca A []) A
set_option maxHeartbeats 8000000 in
set_option maxRecDepth 100000 in
theorem c_String_charAt_11 (l : Launch) (D : va_G) (ca : Nat → ClassId) (ad av : Nat → Nat) (sz : Nat)   : Met l ({ cls := "java/lang/String", name := "charAt", desc := "(I)C" } : Jvm.MethodName) (Cond.code ({ cls := "java/lang/String", name := "charAt", desc := "(I)C" } : Jvm.MethodName) prog_21_method_56_code 2 (Option.some Jvm.ClassFile.FieldType.char) :: wAll) ({ frames := 3, cells := 0, slots := 0, locals := 64 } : Room) (va_Pc [.ref (ad 3), .int 1] (gPre D ca ad av [] sz)) (Q_String_charAt_11 D ca  (va_A [] sz)) 0 0 (va_A [] sz) := by
  refine gMet (Qc := Q_String_charAt_11 D ca ) (lv := [(0, .ref (ad 3)), (1, .int 1)]) (by decide) (Nat.le_of_ble_eq_true rfl) rfl (fun A p e s m below meth c ls hx hb hr hml hown hts hlk hnm hl hP hK hD hS hA hX => ?_)
  have hown : s.vm.findClass "java/lang/String" = some m.cls := hown
  have hnm : meth.name = "charAt" := hnm
  refine lv_aload_n hx hb d_21_56_0 rfl (lv_at hl 0 rfl) ?_
  have hFc1 := va_free (wc := []) hD hS hA [] rfl
  refine va_calli (va_runV (As := []) (rest := []) ⟨hx, hb, hml, hown, hts⟩ (c_String_isLatin1_2 l D ca ad av s.heap.size  ) (cwV 0 hts (gdV k_3_75 k_3_76 k_3_77 k_1_11 k_3_78) rfl rfl rfl (by decide +kernel) ⟨Nat.le_of_ble_eq_true rfl, Nat.le_of_ble_eq_true rfl⟩) ⟨gBlind, vk_recv (i := 0) (hX.2.2.2.2.1 3 _ rfl).2 (by decide) hS, gAt hP hD hK hS hA hX [] (by decide) rfl [.ref (ad 3)]⟩ rfl rfl hl.1 rfl (lv_room (Nat.le_of_ble_eq_true rfl)) d_21_56_1 ⟨Nat.le_of_ble_eq_true rfl, Nat.le_of_ble_eq_true rfl⟩) hS (fun q _ h => hFc1 q h) hFc1 (fun r1 u1 t1 H1 locs1 ht1 hvm1 hw1 hB1 hz1 hk1 hS1 => ?_)
  have hr1 := hw1
  obtain ⟨hP1, hD1⟩ := gJoin (wr := []) (w1 := []) hP hD [] [] rfl rfl (by decide) (by decide) hk1 hFc1 ht1 hB1
  have hP1 : va_P D cls [] H1 := hP1
  have hD1 : va_D A [] := hD1
  refine W.widen (k := 0) (n := 0) (Nat.le_of_ble_eq_true rfl) (Nat.le_of_ble_eq_true rfl) ?_
  subst hr1
  refine lv_if_eq (tgt := 16) hx hb d_21_56_4 (by decide) (fun c => absurd c (by decide)) (fun _ => ?_)
  refine lv_aload_n hx hb d_21_56_7 rfl (lv_at hl 0 rfl) ?_
  refine vk_getf hx hb ((hX.2.2.2.2.1 3 _ rfl).2.1 0 (by decide)).2.2.1 hS1 hown (hts _ k_15_170) (fun _ h => h) d_21_56_8 ?_
  refine W.eq (g2 := F0 m 11 ls [.ref (av 3)]) rfl ?_
  refine lv_iload_n hx hb d_21_56_11 rfl (lv_at hl 1 rfl) ?_
  have hFc2 := va_free (wc := []) hD1 hS1 hA [] rfl
  refine va_calli (va_runS (As := [.ref (av 3), .int 1]) (rest := []) ⟨hx, hb, hml, hown, hts⟩ (c_StringLatin1_charAt_11 l D ca ad av H1.size  ) (va_cwS 2 hts (gdS k_7_137 k_7_138 k_1_12 k_7_139) rfl rfl rfl (by decide +kernel) ⟨Nat.le_of_ble_eq_true rfl, Nat.le_of_ble_eq_true rfl⟩) (gPS hP1 hD1 hK hS1 hA hX [] (by decide) rfl [.ref (av 3), .int 1]) rfl rfl hl.1 rfl (lv_room (Nat.le_of_ble_eq_true rfl)) d_21_56_12 ⟨Nat.le_of_ble_eq_true rfl, Nat.le_of_ble_eq_true rfl⟩) hS1 (fun q _ h => hFc2 q h) hFc2 (fun r2 u2 t2 H2 locs2 ht2 hvm2 hw2 hB2 hz2 hk2 hS2 => ?_)
  have hr2 := hw2
  obtain ⟨hP2, hD2⟩ := gJoin (wr := []) (w1 := []) hP1 hD1 [] [] rfl rfl (by decide) (by decide) hk2 hFc2 ht2 hB2
  have hP2 : va_P D cls [] H2 := hP2
  have hD2 : va_D A [] := hD2
  refine W.widen (k := 0) (n := 0) (Nat.le_of_ble_eq_true rfl) (Nat.le_of_ble_eq_true rfl) ?_
  subst hr2
  have hP9 := hP2.sub (ws' := []) [] rfl
  have hD9 := hD2.sub (ws' := []) [] (by decide) rfl
  refine W.widen (k := 0) (n := 0) (Nat.le_of_ble_eq_true rfl) (Nat.le_of_ble_eq_true rfl) ?_
  exact W.zret (v := 108) hx hb hr rfl (fun t ht hW => ⟨⟨108, (), rfl, rfl, by rw [ht]; exact hP9, va_K.moved hW.alike hK, hD9⟩, hS2.F ht⟩) hS2.2.2 d_21_56_15
abbrev Q_StringLatin1_charAt_12 (D : va_G) (ca : Nat → ClassId)  (A : Nat → Prop) : Array Value → State → Outcome → State → Prop := va_Qi (S := Unit) (fun (r : Int32) (u : Unit) => r = 116) (fun u => gB D ca A []) A
set_option maxHeartbeats 8000000 in
set_option maxRecDepth 100000 in
theorem c_StringLatin1_charAt_12 (l : Launch) (D : va_G) (ca : Nat → ClassId) (ad av : Nat → Nat) (sz : Nat)   : Met l ({ cls := "java/lang/StringLatin1", name := "charAt", desc := "([BI)C" } : Jvm.MethodName) (Cond.code ({ cls := "java/lang/StringLatin1", name := "charAt", desc := "([BI)C" } : Jvm.MethodName) prog_22_method_2_code 2 (Option.some Jvm.ClassFile.FieldType.char) :: wAll) ({ frames := 2, cells := 0, slots := 0, locals := 43 } : Room) (va_Pc [.ref (av 3), .int 2] (gPre D ca ad av [] sz)) (Q_StringLatin1_charAt_12 D ca  (va_A [] sz)) 0 0 (va_A [] sz) := by
  refine gMet (Qc := Q_StringLatin1_charAt_12 D ca ) (lv := [(0, .ref (av 3)), (1, .int 2)]) (by decide) (Nat.le_of_ble_eq_true rfl) rfl (fun A p e s m below meth c ls hx hb hr hml hown hts hlk hnm hl hP hK hD hS hA hX => ?_)
  have hown : s.vm.findClass "java/lang/StringLatin1" = some m.cls := hown
  have hnm : meth.name = "charAt" := hnm
  refine lv_iload_n hx hb d_22_2_0 rfl (lv_at hl 1 rfl) ?_
  refine lv_aload_n hx hb d_22_2_1 rfl (lv_at hl 0 rfl) ?_
  refine va_tlen (v := 4) hx hb ((hX.2.2.2.2.1 3 _ rfl).2.1 0 (by decide)).2.2.2 hS (by decide) d_22_2_2 ?_
  have hFc1 := va_free (wc := []) hD hS hA [] rfl
  refine va_callv (va_runS (As := [.int 2, .int 4]) (rest := []) ⟨hx, hb, hml, hown, hts⟩ (c_String_checkIndex_8 l D ca ad av s.heap.size  ) (va_cwS 2 hts (gdS k_7_140 k_7_141 k_1_11 k_7_142) rfl rfl rfl (by decide +kernel) ⟨Nat.le_of_ble_eq_true rfl, Nat.le_of_ble_eq_true rfl⟩) (gPS hP hD hK hS hA hX [] (by decide) rfl [.int 2, .int 4]) rfl rfl hl.1 rfl (lv_room (Nat.le_of_ble_eq_true rfl)) d_22_2_3 ⟨Nat.le_of_ble_eq_true rfl, Nat.le_of_ble_eq_true rfl⟩) hS (fun q _ h => hFc1 q h) hFc1 (fun u1 t1 H1 locs1 ht1 hvm1 hw1 hB1 hz1 hk1 hS1 => ?_)
  obtain ⟨hP1, hD1⟩ := gJoin (wr := []) (w1 := []) hP hD [] [] rfl rfl (by decide) (by decide) hk1 hFc1 ht1 hB1
  have hP1 : va_P D cls [] H1 := hP1
  have hD1 : va_D A [] := hD1
  refine W.widen (k := 0) (n := 0) (Nat.le_of_ble_eq_true rfl) (Nat.le_of_ble_eq_true rfl) ?_
  refine lv_aload_n hx hb d_22_2_6 rfl (lv_at hl 0 rfl) ?_
  refine lv_iload_n hx hb d_22_2_7 rfl (lv_at hl 1 rfl) ?_
  refine va_tb (v := .int 116) hx hb ((hX.2.2.2.2.1 3 _ rfl).2.1 0 (by decide)).2.2.2 hS1 (vinC (by decide)) rfl d_22_2_8 ?_
  refine lv_sipush (v := 255) hx hb d_22_2_9 (by decide) ?_
  refine lv_iand hx hb d_22_2_12 ?_
  refine lv_topi (fun y2 ey2 => ?_)
  obtain rfl : y2 = 116 := ey2.trans (by decide)
  refine lv_i2c hx hb d_22_2_13 rfl ?_
  refine lv_topi (fun y3 ey3 => ?_)
  obtain rfl : y3 = 116 := ey3.trans (by decide)
  have hP9 := hP1.sub (ws' := []) [] rfl
  have hD9 := hD1.sub (ws' := []) [] (by decide) rfl
  refine W.widen (k := 0) (n := 0) (Nat.le_of_ble_eq_true rfl) (Nat.le_of_ble_eq_true rfl) ?_
  exact W.zret (v := 116) hx hb hr rfl (fun t ht hW => ⟨⟨116, (), rfl, rfl, by rw [ht]; exact hP9, va_K.moved hW.alike hK, hD9⟩, hS1.F ht⟩) hS1.2.2 d_22_2_14
abbrev Q_String_charAt_12 (D : va_G) (ca : Nat → ClassId)  (A : Nat → Prop) : Array Value → State → Outcome → State → Prop := va_Qi (S := Unit) (fun (r : Int32) (u : Unit) => r = 116) (fun u => gB D ca A []) A
set_option maxHeartbeats 8000000 in
set_option maxRecDepth 100000 in
theorem c_String_charAt_12 (l : Launch) (D : va_G) (ca : Nat → ClassId) (ad av : Nat → Nat) (sz : Nat)   : Met l ({ cls := "java/lang/String", name := "charAt", desc := "(I)C" } : Jvm.MethodName) (Cond.code ({ cls := "java/lang/String", name := "charAt", desc := "(I)C" } : Jvm.MethodName) prog_21_method_56_code 2 (Option.some Jvm.ClassFile.FieldType.char) :: wAll) ({ frames := 3, cells := 0, slots := 0, locals := 64 } : Room) (va_Pc [.ref (ad 3), .int 2] (gPre D ca ad av [] sz)) (Q_String_charAt_12 D ca  (va_A [] sz)) 0 0 (va_A [] sz) := by
  refine gMet (Qc := Q_String_charAt_12 D ca ) (lv := [(0, .ref (ad 3)), (1, .int 2)]) (by decide) (Nat.le_of_ble_eq_true rfl) rfl (fun A p e s m below meth c ls hx hb hr hml hown hts hlk hnm hl hP hK hD hS hA hX => ?_)
  have hown : s.vm.findClass "java/lang/String" = some m.cls := hown
  have hnm : meth.name = "charAt" := hnm
  refine lv_aload_n hx hb d_21_56_0 rfl (lv_at hl 0 rfl) ?_
  have hFc1 := va_free (wc := []) hD hS hA [] rfl
  refine va_calli (va_runV (As := []) (rest := []) ⟨hx, hb, hml, hown, hts⟩ (c_String_isLatin1_2 l D ca ad av s.heap.size  ) (cwV 0 hts (gdV k_3_75 k_3_76 k_3_77 k_1_11 k_3_78) rfl rfl rfl (by decide +kernel) ⟨Nat.le_of_ble_eq_true rfl, Nat.le_of_ble_eq_true rfl⟩) ⟨gBlind, vk_recv (i := 0) (hX.2.2.2.2.1 3 _ rfl).2 (by decide) hS, gAt hP hD hK hS hA hX [] (by decide) rfl [.ref (ad 3)]⟩ rfl rfl hl.1 rfl (lv_room (Nat.le_of_ble_eq_true rfl)) d_21_56_1 ⟨Nat.le_of_ble_eq_true rfl, Nat.le_of_ble_eq_true rfl⟩) hS (fun q _ h => hFc1 q h) hFc1 (fun r1 u1 t1 H1 locs1 ht1 hvm1 hw1 hB1 hz1 hk1 hS1 => ?_)
  have hr1 := hw1
  obtain ⟨hP1, hD1⟩ := gJoin (wr := []) (w1 := []) hP hD [] [] rfl rfl (by decide) (by decide) hk1 hFc1 ht1 hB1
  have hP1 : va_P D cls [] H1 := hP1
  have hD1 : va_D A [] := hD1
  refine W.widen (k := 0) (n := 0) (Nat.le_of_ble_eq_true rfl) (Nat.le_of_ble_eq_true rfl) ?_
  subst hr1
  refine lv_if_eq (tgt := 16) hx hb d_21_56_4 (by decide) (fun c => absurd c (by decide)) (fun _ => ?_)
  refine lv_aload_n hx hb d_21_56_7 rfl (lv_at hl 0 rfl) ?_
  refine vk_getf hx hb ((hX.2.2.2.2.1 3 _ rfl).2.1 0 (by decide)).2.2.1 hS1 hown (hts _ k_15_170) (fun _ h => h) d_21_56_8 ?_
  refine W.eq (g2 := F0 m 11 ls [.ref (av 3)]) rfl ?_
  refine lv_iload_n hx hb d_21_56_11 rfl (lv_at hl 1 rfl) ?_
  have hFc2 := va_free (wc := []) hD1 hS1 hA [] rfl
  refine va_calli (va_runS (As := [.ref (av 3), .int 2]) (rest := []) ⟨hx, hb, hml, hown, hts⟩ (c_StringLatin1_charAt_12 l D ca ad av H1.size  ) (va_cwS 2 hts (gdS k_7_137 k_7_138 k_1_12 k_7_139) rfl rfl rfl (by decide +kernel) ⟨Nat.le_of_ble_eq_true rfl, Nat.le_of_ble_eq_true rfl⟩) (gPS hP1 hD1 hK hS1 hA hX [] (by decide) rfl [.ref (av 3), .int 2]) rfl rfl hl.1 rfl (lv_room (Nat.le_of_ble_eq_true rfl)) d_21_56_12 ⟨Nat.le_of_ble_eq_true rfl, Nat.le_of_ble_eq_true rfl⟩) hS1 (fun q _ h => hFc2 q h) hFc2 (fun r2 u2 t2 H2 locs2 ht2 hvm2 hw2 hB2 hz2 hk2 hS2 => ?_)
  have hr2 := hw2
  obtain ⟨hP2, hD2⟩ := gJoin (wr := []) (w1 := []) hP1 hD1 [] [] rfl rfl (by decide) (by decide) hk2 hFc2 ht2 hB2
  have hP2 : va_P D cls [] H2 := hP2
  have hD2 : va_D A [] := hD2
  refine W.widen (k := 0) (n := 0) (Nat.le_of_ble_eq_true rfl) (Nat.le_of_ble_eq_true rfl) ?_
  subst hr2
  have hP9 := hP2.sub (ws' := []) [] rfl
  have hD9 := hD2.sub (ws' := []) [] (by decide) rfl
  refine W.widen (k := 0) (n := 0) (Nat.le_of_ble_eq_true rfl) (Nat.le_of_ble_eq_true rfl) ?_
  exact W.zret (v := 116) hx hb hr rfl (fun t ht hW => ⟨⟨116, (), rfl, rfl, by rw [ht]; exact hP9, va_K.moved hW.alike hK, hD9⟩, hS2.F ht⟩) hS2.2.2 d_21_56_15
abbrev Q_StringLatin1_charAt_13 (D : va_G) (ca : Nat → ClassId)  (A : Nat → Prop) : Array Value → State → Outcome → State → Prop := va_Qi (S := Unit) (fun (r : Int32) (u : Unit) => r = 111) (fun u => gB D ca A []) A
set_option maxHeartbeats 8000000 in
set_option maxRecDepth 100000 in
theorem c_StringLatin1_charAt_13 (l : Launch) (D : va_G) (ca : Nat → ClassId) (ad av : Nat → Nat) (sz : Nat)   : Met l ({ cls := "java/lang/StringLatin1", name := "charAt", desc := "([BI)C" } : Jvm.MethodName) (Cond.code ({ cls := "java/lang/StringLatin1", name := "charAt", desc := "([BI)C" } : Jvm.MethodName) prog_22_method_2_code 2 (Option.some Jvm.ClassFile.FieldType.char) :: wAll) ({ frames := 2, cells := 0, slots := 0, locals := 43 } : Room) (va_Pc [.ref (av 3), .int 3] (gPre D ca ad av [] sz)) (Q_StringLatin1_charAt_13 D ca  (va_A [] sz)) 0 0 (va_A [] sz) := by
  refine gMet (Qc := Q_StringLatin1_charAt_13 D ca ) (lv := [(0, .ref (av 3)), (1, .int 3)]) (by decide) (Nat.le_of_ble_eq_true rfl) rfl (fun A p e s m below meth c ls hx hb hr hml hown hts hlk hnm hl hP hK hD hS hA hX => ?_)
  have hown : s.vm.findClass "java/lang/StringLatin1" = some m.cls := hown
  have hnm : meth.name = "charAt" := hnm
  refine lv_iload_n hx hb d_22_2_0 rfl (lv_at hl 1 rfl) ?_
  refine lv_aload_n hx hb d_22_2_1 rfl (lv_at hl 0 rfl) ?_
  refine va_tlen (v := 4) hx hb ((hX.2.2.2.2.1 3 _ rfl).2.1 0 (by decide)).2.2.2 hS (by decide) d_22_2_2 ?_
  have hFc1 := va_free (wc := []) hD hS hA [] rfl
  refine va_callv (va_runS (As := [.int 3, .int 4]) (rest := []) ⟨hx, hb, hml, hown, hts⟩ (c_String_checkIndex_9 l D ca ad av s.heap.size  ) (va_cwS 2 hts (gdS k_7_140 k_7_141 k_1_11 k_7_142) rfl rfl rfl (by decide +kernel) ⟨Nat.le_of_ble_eq_true rfl, Nat.le_of_ble_eq_true rfl⟩) (gPS hP hD hK hS hA hX [] (by decide) rfl [.int 3, .int 4]) rfl rfl hl.1 rfl (lv_room (Nat.le_of_ble_eq_true rfl)) d_22_2_3 ⟨Nat.le_of_ble_eq_true rfl, Nat.le_of_ble_eq_true rfl⟩) hS (fun q _ h => hFc1 q h) hFc1 (fun u1 t1 H1 locs1 ht1 hvm1 hw1 hB1 hz1 hk1 hS1 => ?_)
  obtain ⟨hP1, hD1⟩ := gJoin (wr := []) (w1 := []) hP hD [] [] rfl rfl (by decide) (by decide) hk1 hFc1 ht1 hB1
  have hP1 : va_P D cls [] H1 := hP1
  have hD1 : va_D A [] := hD1
  refine W.widen (k := 0) (n := 0) (Nat.le_of_ble_eq_true rfl) (Nat.le_of_ble_eq_true rfl) ?_
  refine lv_aload_n hx hb d_22_2_6 rfl (lv_at hl 0 rfl) ?_
  refine lv_iload_n hx hb d_22_2_7 rfl (lv_at hl 1 rfl) ?_
  refine va_tb (v := .int 111) hx hb ((hX.2.2.2.2.1 3 _ rfl).2.1 0 (by decide)).2.2.2 hS1 (vinC (by decide)) rfl d_22_2_8 ?_
  refine lv_sipush (v := 255) hx hb d_22_2_9 (by decide) ?_
  refine lv_iand hx hb d_22_2_12 ?_
  refine lv_topi (fun y2 ey2 => ?_)
  obtain rfl : y2 = 111 := ey2.trans (by decide)
  refine lv_i2c hx hb d_22_2_13 rfl ?_
  refine lv_topi (fun y3 ey3 => ?_)
  obtain rfl : y3 = 111 := ey3.trans (by decide)
  have hP9 := hP1.sub (ws' := []) [] rfl
  have hD9 := hD1.sub (ws' := []) [] (by decide) rfl
  refine W.widen (k := 0) (n := 0) (Nat.le_of_ble_eq_true rfl) (Nat.le_of_ble_eq_true rfl) ?_
  exact W.zret (v := 111) hx hb hr rfl (fun t ht hW => ⟨⟨111, (), rfl, rfl, by rw [ht]; exact hP9, va_K.moved hW.alike hK, hD9⟩, hS1.F ht⟩) hS1.2.2 d_22_2_14
abbrev Q_String_charAt_13 (D : va_G) (ca : Nat → ClassId)  (A : Nat → Prop) : Array Value → State → Outcome → State → Prop := va_Qi (S := Unit) (fun (r : Int32) (u : Unit) => r = 111) (fun u => gB D ca A []) A
set_option maxHeartbeats 8000000 in
set_option maxRecDepth 100000 in
theorem c_String_charAt_13 (l : Launch) (D : va_G) (ca : Nat → ClassId) (ad av : Nat → Nat) (sz : Nat)   : Met l ({ cls := "java/lang/String", name := "charAt", desc := "(I)C" } : Jvm.MethodName) (Cond.code ({ cls := "java/lang/String", name := "charAt", desc := "(I)C" } : Jvm.MethodName) prog_21_method_56_code 2 (Option.some Jvm.ClassFile.FieldType.char) :: wAll) ({ frames := 3, cells := 0, slots := 0, locals := 64 } : Room) (va_Pc [.ref (ad 3), .int 3] (gPre D ca ad av [] sz)) (Q_String_charAt_13 D ca  (va_A [] sz)) 0 0 (va_A [] sz) := by
  refine gMet (Qc := Q_String_charAt_13 D ca ) (lv := [(0, .ref (ad 3)), (1, .int 3)]) (by decide) (Nat.le_of_ble_eq_true rfl) rfl (fun A p e s m below meth c ls hx hb hr hml hown hts hlk hnm hl hP hK hD hS hA hX => ?_)
  have hown : s.vm.findClass "java/lang/String" = some m.cls := hown
  have hnm : meth.name = "charAt" := hnm
  refine lv_aload_n hx hb d_21_56_0 rfl (lv_at hl 0 rfl) ?_
  have hFc1 := va_free (wc := []) hD hS hA [] rfl
  refine va_calli (va_runV (As := []) (rest := []) ⟨hx, hb, hml, hown, hts⟩ (c_String_isLatin1_2 l D ca ad av s.heap.size  ) (cwV 0 hts (gdV k_3_75 k_3_76 k_3_77 k_1_11 k_3_78) rfl rfl rfl (by decide +kernel) ⟨Nat.le_of_ble_eq_true rfl, Nat.le_of_ble_eq_true rfl⟩) ⟨gBlind, vk_recv (i := 0) (hX.2.2.2.2.1 3 _ rfl).2 (by decide) hS, gAt hP hD hK hS hA hX [] (by decide) rfl [.ref (ad 3)]⟩ rfl rfl hl.1 rfl (lv_room (Nat.le_of_ble_eq_true rfl)) d_21_56_1 ⟨Nat.le_of_ble_eq_true rfl, Nat.le_of_ble_eq_true rfl⟩) hS (fun q _ h => hFc1 q h) hFc1 (fun r1 u1 t1 H1 locs1 ht1 hvm1 hw1 hB1 hz1 hk1 hS1 => ?_)
  have hr1 := hw1
  obtain ⟨hP1, hD1⟩ := gJoin (wr := []) (w1 := []) hP hD [] [] rfl rfl (by decide) (by decide) hk1 hFc1 ht1 hB1
  have hP1 : va_P D cls [] H1 := hP1
  have hD1 : va_D A [] := hD1
  refine W.widen (k := 0) (n := 0) (Nat.le_of_ble_eq_true rfl) (Nat.le_of_ble_eq_true rfl) ?_
  subst hr1
  refine lv_if_eq (tgt := 16) hx hb d_21_56_4 (by decide) (fun c => absurd c (by decide)) (fun _ => ?_)
  refine lv_aload_n hx hb d_21_56_7 rfl (lv_at hl 0 rfl) ?_
  refine vk_getf hx hb ((hX.2.2.2.2.1 3 _ rfl).2.1 0 (by decide)).2.2.1 hS1 hown (hts _ k_15_170) (fun _ h => h) d_21_56_8 ?_
  refine W.eq (g2 := F0 m 11 ls [.ref (av 3)]) rfl ?_
  refine lv_iload_n hx hb d_21_56_11 rfl (lv_at hl 1 rfl) ?_
  have hFc2 := va_free (wc := []) hD1 hS1 hA [] rfl
  refine va_calli (va_runS (As := [.ref (av 3), .int 3]) (rest := []) ⟨hx, hb, hml, hown, hts⟩ (c_StringLatin1_charAt_13 l D ca ad av H1.size  ) (va_cwS 2 hts (gdS k_7_137 k_7_138 k_1_12 k_7_139) rfl rfl rfl (by decide +kernel) ⟨Nat.le_of_ble_eq_true rfl, Nat.le_of_ble_eq_true rfl⟩) (gPS hP1 hD1 hK hS1 hA hX [] (by decide) rfl [.ref (av 3), .int 3]) rfl rfl hl.1 rfl (lv_room (Nat.le_of_ble_eq_true rfl)) d_21_56_12 ⟨Nat.le_of_ble_eq_true rfl, Nat.le_of_ble_eq_true rfl⟩) hS1 (fun q _ h => hFc2 q h) hFc2 (fun r2 u2 t2 H2 locs2 ht2 hvm2 hw2 hB2 hz2 hk2 hS2 => ?_)
  have hr2 := hw2
  obtain ⟨hP2, hD2⟩ := gJoin (wr := []) (w1 := []) hP1 hD1 [] [] rfl rfl (by decide) (by decide) hk2 hFc2 ht2 hB2
  have hP2 : va_P D cls [] H2 := hP2
  have hD2 : va_D A [] := hD2
  refine W.widen (k := 0) (n := 0) (Nat.le_of_ble_eq_true rfl) (Nat.le_of_ble_eq_true rfl) ?_
  subst hr2
  have hP9 := hP2.sub (ws' := []) [] rfl
  have hD9 := hD2.sub (ws' := []) [] (by decide) rfl
  refine W.widen (k := 0) (n := 0) (Nat.le_of_ble_eq_true rfl) (Nat.le_of_ble_eq_true rfl) ?_
  exact W.zret (v := 111) hx hb hr rfl (fun t ht hW => ⟨⟨111, (), rfl, rfl, by rw [ht]; exact hP9, va_K.moved hW.alike hK, hD9⟩, hS2.F ht⟩) hS2.2.2 d_21_56_15
abbrev Q_M_code_2 (D : va_G) (ca : Nat → ClassId)  (A : Nat → Prop) : Array Value → State → Outcome → State → Prop := va_Ql (S := Unit) (fun (r : Int64) (u : Unit) => r = 1634497647) (fun u => gB D ca A []) A
set_option maxHeartbeats 8000000 in
set_option maxRecDepth 100000 in
theorem c_M_code_2 (l : Launch) (D : va_G) (ca : Nat → ClassId) (ad av : Nat → Nat) (sz : Nat)   : Met l ({ cls := "StaveHouseModel", name := "code", desc := "(Ljava/lang/String;)J" } : Jvm.MethodName) (Cond.code ({ cls := "StaveHouseModel", name := "code", desc := "(Ljava/lang/String;)J" } : Jvm.MethodName) prog_15_method_24_code 4 (Option.some Jvm.ClassFile.FieldType.long) :: wAll) ({ frames := 4, cells := 0, slots := 0, locals := 85 } : Room) (va_Pc [.ref (ad 3)] (gPre D ca ad av [] sz)) (Q_M_code_2 D ca  (va_A [] sz)) 0 0 (va_A [] sz) := by
  refine gMet (Qc := Q_M_code_2 D ca ) (lv := [(0, .ref (ad 3))]) (by decide) (Nat.le_of_ble_eq_true rfl) rfl (fun A p e s m below meth c ls hx hb hr hml hown hts hlk hnm hl hP hK hD hS hA hX => ?_)
  have hown : s.vm.findClass "StaveHouseModel" = some m.cls := hown
  have hnm : meth.name = "code" := hnm
  refine lv_lconst (v := 0) hx hb d_15_24_0 (by decide) ?_
  refine lv_lstore_n (lv' := [(1, .long 0), (0, .ref (ad 3))]) hx hb d_15_24_1 rfl hl (by decide) rfl (fun ls hl => ?_)
  refine lv_iconst (v := 0) hx hb d_15_24_2 (by decide) ?_
  refine lv_istore_n (lv' := [(3, .int 0), (1, .long 0), (0, .ref (ad 3))]) hx hb d_15_24_3 rfl hl (by decide) rfl (fun ls hl => ?_)
  refine lv_iload_n hx hb d_15_24_4 rfl (lv_at hl 0 rfl) ?_
  refine lv_aload_n hx hb d_15_24_5 rfl (lv_at hl 2 rfl) ?_
  have hFc1 := va_free (wc := []) hD hS hA [] rfl
  refine va_calli (va_runV (As := []) (rest := [.int 0]) ⟨hx, hb, hml, hown, hts⟩ (c_String_length_2 l D ca ad av s.heap.size  ) (cwV 0 hts (gdV k_10_194 k_3_82 k_3_83 k_1_11 k_3_84) rfl rfl rfl (by decide +kernel) ⟨Nat.le_of_ble_eq_true rfl, Nat.le_of_ble_eq_true rfl⟩) ⟨gBlind, vk_recv (i := 0) (hX.2.2.2.2.1 3 _ rfl).2 (by decide) hS, gAt hP hD hK hS hA hX [] (by decide) rfl [.ref (ad 3)]⟩ rfl rfl hl.1 rfl (lv_room (Nat.le_of_ble_eq_true rfl)) d_15_24_6 ⟨Nat.le_of_ble_eq_true rfl, Nat.le_of_ble_eq_true rfl⟩) hS (fun q _ h => hFc1 q h) hFc1 (fun r1 u1 t1 H1 locs1 ht1 hvm1 hw1 hB1 hz1 hk1 hS1 => ?_)
  have hr1 := hw1
  obtain ⟨hP1, hD1⟩ := gJoin (wr := []) (w1 := []) hP hD [] [] rfl rfl (by decide) (by decide) hk1 hFc1 ht1 hB1
  have hP1 : va_P D cls [] H1 := hP1
  have hD1 : va_D A [] := hD1
  refine W.widen (k := 0) (n := 0) (Nat.le_of_ble_eq_true rfl) (Nat.le_of_ble_eq_true rfl) ?_
  subst hr1
  refine lv_icmp_ge (tgt := 30) hx hb d_15_24_9 (by decide) (fun c => absurd c (by decide)) (fun _ => ?_)
  refine lv_lload_n hx hb d_15_24_12 rfl (lv_at hl 1 rfl) ?_
  refine lv_bipush (v := 8) hx hb d_15_24_13 (by decide) ?_
  refine lv_lshl hx hb d_15_24_15 rfl ?_
  refine lv_topl (fun y2 ey2 => ?_)
  obtain rfl : y2 = 0 := ey2.trans (by decide)
  refine lv_aload_n hx hb d_15_24_16 rfl (lv_at hl 2 rfl) ?_
  refine lv_iload_n hx hb d_15_24_17 rfl (lv_at hl 0 rfl) ?_
  have hFc3 := va_free (wc := []) hD1 hS1 hA [] rfl
  refine va_calli (va_runV (As := [.int 0]) (rest := [.long 0]) ⟨hx, hb, hml, hown, hts⟩ (c_String_charAt_10 l D ca ad av H1.size  ) (cwV 1 hts (gdV k_10_195 k_7_134 k_7_135 k_1_11 k_7_136) rfl rfl rfl (by decide +kernel) ⟨Nat.le_of_ble_eq_true rfl, Nat.le_of_ble_eq_true rfl⟩) ⟨gBlind, vk_recv (i := 0) (hX.2.2.2.2.1 3 _ rfl).2 (by decide) hS1, gAt hP1 hD1 hK hS1 hA hX [] (by decide) rfl [.ref (ad 3), .int 0]⟩ rfl rfl hl.1 rfl (lv_room (Nat.le_of_ble_eq_true rfl)) d_15_24_18 ⟨Nat.le_of_ble_eq_true rfl, Nat.le_of_ble_eq_true rfl⟩) hS1 (fun q _ h => hFc3 q h) hFc3 (fun r3 u3 t3 H3 locs3 ht3 hvm3 hw3 hB3 hz3 hk3 hS3 => ?_)
  have hr3 := hw3
  obtain ⟨hP3, hD3⟩ := gJoin (wr := []) (w1 := []) hP1 hD1 [] [] rfl rfl (by decide) (by decide) hk3 hFc3 ht3 hB3
  have hP3 : va_P D cls [] H3 := hP3
  have hD3 : va_D A [] := hD3
  refine W.widen (k := 0) (n := 0) (Nat.le_of_ble_eq_true rfl) (Nat.le_of_ble_eq_true rfl) ?_
  subst hr3
  refine lv_i2l hx hb d_15_24_21 rfl ?_
  refine lv_topl (fun y4 ey4 => ?_)
  obtain rfl : y4 = 97 := ey4.trans (by decide)
  refine lv_lor hx hb d_15_24_22 ?_
  refine lv_topl (fun y5 ey5 => ?_)
  obtain rfl : y5 = 97 := ey5.trans (by decide)
  refine lv_lstore_n (lv' := [(1, .long 97), (3, .int 0), (0, .ref (ad 3))]) hx hb d_15_24_23 rfl hl (by decide) rfl (fun ls hl => ?_)
  refine lv_iinc (v := 1) (lv' := [(3, .int 1), (1, .long 97), (0, .ref (ad 3))]) hx hb d_15_24_24 hl (k := 1) rfl (by decide) (by decide) rfl (fun ls hl => ?_)
  refine lv_goto (tgt := 4) hx hb d_15_24_27 (by decide) ?_
  refine lv_iload_n hx hb d_15_24_4 rfl (lv_at hl 0 rfl) ?_
  refine lv_aload_n hx hb d_15_24_5 rfl (lv_at hl 2 rfl) ?_
  have hFc6 := va_free (wc := []) hD3 hS3 hA [] rfl
  refine va_calli (va_runV (As := []) (rest := [.int 1]) ⟨hx, hb, hml, hown, hts⟩ (c_String_length_2 l D ca ad av H3.size  ) (cwV 0 hts (gdV k_10_194 k_3_82 k_3_83 k_1_11 k_3_84) rfl rfl rfl (by decide +kernel) ⟨Nat.le_of_ble_eq_true rfl, Nat.le_of_ble_eq_true rfl⟩) ⟨gBlind, vk_recv (i := 0) (hX.2.2.2.2.1 3 _ rfl).2 (by decide) hS3, gAt hP3 hD3 hK hS3 hA hX [] (by decide) rfl [.ref (ad 3)]⟩ rfl rfl hl.1 rfl (lv_room (Nat.le_of_ble_eq_true rfl)) d_15_24_6 ⟨Nat.le_of_ble_eq_true rfl, Nat.le_of_ble_eq_true rfl⟩) hS3 (fun q _ h => hFc6 q h) hFc6 (fun r6 u6 t6 H6 locs6 ht6 hvm6 hw6 hB6 hz6 hk6 hS6 => ?_)
  have hr6 := hw6
  obtain ⟨hP6, hD6⟩ := gJoin (wr := []) (w1 := []) hP3 hD3 [] [] rfl rfl (by decide) (by decide) hk6 hFc6 ht6 hB6
  have hP6 : va_P D cls [] H6 := hP6
  have hD6 : va_D A [] := hD6
  refine W.widen (k := 0) (n := 0) (Nat.le_of_ble_eq_true rfl) (Nat.le_of_ble_eq_true rfl) ?_
  subst hr6
  refine lv_icmp_ge (tgt := 30) hx hb d_15_24_9 (by decide) (fun c => absurd c (by decide)) (fun _ => ?_)
  refine lv_lload_n hx hb d_15_24_12 rfl (lv_at hl 1 rfl) ?_
  refine lv_bipush (v := 8) hx hb d_15_24_13 (by decide) ?_
  refine lv_lshl hx hb d_15_24_15 rfl ?_
  refine lv_topl (fun y7 ey7 => ?_)
  obtain rfl : y7 = 24832 := ey7.trans (by decide)
  refine lv_aload_n hx hb d_15_24_16 rfl (lv_at hl 2 rfl) ?_
  refine lv_iload_n hx hb d_15_24_17 rfl (lv_at hl 0 rfl) ?_
  have hFc8 := va_free (wc := []) hD6 hS6 hA [] rfl
  refine va_calli (va_runV (As := [.int 1]) (rest := [.long 24832]) ⟨hx, hb, hml, hown, hts⟩ (c_String_charAt_11 l D ca ad av H6.size  ) (cwV 1 hts (gdV k_10_195 k_7_134 k_7_135 k_1_11 k_7_136) rfl rfl rfl (by decide +kernel) ⟨Nat.le_of_ble_eq_true rfl, Nat.le_of_ble_eq_true rfl⟩) ⟨gBlind, vk_recv (i := 0) (hX.2.2.2.2.1 3 _ rfl).2 (by decide) hS6, gAt hP6 hD6 hK hS6 hA hX [] (by decide) rfl [.ref (ad 3), .int 1]⟩ rfl rfl hl.1 rfl (lv_room (Nat.le_of_ble_eq_true rfl)) d_15_24_18 ⟨Nat.le_of_ble_eq_true rfl, Nat.le_of_ble_eq_true rfl⟩) hS6 (fun q _ h => hFc8 q h) hFc8 (fun r8 u8 t8 H8 locs8 ht8 hvm8 hw8 hB8 hz8 hk8 hS8 => ?_)
  have hr8 := hw8
  obtain ⟨hP8, hD8⟩ := gJoin (wr := []) (w1 := []) hP6 hD6 [] [] rfl rfl (by decide) (by decide) hk8 hFc8 ht8 hB8
  have hP8 : va_P D cls [] H8 := hP8
  have hD8 : va_D A [] := hD8
  refine W.widen (k := 0) (n := 0) (Nat.le_of_ble_eq_true rfl) (Nat.le_of_ble_eq_true rfl) ?_
  subst hr8
  refine lv_i2l hx hb d_15_24_21 rfl ?_
  refine lv_topl (fun y9 ey9 => ?_)
  obtain rfl : y9 = 108 := ey9.trans (by decide)
  refine lv_lor hx hb d_15_24_22 ?_
  refine lv_topl (fun y10 ey10 => ?_)
  obtain rfl : y10 = 24940 := ey10.trans (by decide)
  refine lv_lstore_n (lv' := [(1, .long 24940), (3, .int 1), (0, .ref (ad 3))]) hx hb d_15_24_23 rfl hl (by decide) rfl (fun ls hl => ?_)
  refine lv_iinc (v := 2) (lv' := [(3, .int 2), (1, .long 24940), (0, .ref (ad 3))]) hx hb d_15_24_24 hl (k := 1) rfl (by decide) (by decide) rfl (fun ls hl => ?_)
  refine lv_goto (tgt := 4) hx hb d_15_24_27 (by decide) ?_
  refine lv_iload_n hx hb d_15_24_4 rfl (lv_at hl 0 rfl) ?_
  refine lv_aload_n hx hb d_15_24_5 rfl (lv_at hl 2 rfl) ?_
  have hFc11 := va_free (wc := []) hD8 hS8 hA [] rfl
  refine va_calli (va_runV (As := []) (rest := [.int 2]) ⟨hx, hb, hml, hown, hts⟩ (c_String_length_2 l D ca ad av H8.size  ) (cwV 0 hts (gdV k_10_194 k_3_82 k_3_83 k_1_11 k_3_84) rfl rfl rfl (by decide +kernel) ⟨Nat.le_of_ble_eq_true rfl, Nat.le_of_ble_eq_true rfl⟩) ⟨gBlind, vk_recv (i := 0) (hX.2.2.2.2.1 3 _ rfl).2 (by decide) hS8, gAt hP8 hD8 hK hS8 hA hX [] (by decide) rfl [.ref (ad 3)]⟩ rfl rfl hl.1 rfl (lv_room (Nat.le_of_ble_eq_true rfl)) d_15_24_6 ⟨Nat.le_of_ble_eq_true rfl, Nat.le_of_ble_eq_true rfl⟩) hS8 (fun q _ h => hFc11 q h) hFc11 (fun r11 u11 t11 H11 locs11 ht11 hvm11 hw11 hB11 hz11 hk11 hS11 => ?_)
  have hr11 := hw11
  obtain ⟨hP11, hD11⟩ := gJoin (wr := []) (w1 := []) hP8 hD8 [] [] rfl rfl (by decide) (by decide) hk11 hFc11 ht11 hB11
  have hP11 : va_P D cls [] H11 := hP11
  have hD11 : va_D A [] := hD11
  refine W.widen (k := 0) (n := 0) (Nat.le_of_ble_eq_true rfl) (Nat.le_of_ble_eq_true rfl) ?_
  subst hr11
  refine lv_icmp_ge (tgt := 30) hx hb d_15_24_9 (by decide) (fun c => absurd c (by decide)) (fun _ => ?_)
  refine lv_lload_n hx hb d_15_24_12 rfl (lv_at hl 1 rfl) ?_
  refine lv_bipush (v := 8) hx hb d_15_24_13 (by decide) ?_
  refine lv_lshl hx hb d_15_24_15 rfl ?_
  refine lv_topl (fun y12 ey12 => ?_)
  obtain rfl : y12 = 6384640 := ey12.trans (by decide)
  refine lv_aload_n hx hb d_15_24_16 rfl (lv_at hl 2 rfl) ?_
  refine lv_iload_n hx hb d_15_24_17 rfl (lv_at hl 0 rfl) ?_
  have hFc13 := va_free (wc := []) hD11 hS11 hA [] rfl
  refine va_calli (va_runV (As := [.int 2]) (rest := [.long 6384640]) ⟨hx, hb, hml, hown, hts⟩ (c_String_charAt_12 l D ca ad av H11.size  ) (cwV 1 hts (gdV k_10_195 k_7_134 k_7_135 k_1_11 k_7_136) rfl rfl rfl (by decide +kernel) ⟨Nat.le_of_ble_eq_true rfl, Nat.le_of_ble_eq_true rfl⟩) ⟨gBlind, vk_recv (i := 0) (hX.2.2.2.2.1 3 _ rfl).2 (by decide) hS11, gAt hP11 hD11 hK hS11 hA hX [] (by decide) rfl [.ref (ad 3), .int 2]⟩ rfl rfl hl.1 rfl (lv_room (Nat.le_of_ble_eq_true rfl)) d_15_24_18 ⟨Nat.le_of_ble_eq_true rfl, Nat.le_of_ble_eq_true rfl⟩) hS11 (fun q _ h => hFc13 q h) hFc13 (fun r13 u13 t13 H13 locs13 ht13 hvm13 hw13 hB13 hz13 hk13 hS13 => ?_)
  have hr13 := hw13
  obtain ⟨hP13, hD13⟩ := gJoin (wr := []) (w1 := []) hP11 hD11 [] [] rfl rfl (by decide) (by decide) hk13 hFc13 ht13 hB13
  have hP13 : va_P D cls [] H13 := hP13
  have hD13 : va_D A [] := hD13
  refine W.widen (k := 0) (n := 0) (Nat.le_of_ble_eq_true rfl) (Nat.le_of_ble_eq_true rfl) ?_
  subst hr13
  refine lv_i2l hx hb d_15_24_21 rfl ?_
  refine lv_topl (fun y14 ey14 => ?_)
  obtain rfl : y14 = 116 := ey14.trans (by decide)
  refine lv_lor hx hb d_15_24_22 ?_
  refine lv_topl (fun y15 ey15 => ?_)
  obtain rfl : y15 = 6384756 := ey15.trans (by decide)
  refine lv_lstore_n (lv' := [(1, .long 6384756), (3, .int 2), (0, .ref (ad 3))]) hx hb d_15_24_23 rfl hl (by decide) rfl (fun ls hl => ?_)
  refine lv_iinc (v := 3) (lv' := [(3, .int 3), (1, .long 6384756), (0, .ref (ad 3))]) hx hb d_15_24_24 hl (k := 1) rfl (by decide) (by decide) rfl (fun ls hl => ?_)
  refine lv_goto (tgt := 4) hx hb d_15_24_27 (by decide) ?_
  refine lv_iload_n hx hb d_15_24_4 rfl (lv_at hl 0 rfl) ?_
  refine lv_aload_n hx hb d_15_24_5 rfl (lv_at hl 2 rfl) ?_
  have hFc16 := va_free (wc := []) hD13 hS13 hA [] rfl
  refine va_calli (va_runV (As := []) (rest := [.int 3]) ⟨hx, hb, hml, hown, hts⟩ (c_String_length_2 l D ca ad av H13.size  ) (cwV 0 hts (gdV k_10_194 k_3_82 k_3_83 k_1_11 k_3_84) rfl rfl rfl (by decide +kernel) ⟨Nat.le_of_ble_eq_true rfl, Nat.le_of_ble_eq_true rfl⟩) ⟨gBlind, vk_recv (i := 0) (hX.2.2.2.2.1 3 _ rfl).2 (by decide) hS13, gAt hP13 hD13 hK hS13 hA hX [] (by decide) rfl [.ref (ad 3)]⟩ rfl rfl hl.1 rfl (lv_room (Nat.le_of_ble_eq_true rfl)) d_15_24_6 ⟨Nat.le_of_ble_eq_true rfl, Nat.le_of_ble_eq_true rfl⟩) hS13 (fun q _ h => hFc16 q h) hFc16 (fun r16 u16 t16 H16 locs16 ht16 hvm16 hw16 hB16 hz16 hk16 hS16 => ?_)
  have hr16 := hw16
  obtain ⟨hP16, hD16⟩ := gJoin (wr := []) (w1 := []) hP13 hD13 [] [] rfl rfl (by decide) (by decide) hk16 hFc16 ht16 hB16
  have hP16 : va_P D cls [] H16 := hP16
  have hD16 : va_D A [] := hD16
  refine W.widen (k := 0) (n := 0) (Nat.le_of_ble_eq_true rfl) (Nat.le_of_ble_eq_true rfl) ?_
  subst hr16
  refine lv_icmp_ge (tgt := 30) hx hb d_15_24_9 (by decide) (fun c => absurd c (by decide)) (fun _ => ?_)
  refine lv_lload_n hx hb d_15_24_12 rfl (lv_at hl 1 rfl) ?_
  refine lv_bipush (v := 8) hx hb d_15_24_13 (by decide) ?_
  refine lv_lshl hx hb d_15_24_15 rfl ?_
  refine lv_topl (fun y17 ey17 => ?_)
  obtain rfl : y17 = 1634497536 := ey17.trans (by decide)
  refine lv_aload_n hx hb d_15_24_16 rfl (lv_at hl 2 rfl) ?_
  refine lv_iload_n hx hb d_15_24_17 rfl (lv_at hl 0 rfl) ?_
  have hFc18 := va_free (wc := []) hD16 hS16 hA [] rfl
  refine va_calli (va_runV (As := [.int 3]) (rest := [.long 1634497536]) ⟨hx, hb, hml, hown, hts⟩ (c_String_charAt_13 l D ca ad av H16.size  ) (cwV 1 hts (gdV k_10_195 k_7_134 k_7_135 k_1_11 k_7_136) rfl rfl rfl (by decide +kernel) ⟨Nat.le_of_ble_eq_true rfl, Nat.le_of_ble_eq_true rfl⟩) ⟨gBlind, vk_recv (i := 0) (hX.2.2.2.2.1 3 _ rfl).2 (by decide) hS16, gAt hP16 hD16 hK hS16 hA hX [] (by decide) rfl [.ref (ad 3), .int 3]⟩ rfl rfl hl.1 rfl (lv_room (Nat.le_of_ble_eq_true rfl)) d_15_24_18 ⟨Nat.le_of_ble_eq_true rfl, Nat.le_of_ble_eq_true rfl⟩) hS16 (fun q _ h => hFc18 q h) hFc18 (fun r18 u18 t18 H18 locs18 ht18 hvm18 hw18 hB18 hz18 hk18 hS18 => ?_)
  have hr18 := hw18
  obtain ⟨hP18, hD18⟩ := gJoin (wr := []) (w1 := []) hP16 hD16 [] [] rfl rfl (by decide) (by decide) hk18 hFc18 ht18 hB18
  have hP18 : va_P D cls [] H18 := hP18
  have hD18 : va_D A [] := hD18
  refine W.widen (k := 0) (n := 0) (Nat.le_of_ble_eq_true rfl) (Nat.le_of_ble_eq_true rfl) ?_
  subst hr18
  refine lv_i2l hx hb d_15_24_21 rfl ?_
  refine lv_topl (fun y19 ey19 => ?_)
  obtain rfl : y19 = 111 := ey19.trans (by decide)
  refine lv_lor hx hb d_15_24_22 ?_
  refine lv_topl (fun y20 ey20 => ?_)
  obtain rfl : y20 = 1634497647 := ey20.trans (by decide)
  refine lv_lstore_n (lv' := [(1, .long 1634497647), (3, .int 3), (0, .ref (ad 3))]) hx hb d_15_24_23 rfl hl (by decide) rfl (fun ls hl => ?_)
  refine lv_iinc (v := 4) (lv' := [(3, .int 4), (1, .long 1634497647), (0, .ref (ad 3))]) hx hb d_15_24_24 hl (k := 1) rfl (by decide) (by decide) rfl (fun ls hl => ?_)
  refine lv_goto (tgt := 4) hx hb d_15_24_27 (by decide) ?_
  refine lv_iload_n hx hb d_15_24_4 rfl (lv_at hl 0 rfl) ?_
  refine lv_aload_n hx hb d_15_24_5 rfl (lv_at hl 2 rfl) ?_
  have hFc21 := va_free (wc := []) hD18 hS18 hA [] rfl
  refine va_calli (va_runV (As := []) (rest := [.int 4]) ⟨hx, hb, hml, hown, hts⟩ (c_String_length_2 l D ca ad av H18.size  ) (cwV 0 hts (gdV k_10_194 k_3_82 k_3_83 k_1_11 k_3_84) rfl rfl rfl (by decide +kernel) ⟨Nat.le_of_ble_eq_true rfl, Nat.le_of_ble_eq_true rfl⟩) ⟨gBlind, vk_recv (i := 0) (hX.2.2.2.2.1 3 _ rfl).2 (by decide) hS18, gAt hP18 hD18 hK hS18 hA hX [] (by decide) rfl [.ref (ad 3)]⟩ rfl rfl hl.1 rfl (lv_room (Nat.le_of_ble_eq_true rfl)) d_15_24_6 ⟨Nat.le_of_ble_eq_true rfl, Nat.le_of_ble_eq_true rfl⟩) hS18 (fun q _ h => hFc21 q h) hFc21 (fun r21 u21 t21 H21 locs21 ht21 hvm21 hw21 hB21 hz21 hk21 hS21 => ?_)
  have hr21 := hw21
  obtain ⟨hP21, hD21⟩ := gJoin (wr := []) (w1 := []) hP18 hD18 [] [] rfl rfl (by decide) (by decide) hk21 hFc21 ht21 hB21
  have hP21 : va_P D cls [] H21 := hP21
  have hD21 : va_D A [] := hD21
  refine W.widen (k := 0) (n := 0) (Nat.le_of_ble_eq_true rfl) (Nat.le_of_ble_eq_true rfl) ?_
  subst hr21
  refine lv_icmp_ge (tgt := 30) hx hb d_15_24_9 (by decide) (fun _ => ?_) (fun c => absurd (by decide) c)
  refine lv_lload_n hx hb d_15_24_30 rfl (lv_at hl 1 rfl) ?_
  have hP9 := hP21.sub (ws' := []) [] rfl
  have hD9 := hD21.sub (ws' := []) [] (by decide) rfl
  refine W.widen (k := 0) (n := 0) (Nat.le_of_ble_eq_true rfl) (Nat.le_of_ble_eq_true rfl) ?_
  exact W.lret (v := 1634497647) hx hb hr (fun t ht hW => ⟨⟨1634497647, (), rfl, rfl, by rw [ht]; exact hP9, va_K.moved hW.alike hK, hD9⟩, hS21.F ht⟩) hS21.2.2 d_15_24_31
abbrev Q_String_coder_3 (D : va_G) (ca : Nat → ClassId)  (A : Nat → Prop) : Array Value → State → Outcome → State → Prop := va_Qi (S := Unit) (fun (r : Int32) (u : Unit) => r = 0) (fun u => gB D ca A []) A
set_option maxHeartbeats 8000000 in
set_option maxRecDepth 100000 in
theorem c_String_coder_3 (l : Launch) (D : va_G) (ca : Nat → ClassId) (ad av : Nat → Nat) (sz : Nat)   : Met l ({ cls := "java/lang/String", name := "coder", desc := "()B" } : Jvm.MethodName) (Cond.code ({ cls := "java/lang/String", name := "coder", desc := "()B" } : Jvm.MethodName) prog_21_method_152_code 1 (Option.some Jvm.ClassFile.FieldType.byte) :: wAll) ({ frames := 0, cells := 0, slots := 0, locals := 0 } : Room) (va_Pc [.ref (ad 4)] (gPre D ca ad av [] sz)) (Q_String_coder_3 D ca  (va_A [] sz)) 0 0 (va_A [] sz) := by
  refine gMet (Qc := Q_String_coder_3 D ca ) (lv := [(0, .ref (ad 4))]) (by decide) (Nat.le_of_ble_eq_true rfl) rfl (fun A p e s m below meth c ls hx hb hr hml hown hts hlk hnm hl hP hK hD hS hA hX => ?_)
  have hown : s.vm.findClass "java/lang/String" = some m.cls := hown
  have hnm : meth.name = "coder" := hnm
  refine va_gets hx hb (hX.2.2.2.1 _ (List.mem_of_getElem? (i := 0) rfl)) hS hown (hts _ k_3_79) (fun _ h => h) d_21_152_0 ?_
  refine lv_if_eq (tgt := 13) hx hb d_21_152_3 (by decide) (fun c => absurd c (by decide)) (fun _ => ?_)
  refine lv_aload_n hx hb d_21_152_6 rfl (lv_at hl 0 rfl) ?_
  refine vk_getf hx hb ((hX.2.2.2.2.1 4 _ rfl).2.1 0 (by decide)).2.1 hS hown (hts _ k_15_171) (fun _ h => h) d_21_152_7 ?_
  refine W.eq (g2 := F0 m 10 ls [.int 0]) rfl ?_
  refine lv_goto (tgt := 14) hx hb d_21_152_10 (by decide) ?_
  have hP9 := hP.sub (ws' := []) [] rfl
  have hD9 := hD.sub (ws' := []) [] (by decide) rfl
  refine W.widen (k := 0) (n := 0) (Nat.le_of_ble_eq_true rfl) (Nat.le_of_ble_eq_true rfl) ?_
  exact W.zret (v := 0) hx hb hr rfl (fun t ht hW => ⟨⟨0, (), rfl, rfl, by rw [ht]; exact hP9, va_K.moved hW.alike hK, hD9⟩, hS.F ht⟩) hS.2.2 d_21_152_14
abbrev Q_String_length_3 (D : va_G) (ca : Nat → ClassId)  (A : Nat → Prop) : Array Value → State → Outcome → State → Prop := va_Qi (S := Unit) (fun (r : Int32) (u : Unit) => r = 5) (fun u => gB D ca A []) A
set_option maxHeartbeats 8000000 in
set_option maxRecDepth 100000 in
theorem c_String_length_3 (l : Launch) (D : va_G) (ca : Nat → ClassId) (ad av : Nat → Nat) (sz : Nat)   : Met l ({ cls := "java/lang/String", name := "length", desc := "()I" } : Jvm.MethodName) (Cond.code ({ cls := "java/lang/String", name := "length", desc := "()I" } : Jvm.MethodName) prog_21_method_54_code 1 (Option.some Jvm.ClassFile.FieldType.int) :: wAll) ({ frames := 1, cells := 0, slots := 0, locals := 20 } : Room) (va_Pc [.ref (ad 4)] (gPre D ca ad av [] sz)) (Q_String_length_3 D ca  (va_A [] sz)) 0 0 (va_A [] sz) := by
  refine gMet (Qc := Q_String_length_3 D ca ) (lv := [(0, .ref (ad 4))]) (by decide) (Nat.le_of_ble_eq_true rfl) rfl (fun A p e s m below meth c ls hx hb hr hml hown hts hlk hnm hl hP hK hD hS hA hX => ?_)
  have hown : s.vm.findClass "java/lang/String" = some m.cls := hown
  have hnm : meth.name = "length" := hnm
  refine lv_aload_n hx hb d_21_54_0 rfl (lv_at hl 0 rfl) ?_
  refine vk_getf hx hb ((hX.2.2.2.2.1 4 _ rfl).2.1 0 (by decide)).2.2.1 hS hown (hts _ k_15_170) (fun _ h => h) d_21_54_1 ?_
  refine W.eq (g2 := F0 m 4 ls [.ref (av 4)]) rfl ?_
  refine va_tlen (v := 5) hx hb ((hX.2.2.2.2.1 4 _ rfl).2.1 0 (by decide)).2.2.2 hS (by decide) d_21_54_4 ?_
  refine lv_aload_n hx hb d_21_54_5 rfl (lv_at hl 0 rfl) ?_
  have hFc1 := va_free (wc := []) hD hS hA [] rfl
  refine va_calli (va_runV (As := []) (rest := [.int 5]) ⟨hx, hb, hml, hown, hts⟩ (c_String_coder_3 l D ca ad av s.heap.size  ) (cwV 0 hts (gdV k_3_85 k_3_86 k_3_87 k_1_11 k_3_88) rfl rfl rfl (by decide +kernel) ⟨Nat.le_of_ble_eq_true rfl, Nat.le_of_ble_eq_true rfl⟩) ⟨gBlind, vk_recv (i := 0) (hX.2.2.2.2.1 4 _ rfl).2 (by decide) hS, gAt hP hD hK hS hA hX [] (by decide) rfl [.ref (ad 4)]⟩ rfl rfl hl.1 rfl (lv_room (Nat.le_of_ble_eq_true rfl)) d_21_54_6 ⟨Nat.le_of_ble_eq_true rfl, Nat.le_of_ble_eq_true rfl⟩) hS (fun q _ h => hFc1 q h) hFc1 (fun r1 u1 t1 H1 locs1 ht1 hvm1 hw1 hB1 hz1 hk1 hS1 => ?_)
  have hr1 := hw1
  obtain ⟨hP1, hD1⟩ := gJoin (wr := []) (w1 := []) hP hD [] [] rfl rfl (by decide) (by decide) hk1 hFc1 ht1 hB1
  have hP1 : va_P D cls [] H1 := hP1
  have hD1 : va_D A [] := hD1
  refine W.widen (k := 0) (n := 0) (Nat.le_of_ble_eq_true rfl) (Nat.le_of_ble_eq_true rfl) ?_
  subst hr1
  refine lv_ishr hx hb d_21_54_9 ?_
  refine lv_topi (fun y2 ey2 => ?_)
  obtain rfl : y2 = 5 := ey2.trans (by decide)
  have hP9 := hP1.sub (ws' := []) [] rfl
  have hD9 := hD1.sub (ws' := []) [] (by decide) rfl
  refine W.widen (k := 0) (n := 0) (Nat.le_of_ble_eq_true rfl) (Nat.le_of_ble_eq_true rfl) ?_
  exact W.iret (v := 5) hx hb hr (fun t ht hW => ⟨⟨5, (), rfl, rfl, by rw [ht]; exact hP9, va_K.moved hW.alike hK, hD9⟩, hS1.F ht⟩) hS1.2.2 d_21_54_10
abbrev Q_String_isLatin1_3 (D : va_G) (ca : Nat → ClassId)  (A : Nat → Prop) : Array Value → State → Outcome → State → Prop := va_Qi (S := Unit) (fun (r : Int32) (u : Unit) => r = 1) (fun u => gB D ca A []) A
set_option maxHeartbeats 8000000 in
set_option maxRecDepth 100000 in
theorem c_String_isLatin1_3 (l : Launch) (D : va_G) (ca : Nat → ClassId) (ad av : Nat → Nat) (sz : Nat)   : Met l ({ cls := "java/lang/String", name := "isLatin1", desc := "()Z" } : Jvm.MethodName) (Cond.code ({ cls := "java/lang/String", name := "isLatin1", desc := "()Z" } : Jvm.MethodName) prog_21_method_154_code 1 (Option.some Jvm.ClassFile.FieldType.boolean) :: wAll) ({ frames := 0, cells := 0, slots := 0, locals := 0 } : Room) (va_Pc [.ref (ad 4)] (gPre D ca ad av [] sz)) (Q_String_isLatin1_3 D ca  (va_A [] sz)) 0 0 (va_A [] sz) := by
  refine gMet (Qc := Q_String_isLatin1_3 D ca ) (lv := [(0, .ref (ad 4))]) (by decide) (Nat.le_of_ble_eq_true rfl) rfl (fun A p e s m below meth c ls hx hb hr hml hown hts hlk hnm hl hP hK hD hS hA hX => ?_)
  have hown : s.vm.findClass "java/lang/String" = some m.cls := hown
  have hnm : meth.name = "isLatin1" := hnm
  refine va_gets hx hb (hX.2.2.2.1 _ (List.mem_of_getElem? (i := 0) rfl)) hS hown (hts _ k_3_79) (fun _ h => h) d_21_154_0 ?_
  refine lv_if_eq (tgt := 17) hx hb d_21_154_3 (by decide) (fun c => absurd c (by decide)) (fun _ => ?_)
  refine lv_aload_n hx hb d_21_154_6 rfl (lv_at hl 0 rfl) ?_
  refine vk_getf hx hb ((hX.2.2.2.2.1 4 _ rfl).2.1 0 (by decide)).2.1 hS hown (hts _ k_15_171) (fun _ h => h) d_21_154_7 ?_
  refine W.eq (g2 := F0 m 10 ls [.int 0]) rfl ?_
  refine lv_if_ne (tgt := 17) hx hb d_21_154_10 (by decide) (fun c => absurd c (by decide)) (fun _ => ?_)
  refine lv_iconst (v := 1) hx hb d_21_154_13 (by decide) ?_
  refine lv_goto (tgt := 18) hx hb d_21_154_14 (by decide) ?_
  have hP9 := hP.sub (ws' := []) [] rfl
  have hD9 := hD.sub (ws' := []) [] (by decide) rfl
  refine W.widen (k := 0) (n := 0) (Nat.le_of_ble_eq_true rfl) (Nat.le_of_ble_eq_true rfl) ?_
  exact W.zret (v := 1) hx hb hr rfl (fun t ht hW => ⟨⟨1, (), rfl, rfl, by rw [ht]; exact hP9, va_K.moved hW.alike hK, hD9⟩, hS.F ht⟩) hS.2.2 d_21_154_18
abbrev Q_Preconditions_checkIndex_20 (D : va_G) (ca : Nat → ClassId)  (A : Nat → Prop) : Array Value → State → Outcome → State → Prop := va_Qi (S := Unit) (fun (r : Int32) (u : Unit) => r = 0) (fun u => gB D ca A []) A
set_option maxHeartbeats 8000000 in
set_option maxRecDepth 100000 in
theorem c_Preconditions_checkIndex_20 (l : Launch) (D : va_G) (ca : Nat → ClassId) (ad av : Nat → Nat) (sz : Nat)   : Met l ({ cls := "jdk/internal/util/Preconditions", name := "checkIndex", desc := "(IILjava/util/function/BiFunction;)I" } : Jvm.MethodName) (Cond.code ({ cls := "jdk/internal/util/Preconditions", name := "checkIndex", desc := "(IILjava/util/function/BiFunction;)I" } : Jvm.MethodName) prog_24_method_11_code 3 (Option.some Jvm.ClassFile.FieldType.int) :: wAll) ({ frames := 0, cells := 0, slots := 0, locals := 0 } : Room) (va_Pc [.int 0, .int 5, .null] (gPre D ca ad av [] sz)) (Q_Preconditions_checkIndex_20 D ca  (va_A [] sz)) 0 0 (va_A [] sz) := by
  refine gMet (Qc := Q_Preconditions_checkIndex_20 D ca ) (lv := [(0, .int 0), (1, .int 5), (2, .null)]) (by decide) (Nat.le_of_ble_eq_true rfl) rfl (fun A p e s m below meth c ls hx hb hr hml hown hts hlk hnm hl hP hK hD hS hA hX => ?_)
  have hown : s.vm.findClass "jdk/internal/util/Preconditions" = some m.cls := hown
  have hnm : meth.name = "checkIndex" := hnm
  refine lv_iload_n hx hb d_24_11_0 rfl (lv_at hl 0 rfl) ?_
  refine lv_if_lt (tgt := 9) hx hb d_24_11_1 (by decide) (fun c => absurd c (by decide)) (fun _ => ?_)
  refine lv_iload_n hx hb d_24_11_4 rfl (lv_at hl 0 rfl) ?_
  refine lv_iload_n hx hb d_24_11_5 rfl (lv_at hl 1 rfl) ?_
  refine lv_icmp_lt (tgt := 16) hx hb d_24_11_6 (by decide) (fun _ => ?_) (fun c => absurd (by decide) c)
  refine lv_iload_n hx hb d_24_11_16 rfl (lv_at hl 0 rfl) ?_
  have hP9 := hP.sub (ws' := []) [] rfl
  have hD9 := hD.sub (ws' := []) [] (by decide) rfl
  refine W.widen (k := 0) (n := 0) (Nat.le_of_ble_eq_true rfl) (Nat.le_of_ble_eq_true rfl) ?_
  exact W.iret (v := 0) hx hb hr (fun t ht hW => ⟨⟨0, (), rfl, rfl, by rw [ht]; exact hP9, va_K.moved hW.alike hK, hD9⟩, hS.F ht⟩) hS.2.2 d_24_11_17
abbrev Q_Preconditions_checkIndex_21 (D : va_G) (ca : Nat → ClassId) (r0 : Nat) (A : Nat → Prop) : Array Value → State → Outcome → State → Prop := va_Qi (S := Unit) (fun (r : Int32) (u : Unit) => r = 0) (fun u => gB D ca A []) A
set_option maxHeartbeats 8000000 in
set_option maxRecDepth 100000 in
theorem c_Preconditions_checkIndex_21 (l : Launch) (D : va_G) (ca : Nat → ClassId) (ad av : Nat → Nat) (sz : Nat) (r0 : Nat)  : Met l ({ cls := "jdk/internal/util/Preconditions", name := "checkIndex", desc := "(IILjava/util/function/BiFunction;)I" } : Jvm.MethodName) (Cond.code ({ cls := "jdk/internal/util/Preconditions", name := "checkIndex", desc := "(IILjava/util/function/BiFunction;)I" } : Jvm.MethodName) prog_24_method_11_code 3 (Option.some Jvm.ClassFile.FieldType.int) :: wAll) ({ frames := 0, cells := 0, slots := 0, locals := 0 } : Room) (va_Pc [.int 0, .int 5, .ref r0] (gPre D ca ad av [] sz)) (Q_Preconditions_checkIndex_21 D ca r0 (va_A [] sz)) 0 0 (va_A [] sz) := by
  refine gMet (Qc := Q_Preconditions_checkIndex_21 D ca r0) (lv := [(0, .int 0), (1, .int 5), (2, .ref r0)]) (by decide) (Nat.le_of_ble_eq_true rfl) rfl (fun A p e s m below meth c ls hx hb hr hml hown hts hlk hnm hl hP hK hD hS hA hX => ?_)
  have hown : s.vm.findClass "jdk/internal/util/Preconditions" = some m.cls := hown
  have hnm : meth.name = "checkIndex" := hnm
  refine lv_iload_n hx hb d_24_11_0 rfl (lv_at hl 0 rfl) ?_
  refine lv_if_lt (tgt := 9) hx hb d_24_11_1 (by decide) (fun c => absurd c (by decide)) (fun _ => ?_)
  refine lv_iload_n hx hb d_24_11_4 rfl (lv_at hl 0 rfl) ?_
  refine lv_iload_n hx hb d_24_11_5 rfl (lv_at hl 1 rfl) ?_
  refine lv_icmp_lt (tgt := 16) hx hb d_24_11_6 (by decide) (fun _ => ?_) (fun c => absurd (by decide) c)
  refine lv_iload_n hx hb d_24_11_16 rfl (lv_at hl 0 rfl) ?_
  have hP9 := hP.sub (ws' := []) [] rfl
  have hD9 := hD.sub (ws' := []) [] (by decide) rfl
  refine W.widen (k := 0) (n := 0) (Nat.le_of_ble_eq_true rfl) (Nat.le_of_ble_eq_true rfl) ?_
  exact W.iret (v := 0) hx hb hr (fun t ht hW => ⟨⟨0, (), rfl, rfl, by rw [ht]; exact hP9, va_K.moved hW.alike hK, hD9⟩, hS.F ht⟩) hS.2.2 d_24_11_17
abbrev Q_String_checkIndex_10 (D : va_G) (ca : Nat → ClassId)  (A : Nat → Prop) : Array Value → State → Outcome → State → Prop := va_Qv (S := Unit) (fun (u : Unit) => True) (fun u => gB D ca A []) A
set_option maxHeartbeats 8000000 in
set_option maxRecDepth 100000 in
theorem c_String_checkIndex_10 (l : Launch) (D : va_G) (ca : Nat → ClassId) (ad av : Nat → Nat) (sz : Nat)   : Met l ({ cls := "java/lang/String", name := "checkIndex", desc := "(II)V" } : Jvm.MethodName) (Cond.code ({ cls := "java/lang/String", name := "checkIndex", desc := "(II)V" } : Jvm.MethodName) prog_21_method_155_code 2 (Option.none : Option Jvm.ClassFile.FieldType) :: wAll) ({ frames := 1, cells := 0, slots := 0, locals := 22 } : Room) (va_Pc [.int 0, .int 5] (gPre D ca ad av [] sz)) (Q_String_checkIndex_10 D ca  (va_A [] sz)) 0 0 (va_A [] sz) := by
  refine gMet (Qc := Q_String_checkIndex_10 D ca ) (lv := [(0, .int 0), (1, .int 5)]) (by decide) (Nat.le_of_ble_eq_true rfl) rfl (fun A p e s m below meth c ls hx hb hr hml hown hts hlk hnm hl hP hK hD hS hA hX => ?_)
  have hown : s.vm.findClass "java/lang/String" = some m.cls := hown
  have hnm : meth.name = "checkIndex" := hnm
  refine lv_iload_n hx hb d_21_155_0 rfl (lv_at hl 0 rfl) ?_
  refine lv_iload_n hx hb d_21_155_1 rfl (lv_at hl 1 rfl) ?_
  rcases hX.2.2.2.2.2 with hz1 | ⟨tz1, hz1⟩
  · refine va_gets hx hb hz1 hS hown (hts _ k_3_120) (fun _ h => h) d_21_155_2 ?_
    have hFc2 := va_free (wc := []) hD hS hA [] rfl
    refine va_calli (va_runS (As := [.int 0, .int 5, .null]) (rest := []) ⟨hx, hb, hml, hown, hts⟩ (c_Preconditions_checkIndex_20 l D ca ad av s.heap.size  ) (va_cwS 3 hts (gdS k_7_143 k_7_144 k_1_13 k_7_145) rfl rfl rfl (by decide +kernel) ⟨Nat.le_of_ble_eq_true rfl, Nat.le_of_ble_eq_true rfl⟩) (gPS hP hD hK hS hA hX [] (by decide) rfl [.int 0, .int 5, .null]) rfl rfl hl.1 rfl (lv_room (Nat.le_of_ble_eq_true rfl)) d_21_155_5 ⟨Nat.le_of_ble_eq_true rfl, Nat.le_of_ble_eq_true rfl⟩) hS (fun q _ h => hFc2 q h) hFc2 (fun r2 u2 t2 H2 locs2 ht2 hvm2 hw2 hB2 hz2 hk2 hS2 => ?_)
    have hr2 := hw2
    obtain ⟨hP2, hD2⟩ := gJoin (wr := []) (w1 := []) hP hD [] [] rfl rfl (by decide) (by decide) hk2 hFc2 ht2 hB2
    have hP2 : va_P D cls [] H2 := hP2
    have hD2 : va_D A [] := hD2
    refine W.widen (k := 0) (n := 0) (Nat.le_of_ble_eq_true rfl) (Nat.le_of_ble_eq_true rfl) ?_
    subst hr2
    refine lv_pop hx hb d_21_155_8 rfl ?_
    have hP9 := hP2.sub (ws' := []) [] rfl
    have hD9 := hD2.sub (ws' := []) [] (by decide) rfl
    refine W.widen (k := 0) (n := 0) (Nat.le_of_ble_eq_true rfl) (Nat.le_of_ble_eq_true rfl) ?_
    exact W.vret hx hb hr (fun t ht hW => ⟨⟨(), rfl, trivial, by rw [ht]; exact hP9, va_K.moved hW.alike hK, hD9⟩, hS2.F ht⟩) hS2.2.2 d_21_155_9
  · refine va_gets hx hb hz1 hS hown (hts _ k_3_120) (fun _ h => h) d_21_155_2 ?_
    have hFc3 := va_free (wc := []) hD hS hA [] rfl
    refine va_calli (va_runS (As := [.int 0, .int 5, .ref tz1]) (rest := []) ⟨hx, hb, hml, hown, hts⟩ (c_Preconditions_checkIndex_21 l D ca ad av s.heap.size tz1 ) (va_cwS 3 hts (gdS k_7_143 k_7_144 k_1_13 k_7_145) rfl rfl rfl (by decide +kernel) ⟨Nat.le_of_ble_eq_true rfl, Nat.le_of_ble_eq_true rfl⟩) (gPS hP hD hK hS hA hX [] (by decide) rfl [.int 0, .int 5, .ref tz1]) rfl rfl hl.1 rfl (lv_room (Nat.le_of_ble_eq_true rfl)) d_21_155_5 ⟨Nat.le_of_ble_eq_true rfl, Nat.le_of_ble_eq_true rfl⟩) hS (fun q _ h => hFc3 q h) hFc3 (fun r3 u3 t3 H3 locs3 ht3 hvm3 hw3 hB3 hz3 hk3 hS3 => ?_)
    have hr3 := hw3
    obtain ⟨hP3, hD3⟩ := gJoin (wr := []) (w1 := []) hP hD [] [] rfl rfl (by decide) (by decide) hk3 hFc3 ht3 hB3
    have hP3 : va_P D cls [] H3 := hP3
    have hD3 : va_D A [] := hD3
    refine W.widen (k := 0) (n := 0) (Nat.le_of_ble_eq_true rfl) (Nat.le_of_ble_eq_true rfl) ?_
    subst hr3
    refine lv_pop hx hb d_21_155_8 rfl ?_
    have hP9 := hP3.sub (ws' := []) [] rfl
    have hD9 := hD3.sub (ws' := []) [] (by decide) rfl
    refine W.widen (k := 0) (n := 0) (Nat.le_of_ble_eq_true rfl) (Nat.le_of_ble_eq_true rfl) ?_
    exact W.vret hx hb hr (fun t ht hW => ⟨⟨(), rfl, trivial, by rw [ht]; exact hP9, va_K.moved hW.alike hK, hD9⟩, hS3.F ht⟩) hS3.2.2 d_21_155_9
abbrev Q_StringLatin1_charAt_14 (D : va_G) (ca : Nat → ClassId)  (A : Nat → Prop) : Array Value → State → Outcome → State → Prop := va_Qi (S := Unit) (fun (r : Int32) (u : Unit) => r = 116) (fun u => gB D ca A []) A
set_option maxHeartbeats 8000000 in
set_option maxRecDepth 100000 in
theorem c_StringLatin1_charAt_14 (l : Launch) (D : va_G) (ca : Nat → ClassId) (ad av : Nat → Nat) (sz : Nat)   : Met l ({ cls := "java/lang/StringLatin1", name := "charAt", desc := "([BI)C" } : Jvm.MethodName) (Cond.code ({ cls := "java/lang/StringLatin1", name := "charAt", desc := "([BI)C" } : Jvm.MethodName) prog_22_method_2_code 2 (Option.some Jvm.ClassFile.FieldType.char) :: wAll) ({ frames := 2, cells := 0, slots := 0, locals := 43 } : Room) (va_Pc [.ref (av 4), .int 0] (gPre D ca ad av [] sz)) (Q_StringLatin1_charAt_14 D ca  (va_A [] sz)) 0 0 (va_A [] sz) := by
  refine gMet (Qc := Q_StringLatin1_charAt_14 D ca ) (lv := [(0, .ref (av 4)), (1, .int 0)]) (by decide) (Nat.le_of_ble_eq_true rfl) rfl (fun A p e s m below meth c ls hx hb hr hml hown hts hlk hnm hl hP hK hD hS hA hX => ?_)
  have hown : s.vm.findClass "java/lang/StringLatin1" = some m.cls := hown
  have hnm : meth.name = "charAt" := hnm
  refine lv_iload_n hx hb d_22_2_0 rfl (lv_at hl 1 rfl) ?_
  refine lv_aload_n hx hb d_22_2_1 rfl (lv_at hl 0 rfl) ?_
  refine va_tlen (v := 5) hx hb ((hX.2.2.2.2.1 4 _ rfl).2.1 0 (by decide)).2.2.2 hS (by decide) d_22_2_2 ?_
  have hFc1 := va_free (wc := []) hD hS hA [] rfl
  refine va_callv (va_runS (As := [.int 0, .int 5]) (rest := []) ⟨hx, hb, hml, hown, hts⟩ (c_String_checkIndex_10 l D ca ad av s.heap.size  ) (va_cwS 2 hts (gdS k_7_140 k_7_141 k_1_11 k_7_142) rfl rfl rfl (by decide +kernel) ⟨Nat.le_of_ble_eq_true rfl, Nat.le_of_ble_eq_true rfl⟩) (gPS hP hD hK hS hA hX [] (by decide) rfl [.int 0, .int 5]) rfl rfl hl.1 rfl (lv_room (Nat.le_of_ble_eq_true rfl)) d_22_2_3 ⟨Nat.le_of_ble_eq_true rfl, Nat.le_of_ble_eq_true rfl⟩) hS (fun q _ h => hFc1 q h) hFc1 (fun u1 t1 H1 locs1 ht1 hvm1 hw1 hB1 hz1 hk1 hS1 => ?_)
  obtain ⟨hP1, hD1⟩ := gJoin (wr := []) (w1 := []) hP hD [] [] rfl rfl (by decide) (by decide) hk1 hFc1 ht1 hB1
  have hP1 : va_P D cls [] H1 := hP1
  have hD1 : va_D A [] := hD1
  refine W.widen (k := 0) (n := 0) (Nat.le_of_ble_eq_true rfl) (Nat.le_of_ble_eq_true rfl) ?_
  refine lv_aload_n hx hb d_22_2_6 rfl (lv_at hl 0 rfl) ?_
  refine lv_iload_n hx hb d_22_2_7 rfl (lv_at hl 1 rfl) ?_
  refine va_tb (v := .int 116) hx hb ((hX.2.2.2.2.1 4 _ rfl).2.1 0 (by decide)).2.2.2 hS1 (vinC (by decide)) rfl d_22_2_8 ?_
  refine lv_sipush (v := 255) hx hb d_22_2_9 (by decide) ?_
  refine lv_iand hx hb d_22_2_12 ?_
  refine lv_topi (fun y2 ey2 => ?_)
  obtain rfl : y2 = 116 := ey2.trans (by decide)
  refine lv_i2c hx hb d_22_2_13 rfl ?_
  refine lv_topi (fun y3 ey3 => ?_)
  obtain rfl : y3 = 116 := ey3.trans (by decide)
  have hP9 := hP1.sub (ws' := []) [] rfl
  have hD9 := hD1.sub (ws' := []) [] (by decide) rfl
  refine W.widen (k := 0) (n := 0) (Nat.le_of_ble_eq_true rfl) (Nat.le_of_ble_eq_true rfl) ?_
  exact W.zret (v := 116) hx hb hr rfl (fun t ht hW => ⟨⟨116, (), rfl, rfl, by rw [ht]; exact hP9, va_K.moved hW.alike hK, hD9⟩, hS1.F ht⟩) hS1.2.2 d_22_2_14
abbrev Q_String_charAt_14 (D : va_G) (ca : Nat → ClassId)  (A : Nat → Prop) : Array Value → State → Outcome → State → Prop := va_Qi (S := Unit) (fun (r : Int32) (u : Unit) => r = 116) (fun u => gB D ca A []) A
set_option maxHeartbeats 8000000 in
set_option maxRecDepth 100000 in
theorem c_String_charAt_14 (l : Launch) (D : va_G) (ca : Nat → ClassId) (ad av : Nat → Nat) (sz : Nat)   : Met l ({ cls := "java/lang/String", name := "charAt", desc := "(I)C" } : Jvm.MethodName) (Cond.code ({ cls := "java/lang/String", name := "charAt", desc := "(I)C" } : Jvm.MethodName) prog_21_method_56_code 2 (Option.some Jvm.ClassFile.FieldType.char) :: wAll) ({ frames := 3, cells := 0, slots := 0, locals := 64 } : Room) (va_Pc [.ref (ad 4), .int 0] (gPre D ca ad av [] sz)) (Q_String_charAt_14 D ca  (va_A [] sz)) 0 0 (va_A [] sz) := by
  refine gMet (Qc := Q_String_charAt_14 D ca ) (lv := [(0, .ref (ad 4)), (1, .int 0)]) (by decide) (Nat.le_of_ble_eq_true rfl) rfl (fun A p e s m below meth c ls hx hb hr hml hown hts hlk hnm hl hP hK hD hS hA hX => ?_)
  have hown : s.vm.findClass "java/lang/String" = some m.cls := hown
  have hnm : meth.name = "charAt" := hnm
  refine lv_aload_n hx hb d_21_56_0 rfl (lv_at hl 0 rfl) ?_
  have hFc1 := va_free (wc := []) hD hS hA [] rfl
  refine va_calli (va_runV (As := []) (rest := []) ⟨hx, hb, hml, hown, hts⟩ (c_String_isLatin1_3 l D ca ad av s.heap.size  ) (cwV 0 hts (gdV k_3_75 k_3_76 k_3_77 k_1_11 k_3_78) rfl rfl rfl (by decide +kernel) ⟨Nat.le_of_ble_eq_true rfl, Nat.le_of_ble_eq_true rfl⟩) ⟨gBlind, vk_recv (i := 0) (hX.2.2.2.2.1 4 _ rfl).2 (by decide) hS, gAt hP hD hK hS hA hX [] (by decide) rfl [.ref (ad 4)]⟩ rfl rfl hl.1 rfl (lv_room (Nat.le_of_ble_eq_true rfl)) d_21_56_1 ⟨Nat.le_of_ble_eq_true rfl, Nat.le_of_ble_eq_true rfl⟩) hS (fun q _ h => hFc1 q h) hFc1 (fun r1 u1 t1 H1 locs1 ht1 hvm1 hw1 hB1 hz1 hk1 hS1 => ?_)
  have hr1 := hw1
  obtain ⟨hP1, hD1⟩ := gJoin (wr := []) (w1 := []) hP hD [] [] rfl rfl (by decide) (by decide) hk1 hFc1 ht1 hB1
  have hP1 : va_P D cls [] H1 := hP1
  have hD1 : va_D A [] := hD1
  refine W.widen (k := 0) (n := 0) (Nat.le_of_ble_eq_true rfl) (Nat.le_of_ble_eq_true rfl) ?_
  subst hr1
  refine lv_if_eq (tgt := 16) hx hb d_21_56_4 (by decide) (fun c => absurd c (by decide)) (fun _ => ?_)
  refine lv_aload_n hx hb d_21_56_7 rfl (lv_at hl 0 rfl) ?_
  refine vk_getf hx hb ((hX.2.2.2.2.1 4 _ rfl).2.1 0 (by decide)).2.2.1 hS1 hown (hts _ k_15_170) (fun _ h => h) d_21_56_8 ?_
  refine W.eq (g2 := F0 m 11 ls [.ref (av 4)]) rfl ?_
  refine lv_iload_n hx hb d_21_56_11 rfl (lv_at hl 1 rfl) ?_
  have hFc2 := va_free (wc := []) hD1 hS1 hA [] rfl
  refine va_calli (va_runS (As := [.ref (av 4), .int 0]) (rest := []) ⟨hx, hb, hml, hown, hts⟩ (c_StringLatin1_charAt_14 l D ca ad av H1.size  ) (va_cwS 2 hts (gdS k_7_137 k_7_138 k_1_12 k_7_139) rfl rfl rfl (by decide +kernel) ⟨Nat.le_of_ble_eq_true rfl, Nat.le_of_ble_eq_true rfl⟩) (gPS hP1 hD1 hK hS1 hA hX [] (by decide) rfl [.ref (av 4), .int 0]) rfl rfl hl.1 rfl (lv_room (Nat.le_of_ble_eq_true rfl)) d_21_56_12 ⟨Nat.le_of_ble_eq_true rfl, Nat.le_of_ble_eq_true rfl⟩) hS1 (fun q _ h => hFc2 q h) hFc2 (fun r2 u2 t2 H2 locs2 ht2 hvm2 hw2 hB2 hz2 hk2 hS2 => ?_)
  have hr2 := hw2
  obtain ⟨hP2, hD2⟩ := gJoin (wr := []) (w1 := []) hP1 hD1 [] [] rfl rfl (by decide) (by decide) hk2 hFc2 ht2 hB2
  have hP2 : va_P D cls [] H2 := hP2
  have hD2 : va_D A [] := hD2
  refine W.widen (k := 0) (n := 0) (Nat.le_of_ble_eq_true rfl) (Nat.le_of_ble_eq_true rfl) ?_
  subst hr2
  have hP9 := hP2.sub (ws' := []) [] rfl
  have hD9 := hD2.sub (ws' := []) [] (by decide) rfl
  refine W.widen (k := 0) (n := 0) (Nat.le_of_ble_eq_true rfl) (Nat.le_of_ble_eq_true rfl) ?_
  exact W.zret (v := 116) hx hb hr rfl (fun t ht hW => ⟨⟨116, (), rfl, rfl, by rw [ht]; exact hP9, va_K.moved hW.alike hK, hD9⟩, hS2.F ht⟩) hS2.2.2 d_21_56_15
abbrev Q_Preconditions_checkIndex_22 (D : va_G) (ca : Nat → ClassId)  (A : Nat → Prop) : Array Value → State → Outcome → State → Prop := va_Qi (S := Unit) (fun (r : Int32) (u : Unit) => r = 1) (fun u => gB D ca A []) A
set_option maxHeartbeats 8000000 in
set_option maxRecDepth 100000 in
theorem c_Preconditions_checkIndex_22 (l : Launch) (D : va_G) (ca : Nat → ClassId) (ad av : Nat → Nat) (sz : Nat)   : Met l ({ cls := "jdk/internal/util/Preconditions", name := "checkIndex", desc := "(IILjava/util/function/BiFunction;)I" } : Jvm.MethodName) (Cond.code ({ cls := "jdk/internal/util/Preconditions", name := "checkIndex", desc := "(IILjava/util/function/BiFunction;)I" } : Jvm.MethodName) prog_24_method_11_code 3 (Option.some Jvm.ClassFile.FieldType.int) :: wAll) ({ frames := 0, cells := 0, slots := 0, locals := 0 } : Room) (va_Pc [.int 1, .int 5, .null] (gPre D ca ad av [] sz)) (Q_Preconditions_checkIndex_22 D ca  (va_A [] sz)) 0 0 (va_A [] sz) := by
  refine gMet (Qc := Q_Preconditions_checkIndex_22 D ca ) (lv := [(0, .int 1), (1, .int 5), (2, .null)]) (by decide) (Nat.le_of_ble_eq_true rfl) rfl (fun A p e s m below meth c ls hx hb hr hml hown hts hlk hnm hl hP hK hD hS hA hX => ?_)
  have hown : s.vm.findClass "jdk/internal/util/Preconditions" = some m.cls := hown
  have hnm : meth.name = "checkIndex" := hnm
  refine lv_iload_n hx hb d_24_11_0 rfl (lv_at hl 0 rfl) ?_
  refine lv_if_lt (tgt := 9) hx hb d_24_11_1 (by decide) (fun c => absurd c (by decide)) (fun _ => ?_)
  refine lv_iload_n hx hb d_24_11_4 rfl (lv_at hl 0 rfl) ?_
  refine lv_iload_n hx hb d_24_11_5 rfl (lv_at hl 1 rfl) ?_
  refine lv_icmp_lt (tgt := 16) hx hb d_24_11_6 (by decide) (fun _ => ?_) (fun c => absurd (by decide) c)
  refine lv_iload_n hx hb d_24_11_16 rfl (lv_at hl 0 rfl) ?_
  have hP9 := hP.sub (ws' := []) [] rfl
  have hD9 := hD.sub (ws' := []) [] (by decide) rfl
  refine W.widen (k := 0) (n := 0) (Nat.le_of_ble_eq_true rfl) (Nat.le_of_ble_eq_true rfl) ?_
  exact W.iret (v := 1) hx hb hr (fun t ht hW => ⟨⟨1, (), rfl, rfl, by rw [ht]; exact hP9, va_K.moved hW.alike hK, hD9⟩, hS.F ht⟩) hS.2.2 d_24_11_17
abbrev Q_Preconditions_checkIndex_23 (D : va_G) (ca : Nat → ClassId) (r0 : Nat) (A : Nat → Prop) : Array Value → State → Outcome → State → Prop := va_Qi (S := Unit) (fun (r : Int32) (u : Unit) => r = 1) (fun u => gB D ca A []) A
set_option maxHeartbeats 8000000 in
set_option maxRecDepth 100000 in
theorem c_Preconditions_checkIndex_23 (l : Launch) (D : va_G) (ca : Nat → ClassId) (ad av : Nat → Nat) (sz : Nat) (r0 : Nat)  : Met l ({ cls := "jdk/internal/util/Preconditions", name := "checkIndex", desc := "(IILjava/util/function/BiFunction;)I" } : Jvm.MethodName) (Cond.code ({ cls := "jdk/internal/util/Preconditions", name := "checkIndex", desc := "(IILjava/util/function/BiFunction;)I" } : Jvm.MethodName) prog_24_method_11_code 3 (Option.some Jvm.ClassFile.FieldType.int) :: wAll) ({ frames := 0, cells := 0, slots := 0, locals := 0 } : Room) (va_Pc [.int 1, .int 5, .ref r0] (gPre D ca ad av [] sz)) (Q_Preconditions_checkIndex_23 D ca r0 (va_A [] sz)) 0 0 (va_A [] sz) := by
  refine gMet (Qc := Q_Preconditions_checkIndex_23 D ca r0) (lv := [(0, .int 1), (1, .int 5), (2, .ref r0)]) (by decide) (Nat.le_of_ble_eq_true rfl) rfl (fun A p e s m below meth c ls hx hb hr hml hown hts hlk hnm hl hP hK hD hS hA hX => ?_)
  have hown : s.vm.findClass "jdk/internal/util/Preconditions" = some m.cls := hown
  have hnm : meth.name = "checkIndex" := hnm
  refine lv_iload_n hx hb d_24_11_0 rfl (lv_at hl 0 rfl) ?_
  refine lv_if_lt (tgt := 9) hx hb d_24_11_1 (by decide) (fun c => absurd c (by decide)) (fun _ => ?_)
  refine lv_iload_n hx hb d_24_11_4 rfl (lv_at hl 0 rfl) ?_
  refine lv_iload_n hx hb d_24_11_5 rfl (lv_at hl 1 rfl) ?_
  refine lv_icmp_lt (tgt := 16) hx hb d_24_11_6 (by decide) (fun _ => ?_) (fun c => absurd (by decide) c)
  refine lv_iload_n hx hb d_24_11_16 rfl (lv_at hl 0 rfl) ?_
  have hP9 := hP.sub (ws' := []) [] rfl
  have hD9 := hD.sub (ws' := []) [] (by decide) rfl
  refine W.widen (k := 0) (n := 0) (Nat.le_of_ble_eq_true rfl) (Nat.le_of_ble_eq_true rfl) ?_
  exact W.iret (v := 1) hx hb hr (fun t ht hW => ⟨⟨1, (), rfl, rfl, by rw [ht]; exact hP9, va_K.moved hW.alike hK, hD9⟩, hS.F ht⟩) hS.2.2 d_24_11_17
abbrev Q_String_checkIndex_11 (D : va_G) (ca : Nat → ClassId)  (A : Nat → Prop) : Array Value → State → Outcome → State → Prop := va_Qv (S := Unit) (fun (u : Unit) => True) (fun u => gB D ca A []) A
set_option maxHeartbeats 8000000 in
set_option maxRecDepth 100000 in
theorem c_String_checkIndex_11 (l : Launch) (D : va_G) (ca : Nat → ClassId) (ad av : Nat → Nat) (sz : Nat)   : Met l ({ cls := "java/lang/String", name := "checkIndex", desc := "(II)V" } : Jvm.MethodName) (Cond.code ({ cls := "java/lang/String", name := "checkIndex", desc := "(II)V" } : Jvm.MethodName) prog_21_method_155_code 2 (Option.none : Option Jvm.ClassFile.FieldType) :: wAll) ({ frames := 1, cells := 0, slots := 0, locals := 22 } : Room) (va_Pc [.int 1, .int 5] (gPre D ca ad av [] sz)) (Q_String_checkIndex_11 D ca  (va_A [] sz)) 0 0 (va_A [] sz) := by
  refine gMet (Qc := Q_String_checkIndex_11 D ca ) (lv := [(0, .int 1), (1, .int 5)]) (by decide) (Nat.le_of_ble_eq_true rfl) rfl (fun A p e s m below meth c ls hx hb hr hml hown hts hlk hnm hl hP hK hD hS hA hX => ?_)
  have hown : s.vm.findClass "java/lang/String" = some m.cls := hown
  have hnm : meth.name = "checkIndex" := hnm
  refine lv_iload_n hx hb d_21_155_0 rfl (lv_at hl 0 rfl) ?_
  refine lv_iload_n hx hb d_21_155_1 rfl (lv_at hl 1 rfl) ?_
  rcases hX.2.2.2.2.2 with hz1 | ⟨tz1, hz1⟩
  · refine va_gets hx hb hz1 hS hown (hts _ k_3_120) (fun _ h => h) d_21_155_2 ?_
    have hFc2 := va_free (wc := []) hD hS hA [] rfl
    refine va_calli (va_runS (As := [.int 1, .int 5, .null]) (rest := []) ⟨hx, hb, hml, hown, hts⟩ (c_Preconditions_checkIndex_22 l D ca ad av s.heap.size  ) (va_cwS 3 hts (gdS k_7_143 k_7_144 k_1_13 k_7_145) rfl rfl rfl (by decide +kernel) ⟨Nat.le_of_ble_eq_true rfl, Nat.le_of_ble_eq_true rfl⟩) (gPS hP hD hK hS hA hX [] (by decide) rfl [.int 1, .int 5, .null]) rfl rfl hl.1 rfl (lv_room (Nat.le_of_ble_eq_true rfl)) d_21_155_5 ⟨Nat.le_of_ble_eq_true rfl, Nat.le_of_ble_eq_true rfl⟩) hS (fun q _ h => hFc2 q h) hFc2 (fun r2 u2 t2 H2 locs2 ht2 hvm2 hw2 hB2 hz2 hk2 hS2 => ?_)
    have hr2 := hw2
    obtain ⟨hP2, hD2⟩ := gJoin (wr := []) (w1 := []) hP hD [] [] rfl rfl (by decide) (by decide) hk2 hFc2 ht2 hB2
    have hP2 : va_P D cls [] H2 := hP2
    have hD2 : va_D A [] := hD2
    refine W.widen (k := 0) (n := 0) (Nat.le_of_ble_eq_true rfl) (Nat.le_of_ble_eq_true rfl) ?_
    subst hr2
    refine lv_pop hx hb d_21_155_8 rfl ?_
    have hP9 := hP2.sub (ws' := []) [] rfl
    have hD9 := hD2.sub (ws' := []) [] (by decide) rfl
    refine W.widen (k := 0) (n := 0) (Nat.le_of_ble_eq_true rfl) (Nat.le_of_ble_eq_true rfl) ?_
    exact W.vret hx hb hr (fun t ht hW => ⟨⟨(), rfl, trivial, by rw [ht]; exact hP9, va_K.moved hW.alike hK, hD9⟩, hS2.F ht⟩) hS2.2.2 d_21_155_9
  · refine va_gets hx hb hz1 hS hown (hts _ k_3_120) (fun _ h => h) d_21_155_2 ?_
    have hFc3 := va_free (wc := []) hD hS hA [] rfl
    refine va_calli (va_runS (As := [.int 1, .int 5, .ref tz1]) (rest := []) ⟨hx, hb, hml, hown, hts⟩ (c_Preconditions_checkIndex_23 l D ca ad av s.heap.size tz1 ) (va_cwS 3 hts (gdS k_7_143 k_7_144 k_1_13 k_7_145) rfl rfl rfl (by decide +kernel) ⟨Nat.le_of_ble_eq_true rfl, Nat.le_of_ble_eq_true rfl⟩) (gPS hP hD hK hS hA hX [] (by decide) rfl [.int 1, .int 5, .ref tz1]) rfl rfl hl.1 rfl (lv_room (Nat.le_of_ble_eq_true rfl)) d_21_155_5 ⟨Nat.le_of_ble_eq_true rfl, Nat.le_of_ble_eq_true rfl⟩) hS (fun q _ h => hFc3 q h) hFc3 (fun r3 u3 t3 H3 locs3 ht3 hvm3 hw3 hB3 hz3 hk3 hS3 => ?_)
    have hr3 := hw3
    obtain ⟨hP3, hD3⟩ := gJoin (wr := []) (w1 := []) hP hD [] [] rfl rfl (by decide) (by decide) hk3 hFc3 ht3 hB3
    have hP3 : va_P D cls [] H3 := hP3
    have hD3 : va_D A [] := hD3
    refine W.widen (k := 0) (n := 0) (Nat.le_of_ble_eq_true rfl) (Nat.le_of_ble_eq_true rfl) ?_
    subst hr3
    refine lv_pop hx hb d_21_155_8 rfl ?_
    have hP9 := hP3.sub (ws' := []) [] rfl
    have hD9 := hD3.sub (ws' := []) [] (by decide) rfl
    refine W.widen (k := 0) (n := 0) (Nat.le_of_ble_eq_true rfl) (Nat.le_of_ble_eq_true rfl) ?_
    exact W.vret hx hb hr (fun t ht hW => ⟨⟨(), rfl, trivial, by rw [ht]; exact hP9, va_K.moved hW.alike hK, hD9⟩, hS3.F ht⟩) hS3.2.2 d_21_155_9
abbrev Q_StringLatin1_charAt_15 (D : va_G) (ca : Nat → ClassId)  (A : Nat → Prop) : Array Value → State → Outcome → State → Prop := va_Qi (S := Unit) (fun (r : Int32) (u : Unit) => r = 101) (fun u => gB D ca A []) A
set_option maxHeartbeats 8000000 in
set_option maxRecDepth 100000 in
theorem c_StringLatin1_charAt_15 (l : Launch) (D : va_G) (ca : Nat → ClassId) (ad av : Nat → Nat) (sz : Nat)   : Met l ({ cls := "java/lang/StringLatin1", name := "charAt", desc := "([BI)C" } : Jvm.MethodName) (Cond.code ({ cls := "java/lang/StringLatin1", name := "charAt", desc := "([BI)C" } : Jvm.MethodName) prog_22_method_2_code 2 (Option.some Jvm.ClassFile.FieldType.char) :: wAll) ({ frames := 2, cells := 0, slots := 0, locals := 43 } : Room) (va_Pc [.ref (av 4), .int 1] (gPre D ca ad av [] sz)) (Q_StringLatin1_charAt_15 D ca  (va_A [] sz)) 0 0 (va_A [] sz) := by
  refine gMet (Qc := Q_StringLatin1_charAt_15 D ca ) (lv := [(0, .ref (av 4)), (1, .int 1)]) (by decide) (Nat.le_of_ble_eq_true rfl) rfl (fun A p e s m below meth c ls hx hb hr hml hown hts hlk hnm hl hP hK hD hS hA hX => ?_)
  have hown : s.vm.findClass "java/lang/StringLatin1" = some m.cls := hown
  have hnm : meth.name = "charAt" := hnm
  refine lv_iload_n hx hb d_22_2_0 rfl (lv_at hl 1 rfl) ?_
  refine lv_aload_n hx hb d_22_2_1 rfl (lv_at hl 0 rfl) ?_
  refine va_tlen (v := 5) hx hb ((hX.2.2.2.2.1 4 _ rfl).2.1 0 (by decide)).2.2.2 hS (by decide) d_22_2_2 ?_
  have hFc1 := va_free (wc := []) hD hS hA [] rfl
  refine va_callv (va_runS (As := [.int 1, .int 5]) (rest := []) ⟨hx, hb, hml, hown, hts⟩ (c_String_checkIndex_11 l D ca ad av s.heap.size  ) (va_cwS 2 hts (gdS k_7_140 k_7_141 k_1_11 k_7_142) rfl rfl rfl (by decide +kernel) ⟨Nat.le_of_ble_eq_true rfl, Nat.le_of_ble_eq_true rfl⟩) (gPS hP hD hK hS hA hX [] (by decide) rfl [.int 1, .int 5]) rfl rfl hl.1 rfl (lv_room (Nat.le_of_ble_eq_true rfl)) d_22_2_3 ⟨Nat.le_of_ble_eq_true rfl, Nat.le_of_ble_eq_true rfl⟩) hS (fun q _ h => hFc1 q h) hFc1 (fun u1 t1 H1 locs1 ht1 hvm1 hw1 hB1 hz1 hk1 hS1 => ?_)
  obtain ⟨hP1, hD1⟩ := gJoin (wr := []) (w1 := []) hP hD [] [] rfl rfl (by decide) (by decide) hk1 hFc1 ht1 hB1
  have hP1 : va_P D cls [] H1 := hP1
  have hD1 : va_D A [] := hD1
  refine W.widen (k := 0) (n := 0) (Nat.le_of_ble_eq_true rfl) (Nat.le_of_ble_eq_true rfl) ?_
  refine lv_aload_n hx hb d_22_2_6 rfl (lv_at hl 0 rfl) ?_
  refine lv_iload_n hx hb d_22_2_7 rfl (lv_at hl 1 rfl) ?_
  refine va_tb (v := .int 101) hx hb ((hX.2.2.2.2.1 4 _ rfl).2.1 0 (by decide)).2.2.2 hS1 (vinC (by decide)) rfl d_22_2_8 ?_
  refine lv_sipush (v := 255) hx hb d_22_2_9 (by decide) ?_
  refine lv_iand hx hb d_22_2_12 ?_
  refine lv_topi (fun y2 ey2 => ?_)
  obtain rfl : y2 = 101 := ey2.trans (by decide)
  refine lv_i2c hx hb d_22_2_13 rfl ?_
  refine lv_topi (fun y3 ey3 => ?_)
  obtain rfl : y3 = 101 := ey3.trans (by decide)
  have hP9 := hP1.sub (ws' := []) [] rfl
  have hD9 := hD1.sub (ws' := []) [] (by decide) rfl
  refine W.widen (k := 0) (n := 0) (Nat.le_of_ble_eq_true rfl) (Nat.le_of_ble_eq_true rfl) ?_
  exact W.zret (v := 101) hx hb hr rfl (fun t ht hW => ⟨⟨101, (), rfl, rfl, by rw [ht]; exact hP9, va_K.moved hW.alike hK, hD9⟩, hS1.F ht⟩) hS1.2.2 d_22_2_14
abbrev Q_String_charAt_15 (D : va_G) (ca : Nat → ClassId)  (A : Nat → Prop) : Array Value → State → Outcome → State → Prop := va_Qi (S := Unit) (fun (r : Int32) (u : Unit) => r = 101) (fun u => gB D ca A []) A
set_option maxHeartbeats 8000000 in
set_option maxRecDepth 100000 in
theorem c_String_charAt_15 (l : Launch) (D : va_G) (ca : Nat → ClassId) (ad av : Nat → Nat) (sz : Nat)   : Met l ({ cls := "java/lang/String", name := "charAt", desc := "(I)C" } : Jvm.MethodName) (Cond.code ({ cls := "java/lang/String", name := "charAt", desc := "(I)C" } : Jvm.MethodName) prog_21_method_56_code 2 (Option.some Jvm.ClassFile.FieldType.char) :: wAll) ({ frames := 3, cells := 0, slots := 0, locals := 64 } : Room) (va_Pc [.ref (ad 4), .int 1] (gPre D ca ad av [] sz)) (Q_String_charAt_15 D ca  (va_A [] sz)) 0 0 (va_A [] sz) := by
  refine gMet (Qc := Q_String_charAt_15 D ca ) (lv := [(0, .ref (ad 4)), (1, .int 1)]) (by decide) (Nat.le_of_ble_eq_true rfl) rfl (fun A p e s m below meth c ls hx hb hr hml hown hts hlk hnm hl hP hK hD hS hA hX => ?_)
  have hown : s.vm.findClass "java/lang/String" = some m.cls := hown
  have hnm : meth.name = "charAt" := hnm
  refine lv_aload_n hx hb d_21_56_0 rfl (lv_at hl 0 rfl) ?_
  have hFc1 := va_free (wc := []) hD hS hA [] rfl
  refine va_calli (va_runV (As := []) (rest := []) ⟨hx, hb, hml, hown, hts⟩ (c_String_isLatin1_3 l D ca ad av s.heap.size  ) (cwV 0 hts (gdV k_3_75 k_3_76 k_3_77 k_1_11 k_3_78) rfl rfl rfl (by decide +kernel) ⟨Nat.le_of_ble_eq_true rfl, Nat.le_of_ble_eq_true rfl⟩) ⟨gBlind, vk_recv (i := 0) (hX.2.2.2.2.1 4 _ rfl).2 (by decide) hS, gAt hP hD hK hS hA hX [] (by decide) rfl [.ref (ad 4)]⟩ rfl rfl hl.1 rfl (lv_room (Nat.le_of_ble_eq_true rfl)) d_21_56_1 ⟨Nat.le_of_ble_eq_true rfl, Nat.le_of_ble_eq_true rfl⟩) hS (fun q _ h => hFc1 q h) hFc1 (fun r1 u1 t1 H1 locs1 ht1 hvm1 hw1 hB1 hz1 hk1 hS1 => ?_)
  have hr1 := hw1
  obtain ⟨hP1, hD1⟩ := gJoin (wr := []) (w1 := []) hP hD [] [] rfl rfl (by decide) (by decide) hk1 hFc1 ht1 hB1
  have hP1 : va_P D cls [] H1 := hP1
  have hD1 : va_D A [] := hD1
  refine W.widen (k := 0) (n := 0) (Nat.le_of_ble_eq_true rfl) (Nat.le_of_ble_eq_true rfl) ?_
  subst hr1
  refine lv_if_eq (tgt := 16) hx hb d_21_56_4 (by decide) (fun c => absurd c (by decide)) (fun _ => ?_)
  refine lv_aload_n hx hb d_21_56_7 rfl (lv_at hl 0 rfl) ?_
  refine vk_getf hx hb ((hX.2.2.2.2.1 4 _ rfl).2.1 0 (by decide)).2.2.1 hS1 hown (hts _ k_15_170) (fun _ h => h) d_21_56_8 ?_
  refine W.eq (g2 := F0 m 11 ls [.ref (av 4)]) rfl ?_
  refine lv_iload_n hx hb d_21_56_11 rfl (lv_at hl 1 rfl) ?_
  have hFc2 := va_free (wc := []) hD1 hS1 hA [] rfl
  refine va_calli (va_runS (As := [.ref (av 4), .int 1]) (rest := []) ⟨hx, hb, hml, hown, hts⟩ (c_StringLatin1_charAt_15 l D ca ad av H1.size  ) (va_cwS 2 hts (gdS k_7_137 k_7_138 k_1_12 k_7_139) rfl rfl rfl (by decide +kernel) ⟨Nat.le_of_ble_eq_true rfl, Nat.le_of_ble_eq_true rfl⟩) (gPS hP1 hD1 hK hS1 hA hX [] (by decide) rfl [.ref (av 4), .int 1]) rfl rfl hl.1 rfl (lv_room (Nat.le_of_ble_eq_true rfl)) d_21_56_12 ⟨Nat.le_of_ble_eq_true rfl, Nat.le_of_ble_eq_true rfl⟩) hS1 (fun q _ h => hFc2 q h) hFc2 (fun r2 u2 t2 H2 locs2 ht2 hvm2 hw2 hB2 hz2 hk2 hS2 => ?_)
  have hr2 := hw2
  obtain ⟨hP2, hD2⟩ := gJoin (wr := []) (w1 := []) hP1 hD1 [] [] rfl rfl (by decide) (by decide) hk2 hFc2 ht2 hB2
  have hP2 : va_P D cls [] H2 := hP2
  have hD2 : va_D A [] := hD2
  refine W.widen (k := 0) (n := 0) (Nat.le_of_ble_eq_true rfl) (Nat.le_of_ble_eq_true rfl) ?_
  subst hr2
  have hP9 := hP2.sub (ws' := []) [] rfl
  have hD9 := hD2.sub (ws' := []) [] (by decide) rfl
  refine W.widen (k := 0) (n := 0) (Nat.le_of_ble_eq_true rfl) (Nat.le_of_ble_eq_true rfl) ?_
  exact W.zret (v := 101) hx hb hr rfl (fun t ht hW => ⟨⟨101, (), rfl, rfl, by rw [ht]; exact hP9, va_K.moved hW.alike hK, hD9⟩, hS2.F ht⟩) hS2.2.2 d_21_56_15
abbrev Q_Preconditions_checkIndex_24 (D : va_G) (ca : Nat → ClassId)  (A : Nat → Prop) : Array Value → State → Outcome → State → Prop := va_Qi (S := Unit) (fun (r : Int32) (u : Unit) => r = 2) (fun u => gB D ca A []) A
set_option maxHeartbeats 8000000 in
set_option maxRecDepth 100000 in
theorem c_Preconditions_checkIndex_24 (l : Launch) (D : va_G) (ca : Nat → ClassId) (ad av : Nat → Nat) (sz : Nat)   : Met l ({ cls := "jdk/internal/util/Preconditions", name := "checkIndex", desc := "(IILjava/util/function/BiFunction;)I" } : Jvm.MethodName) (Cond.code ({ cls := "jdk/internal/util/Preconditions", name := "checkIndex", desc := "(IILjava/util/function/BiFunction;)I" } : Jvm.MethodName) prog_24_method_11_code 3 (Option.some Jvm.ClassFile.FieldType.int) :: wAll) ({ frames := 0, cells := 0, slots := 0, locals := 0 } : Room) (va_Pc [.int 2, .int 5, .null] (gPre D ca ad av [] sz)) (Q_Preconditions_checkIndex_24 D ca  (va_A [] sz)) 0 0 (va_A [] sz) := by
  refine gMet (Qc := Q_Preconditions_checkIndex_24 D ca ) (lv := [(0, .int 2), (1, .int 5), (2, .null)]) (by decide) (Nat.le_of_ble_eq_true rfl) rfl (fun A p e s m below meth c ls hx hb hr hml hown hts hlk hnm hl hP hK hD hS hA hX => ?_)
  have hown : s.vm.findClass "jdk/internal/util/Preconditions" = some m.cls := hown
  have hnm : meth.name = "checkIndex" := hnm
  refine lv_iload_n hx hb d_24_11_0 rfl (lv_at hl 0 rfl) ?_
  refine lv_if_lt (tgt := 9) hx hb d_24_11_1 (by decide) (fun c => absurd c (by decide)) (fun _ => ?_)
  refine lv_iload_n hx hb d_24_11_4 rfl (lv_at hl 0 rfl) ?_
  refine lv_iload_n hx hb d_24_11_5 rfl (lv_at hl 1 rfl) ?_
  refine lv_icmp_lt (tgt := 16) hx hb d_24_11_6 (by decide) (fun _ => ?_) (fun c => absurd (by decide) c)
  refine lv_iload_n hx hb d_24_11_16 rfl (lv_at hl 0 rfl) ?_
  have hP9 := hP.sub (ws' := []) [] rfl
  have hD9 := hD.sub (ws' := []) [] (by decide) rfl
  refine W.widen (k := 0) (n := 0) (Nat.le_of_ble_eq_true rfl) (Nat.le_of_ble_eq_true rfl) ?_
  exact W.iret (v := 2) hx hb hr (fun t ht hW => ⟨⟨2, (), rfl, rfl, by rw [ht]; exact hP9, va_K.moved hW.alike hK, hD9⟩, hS.F ht⟩) hS.2.2 d_24_11_17
abbrev Q_Preconditions_checkIndex_25 (D : va_G) (ca : Nat → ClassId) (r0 : Nat) (A : Nat → Prop) : Array Value → State → Outcome → State → Prop := va_Qi (S := Unit) (fun (r : Int32) (u : Unit) => r = 2) (fun u => gB D ca A []) A
set_option maxHeartbeats 8000000 in
set_option maxRecDepth 100000 in
theorem c_Preconditions_checkIndex_25 (l : Launch) (D : va_G) (ca : Nat → ClassId) (ad av : Nat → Nat) (sz : Nat) (r0 : Nat)  : Met l ({ cls := "jdk/internal/util/Preconditions", name := "checkIndex", desc := "(IILjava/util/function/BiFunction;)I" } : Jvm.MethodName) (Cond.code ({ cls := "jdk/internal/util/Preconditions", name := "checkIndex", desc := "(IILjava/util/function/BiFunction;)I" } : Jvm.MethodName) prog_24_method_11_code 3 (Option.some Jvm.ClassFile.FieldType.int) :: wAll) ({ frames := 0, cells := 0, slots := 0, locals := 0 } : Room) (va_Pc [.int 2, .int 5, .ref r0] (gPre D ca ad av [] sz)) (Q_Preconditions_checkIndex_25 D ca r0 (va_A [] sz)) 0 0 (va_A [] sz) := by
  refine gMet (Qc := Q_Preconditions_checkIndex_25 D ca r0) (lv := [(0, .int 2), (1, .int 5), (2, .ref r0)]) (by decide) (Nat.le_of_ble_eq_true rfl) rfl (fun A p e s m below meth c ls hx hb hr hml hown hts hlk hnm hl hP hK hD hS hA hX => ?_)
  have hown : s.vm.findClass "jdk/internal/util/Preconditions" = some m.cls := hown
  have hnm : meth.name = "checkIndex" := hnm
  refine lv_iload_n hx hb d_24_11_0 rfl (lv_at hl 0 rfl) ?_
  refine lv_if_lt (tgt := 9) hx hb d_24_11_1 (by decide) (fun c => absurd c (by decide)) (fun _ => ?_)
  refine lv_iload_n hx hb d_24_11_4 rfl (lv_at hl 0 rfl) ?_
  refine lv_iload_n hx hb d_24_11_5 rfl (lv_at hl 1 rfl) ?_
  refine lv_icmp_lt (tgt := 16) hx hb d_24_11_6 (by decide) (fun _ => ?_) (fun c => absurd (by decide) c)
  refine lv_iload_n hx hb d_24_11_16 rfl (lv_at hl 0 rfl) ?_
  have hP9 := hP.sub (ws' := []) [] rfl
  have hD9 := hD.sub (ws' := []) [] (by decide) rfl
  refine W.widen (k := 0) (n := 0) (Nat.le_of_ble_eq_true rfl) (Nat.le_of_ble_eq_true rfl) ?_
  exact W.iret (v := 2) hx hb hr (fun t ht hW => ⟨⟨2, (), rfl, rfl, by rw [ht]; exact hP9, va_K.moved hW.alike hK, hD9⟩, hS.F ht⟩) hS.2.2 d_24_11_17
abbrev Q_String_checkIndex_12 (D : va_G) (ca : Nat → ClassId)  (A : Nat → Prop) : Array Value → State → Outcome → State → Prop := va_Qv (S := Unit) (fun (u : Unit) => True) (fun u => gB D ca A []) A
set_option maxHeartbeats 8000000 in
set_option maxRecDepth 100000 in
theorem c_String_checkIndex_12 (l : Launch) (D : va_G) (ca : Nat → ClassId) (ad av : Nat → Nat) (sz : Nat)   : Met l ({ cls := "java/lang/String", name := "checkIndex", desc := "(II)V" } : Jvm.MethodName) (Cond.code ({ cls := "java/lang/String", name := "checkIndex", desc := "(II)V" } : Jvm.MethodName) prog_21_method_155_code 2 (Option.none : Option Jvm.ClassFile.FieldType) :: wAll) ({ frames := 1, cells := 0, slots := 0, locals := 22 } : Room) (va_Pc [.int 2, .int 5] (gPre D ca ad av [] sz)) (Q_String_checkIndex_12 D ca  (va_A [] sz)) 0 0 (va_A [] sz) := by
  refine gMet (Qc := Q_String_checkIndex_12 D ca ) (lv := [(0, .int 2), (1, .int 5)]) (by decide) (Nat.le_of_ble_eq_true rfl) rfl (fun A p e s m below meth c ls hx hb hr hml hown hts hlk hnm hl hP hK hD hS hA hX => ?_)
  have hown : s.vm.findClass "java/lang/String" = some m.cls := hown
  have hnm : meth.name = "checkIndex" := hnm
  refine lv_iload_n hx hb d_21_155_0 rfl (lv_at hl 0 rfl) ?_
  refine lv_iload_n hx hb d_21_155_1 rfl (lv_at hl 1 rfl) ?_
  rcases hX.2.2.2.2.2 with hz1 | ⟨tz1, hz1⟩
  · refine va_gets hx hb hz1 hS hown (hts _ k_3_120) (fun _ h => h) d_21_155_2 ?_
    have hFc2 := va_free (wc := []) hD hS hA [] rfl
    refine va_calli (va_runS (As := [.int 2, .int 5, .null]) (rest := []) ⟨hx, hb, hml, hown, hts⟩ (c_Preconditions_checkIndex_24 l D ca ad av s.heap.size  ) (va_cwS 3 hts (gdS k_7_143 k_7_144 k_1_13 k_7_145) rfl rfl rfl (by decide +kernel) ⟨Nat.le_of_ble_eq_true rfl, Nat.le_of_ble_eq_true rfl⟩) (gPS hP hD hK hS hA hX [] (by decide) rfl [.int 2, .int 5, .null]) rfl rfl hl.1 rfl (lv_room (Nat.le_of_ble_eq_true rfl)) d_21_155_5 ⟨Nat.le_of_ble_eq_true rfl, Nat.le_of_ble_eq_true rfl⟩) hS (fun q _ h => hFc2 q h) hFc2 (fun r2 u2 t2 H2 locs2 ht2 hvm2 hw2 hB2 hz2 hk2 hS2 => ?_)
    have hr2 := hw2
    obtain ⟨hP2, hD2⟩ := gJoin (wr := []) (w1 := []) hP hD [] [] rfl rfl (by decide) (by decide) hk2 hFc2 ht2 hB2
    have hP2 : va_P D cls [] H2 := hP2
    have hD2 : va_D A [] := hD2
    refine W.widen (k := 0) (n := 0) (Nat.le_of_ble_eq_true rfl) (Nat.le_of_ble_eq_true rfl) ?_
    subst hr2
    refine lv_pop hx hb d_21_155_8 rfl ?_
    have hP9 := hP2.sub (ws' := []) [] rfl
    have hD9 := hD2.sub (ws' := []) [] (by decide) rfl
    refine W.widen (k := 0) (n := 0) (Nat.le_of_ble_eq_true rfl) (Nat.le_of_ble_eq_true rfl) ?_
    exact W.vret hx hb hr (fun t ht hW => ⟨⟨(), rfl, trivial, by rw [ht]; exact hP9, va_K.moved hW.alike hK, hD9⟩, hS2.F ht⟩) hS2.2.2 d_21_155_9
  · refine va_gets hx hb hz1 hS hown (hts _ k_3_120) (fun _ h => h) d_21_155_2 ?_
    have hFc3 := va_free (wc := []) hD hS hA [] rfl
    refine va_calli (va_runS (As := [.int 2, .int 5, .ref tz1]) (rest := []) ⟨hx, hb, hml, hown, hts⟩ (c_Preconditions_checkIndex_25 l D ca ad av s.heap.size tz1 ) (va_cwS 3 hts (gdS k_7_143 k_7_144 k_1_13 k_7_145) rfl rfl rfl (by decide +kernel) ⟨Nat.le_of_ble_eq_true rfl, Nat.le_of_ble_eq_true rfl⟩) (gPS hP hD hK hS hA hX [] (by decide) rfl [.int 2, .int 5, .ref tz1]) rfl rfl hl.1 rfl (lv_room (Nat.le_of_ble_eq_true rfl)) d_21_155_5 ⟨Nat.le_of_ble_eq_true rfl, Nat.le_of_ble_eq_true rfl⟩) hS (fun q _ h => hFc3 q h) hFc3 (fun r3 u3 t3 H3 locs3 ht3 hvm3 hw3 hB3 hz3 hk3 hS3 => ?_)
    have hr3 := hw3
    obtain ⟨hP3, hD3⟩ := gJoin (wr := []) (w1 := []) hP hD [] [] rfl rfl (by decide) (by decide) hk3 hFc3 ht3 hB3
    have hP3 : va_P D cls [] H3 := hP3
    have hD3 : va_D A [] := hD3
    refine W.widen (k := 0) (n := 0) (Nat.le_of_ble_eq_true rfl) (Nat.le_of_ble_eq_true rfl) ?_
    subst hr3
    refine lv_pop hx hb d_21_155_8 rfl ?_
    have hP9 := hP3.sub (ws' := []) [] rfl
    have hD9 := hD3.sub (ws' := []) [] (by decide) rfl
    refine W.widen (k := 0) (n := 0) (Nat.le_of_ble_eq_true rfl) (Nat.le_of_ble_eq_true rfl) ?_
    exact W.vret hx hb hr (fun t ht hW => ⟨⟨(), rfl, trivial, by rw [ht]; exact hP9, va_K.moved hW.alike hK, hD9⟩, hS3.F ht⟩) hS3.2.2 d_21_155_9
abbrev Q_StringLatin1_charAt_16 (D : va_G) (ca : Nat → ClassId)  (A : Nat → Prop) : Array Value → State → Outcome → State → Prop := va_Qi (S := Unit) (fun (r : Int32) (u : Unit) => r = 110) (fun u => gB D ca A []) A
set_option maxHeartbeats 8000000 in
set_option maxRecDepth 100000 in
theorem c_StringLatin1_charAt_16 (l : Launch) (D : va_G) (ca : Nat → ClassId) (ad av : Nat → Nat) (sz : Nat)   : Met l ({ cls := "java/lang/StringLatin1", name := "charAt", desc := "([BI)C" } : Jvm.MethodName) (Cond.code ({ cls := "java/lang/StringLatin1", name := "charAt", desc := "([BI)C" } : Jvm.MethodName) prog_22_method_2_code 2 (Option.some Jvm.ClassFile.FieldType.char) :: wAll) ({ frames := 2, cells := 0, slots := 0, locals := 43 } : Room) (va_Pc [.ref (av 4), .int 2] (gPre D ca ad av [] sz)) (Q_StringLatin1_charAt_16 D ca  (va_A [] sz)) 0 0 (va_A [] sz) := by
  refine gMet (Qc := Q_StringLatin1_charAt_16 D ca ) (lv := [(0, .ref (av 4)), (1, .int 2)]) (by decide) (Nat.le_of_ble_eq_true rfl) rfl (fun A p e s m below meth c ls hx hb hr hml hown hts hlk hnm hl hP hK hD hS hA hX => ?_)
  have hown : s.vm.findClass "java/lang/StringLatin1" = some m.cls := hown
  have hnm : meth.name = "charAt" := hnm
  refine lv_iload_n hx hb d_22_2_0 rfl (lv_at hl 1 rfl) ?_
  refine lv_aload_n hx hb d_22_2_1 rfl (lv_at hl 0 rfl) ?_
  refine va_tlen (v := 5) hx hb ((hX.2.2.2.2.1 4 _ rfl).2.1 0 (by decide)).2.2.2 hS (by decide) d_22_2_2 ?_
  have hFc1 := va_free (wc := []) hD hS hA [] rfl
  refine va_callv (va_runS (As := [.int 2, .int 5]) (rest := []) ⟨hx, hb, hml, hown, hts⟩ (c_String_checkIndex_12 l D ca ad av s.heap.size  ) (va_cwS 2 hts (gdS k_7_140 k_7_141 k_1_11 k_7_142) rfl rfl rfl (by decide +kernel) ⟨Nat.le_of_ble_eq_true rfl, Nat.le_of_ble_eq_true rfl⟩) (gPS hP hD hK hS hA hX [] (by decide) rfl [.int 2, .int 5]) rfl rfl hl.1 rfl (lv_room (Nat.le_of_ble_eq_true rfl)) d_22_2_3 ⟨Nat.le_of_ble_eq_true rfl, Nat.le_of_ble_eq_true rfl⟩) hS (fun q _ h => hFc1 q h) hFc1 (fun u1 t1 H1 locs1 ht1 hvm1 hw1 hB1 hz1 hk1 hS1 => ?_)
  obtain ⟨hP1, hD1⟩ := gJoin (wr := []) (w1 := []) hP hD [] [] rfl rfl (by decide) (by decide) hk1 hFc1 ht1 hB1
  have hP1 : va_P D cls [] H1 := hP1
  have hD1 : va_D A [] := hD1
  refine W.widen (k := 0) (n := 0) (Nat.le_of_ble_eq_true rfl) (Nat.le_of_ble_eq_true rfl) ?_
  refine lv_aload_n hx hb d_22_2_6 rfl (lv_at hl 0 rfl) ?_
  refine lv_iload_n hx hb d_22_2_7 rfl (lv_at hl 1 rfl) ?_
  refine va_tb (v := .int 110) hx hb ((hX.2.2.2.2.1 4 _ rfl).2.1 0 (by decide)).2.2.2 hS1 (vinC (by decide)) rfl d_22_2_8 ?_
  refine lv_sipush (v := 255) hx hb d_22_2_9 (by decide) ?_
  refine lv_iand hx hb d_22_2_12 ?_
  refine lv_topi (fun y2 ey2 => ?_)
  obtain rfl : y2 = 110 := ey2.trans (by decide)
  refine lv_i2c hx hb d_22_2_13 rfl ?_
  refine lv_topi (fun y3 ey3 => ?_)
  obtain rfl : y3 = 110 := ey3.trans (by decide)
  have hP9 := hP1.sub (ws' := []) [] rfl
  have hD9 := hD1.sub (ws' := []) [] (by decide) rfl
  refine W.widen (k := 0) (n := 0) (Nat.le_of_ble_eq_true rfl) (Nat.le_of_ble_eq_true rfl) ?_
  exact W.zret (v := 110) hx hb hr rfl (fun t ht hW => ⟨⟨110, (), rfl, rfl, by rw [ht]; exact hP9, va_K.moved hW.alike hK, hD9⟩, hS1.F ht⟩) hS1.2.2 d_22_2_14
abbrev Q_String_charAt_16 (D : va_G) (ca : Nat → ClassId)  (A : Nat → Prop) : Array Value → State → Outcome → State → Prop := va_Qi (S := Unit) (fun (r : Int32) (u : Unit) => r = 110) (fun u => gB D ca A []) A
set_option maxHeartbeats 8000000 in
set_option maxRecDepth 100000 in
theorem c_String_charAt_16 (l : Launch) (D : va_G) (ca : Nat → ClassId) (ad av : Nat → Nat) (sz : Nat)   : Met l ({ cls := "java/lang/String", name := "charAt", desc := "(I)C" } : Jvm.MethodName) (Cond.code ({ cls := "java/lang/String", name := "charAt", desc := "(I)C" } : Jvm.MethodName) prog_21_method_56_code 2 (Option.some Jvm.ClassFile.FieldType.char) :: wAll) ({ frames := 3, cells := 0, slots := 0, locals := 64 } : Room) (va_Pc [.ref (ad 4), .int 2] (gPre D ca ad av [] sz)) (Q_String_charAt_16 D ca  (va_A [] sz)) 0 0 (va_A [] sz) := by
  refine gMet (Qc := Q_String_charAt_16 D ca ) (lv := [(0, .ref (ad 4)), (1, .int 2)]) (by decide) (Nat.le_of_ble_eq_true rfl) rfl (fun A p e s m below meth c ls hx hb hr hml hown hts hlk hnm hl hP hK hD hS hA hX => ?_)
  have hown : s.vm.findClass "java/lang/String" = some m.cls := hown
  have hnm : meth.name = "charAt" := hnm
  refine lv_aload_n hx hb d_21_56_0 rfl (lv_at hl 0 rfl) ?_
  have hFc1 := va_free (wc := []) hD hS hA [] rfl
  refine va_calli (va_runV (As := []) (rest := []) ⟨hx, hb, hml, hown, hts⟩ (c_String_isLatin1_3 l D ca ad av s.heap.size  ) (cwV 0 hts (gdV k_3_75 k_3_76 k_3_77 k_1_11 k_3_78) rfl rfl rfl (by decide +kernel) ⟨Nat.le_of_ble_eq_true rfl, Nat.le_of_ble_eq_true rfl⟩) ⟨gBlind, vk_recv (i := 0) (hX.2.2.2.2.1 4 _ rfl).2 (by decide) hS, gAt hP hD hK hS hA hX [] (by decide) rfl [.ref (ad 4)]⟩ rfl rfl hl.1 rfl (lv_room (Nat.le_of_ble_eq_true rfl)) d_21_56_1 ⟨Nat.le_of_ble_eq_true rfl, Nat.le_of_ble_eq_true rfl⟩) hS (fun q _ h => hFc1 q h) hFc1 (fun r1 u1 t1 H1 locs1 ht1 hvm1 hw1 hB1 hz1 hk1 hS1 => ?_)
  have hr1 := hw1
  obtain ⟨hP1, hD1⟩ := gJoin (wr := []) (w1 := []) hP hD [] [] rfl rfl (by decide) (by decide) hk1 hFc1 ht1 hB1
  have hP1 : va_P D cls [] H1 := hP1
  have hD1 : va_D A [] := hD1
  refine W.widen (k := 0) (n := 0) (Nat.le_of_ble_eq_true rfl) (Nat.le_of_ble_eq_true rfl) ?_
  subst hr1
  refine lv_if_eq (tgt := 16) hx hb d_21_56_4 (by decide) (fun c => absurd c (by decide)) (fun _ => ?_)
  refine lv_aload_n hx hb d_21_56_7 rfl (lv_at hl 0 rfl) ?_
  refine vk_getf hx hb ((hX.2.2.2.2.1 4 _ rfl).2.1 0 (by decide)).2.2.1 hS1 hown (hts _ k_15_170) (fun _ h => h) d_21_56_8 ?_
  refine W.eq (g2 := F0 m 11 ls [.ref (av 4)]) rfl ?_
  refine lv_iload_n hx hb d_21_56_11 rfl (lv_at hl 1 rfl) ?_
  have hFc2 := va_free (wc := []) hD1 hS1 hA [] rfl
  refine va_calli (va_runS (As := [.ref (av 4), .int 2]) (rest := []) ⟨hx, hb, hml, hown, hts⟩ (c_StringLatin1_charAt_16 l D ca ad av H1.size  ) (va_cwS 2 hts (gdS k_7_137 k_7_138 k_1_12 k_7_139) rfl rfl rfl (by decide +kernel) ⟨Nat.le_of_ble_eq_true rfl, Nat.le_of_ble_eq_true rfl⟩) (gPS hP1 hD1 hK hS1 hA hX [] (by decide) rfl [.ref (av 4), .int 2]) rfl rfl hl.1 rfl (lv_room (Nat.le_of_ble_eq_true rfl)) d_21_56_12 ⟨Nat.le_of_ble_eq_true rfl, Nat.le_of_ble_eq_true rfl⟩) hS1 (fun q _ h => hFc2 q h) hFc2 (fun r2 u2 t2 H2 locs2 ht2 hvm2 hw2 hB2 hz2 hk2 hS2 => ?_)
  have hr2 := hw2
  obtain ⟨hP2, hD2⟩ := gJoin (wr := []) (w1 := []) hP1 hD1 [] [] rfl rfl (by decide) (by decide) hk2 hFc2 ht2 hB2
  have hP2 : va_P D cls [] H2 := hP2
  have hD2 : va_D A [] := hD2
  refine W.widen (k := 0) (n := 0) (Nat.le_of_ble_eq_true rfl) (Nat.le_of_ble_eq_true rfl) ?_
  subst hr2
  have hP9 := hP2.sub (ws' := []) [] rfl
  have hD9 := hD2.sub (ws' := []) [] (by decide) rfl
  refine W.widen (k := 0) (n := 0) (Nat.le_of_ble_eq_true rfl) (Nat.le_of_ble_eq_true rfl) ?_
  exact W.zret (v := 110) hx hb hr rfl (fun t ht hW => ⟨⟨110, (), rfl, rfl, by rw [ht]; exact hP9, va_K.moved hW.alike hK, hD9⟩, hS2.F ht⟩) hS2.2.2 d_21_56_15
abbrev Q_Preconditions_checkIndex_26 (D : va_G) (ca : Nat → ClassId)  (A : Nat → Prop) : Array Value → State → Outcome → State → Prop := va_Qi (S := Unit) (fun (r : Int32) (u : Unit) => r = 3) (fun u => gB D ca A []) A
set_option maxHeartbeats 8000000 in
set_option maxRecDepth 100000 in
theorem c_Preconditions_checkIndex_26 (l : Launch) (D : va_G) (ca : Nat → ClassId) (ad av : Nat → Nat) (sz : Nat)   : Met l ({ cls := "jdk/internal/util/Preconditions", name := "checkIndex", desc := "(IILjava/util/function/BiFunction;)I" } : Jvm.MethodName) (Cond.code ({ cls := "jdk/internal/util/Preconditions", name := "checkIndex", desc := "(IILjava/util/function/BiFunction;)I" } : Jvm.MethodName) prog_24_method_11_code 3 (Option.some Jvm.ClassFile.FieldType.int) :: wAll) ({ frames := 0, cells := 0, slots := 0, locals := 0 } : Room) (va_Pc [.int 3, .int 5, .null] (gPre D ca ad av [] sz)) (Q_Preconditions_checkIndex_26 D ca  (va_A [] sz)) 0 0 (va_A [] sz) := by
  refine gMet (Qc := Q_Preconditions_checkIndex_26 D ca ) (lv := [(0, .int 3), (1, .int 5), (2, .null)]) (by decide) (Nat.le_of_ble_eq_true rfl) rfl (fun A p e s m below meth c ls hx hb hr hml hown hts hlk hnm hl hP hK hD hS hA hX => ?_)
  have hown : s.vm.findClass "jdk/internal/util/Preconditions" = some m.cls := hown
  have hnm : meth.name = "checkIndex" := hnm
  refine lv_iload_n hx hb d_24_11_0 rfl (lv_at hl 0 rfl) ?_
  refine lv_if_lt (tgt := 9) hx hb d_24_11_1 (by decide) (fun c => absurd c (by decide)) (fun _ => ?_)
  refine lv_iload_n hx hb d_24_11_4 rfl (lv_at hl 0 rfl) ?_
  refine lv_iload_n hx hb d_24_11_5 rfl (lv_at hl 1 rfl) ?_
  refine lv_icmp_lt (tgt := 16) hx hb d_24_11_6 (by decide) (fun _ => ?_) (fun c => absurd (by decide) c)
  refine lv_iload_n hx hb d_24_11_16 rfl (lv_at hl 0 rfl) ?_
  have hP9 := hP.sub (ws' := []) [] rfl
  have hD9 := hD.sub (ws' := []) [] (by decide) rfl
  refine W.widen (k := 0) (n := 0) (Nat.le_of_ble_eq_true rfl) (Nat.le_of_ble_eq_true rfl) ?_
  exact W.iret (v := 3) hx hb hr (fun t ht hW => ⟨⟨3, (), rfl, rfl, by rw [ht]; exact hP9, va_K.moved hW.alike hK, hD9⟩, hS.F ht⟩) hS.2.2 d_24_11_17
abbrev Q_Preconditions_checkIndex_27 (D : va_G) (ca : Nat → ClassId) (r0 : Nat) (A : Nat → Prop) : Array Value → State → Outcome → State → Prop := va_Qi (S := Unit) (fun (r : Int32) (u : Unit) => r = 3) (fun u => gB D ca A []) A
set_option maxHeartbeats 8000000 in
set_option maxRecDepth 100000 in
theorem c_Preconditions_checkIndex_27 (l : Launch) (D : va_G) (ca : Nat → ClassId) (ad av : Nat → Nat) (sz : Nat) (r0 : Nat)  : Met l ({ cls := "jdk/internal/util/Preconditions", name := "checkIndex", desc := "(IILjava/util/function/BiFunction;)I" } : Jvm.MethodName) (Cond.code ({ cls := "jdk/internal/util/Preconditions", name := "checkIndex", desc := "(IILjava/util/function/BiFunction;)I" } : Jvm.MethodName) prog_24_method_11_code 3 (Option.some Jvm.ClassFile.FieldType.int) :: wAll) ({ frames := 0, cells := 0, slots := 0, locals := 0 } : Room) (va_Pc [.int 3, .int 5, .ref r0] (gPre D ca ad av [] sz)) (Q_Preconditions_checkIndex_27 D ca r0 (va_A [] sz)) 0 0 (va_A [] sz) := by
  refine gMet (Qc := Q_Preconditions_checkIndex_27 D ca r0) (lv := [(0, .int 3), (1, .int 5), (2, .ref r0)]) (by decide) (Nat.le_of_ble_eq_true rfl) rfl (fun A p e s m below meth c ls hx hb hr hml hown hts hlk hnm hl hP hK hD hS hA hX => ?_)
  have hown : s.vm.findClass "jdk/internal/util/Preconditions" = some m.cls := hown
  have hnm : meth.name = "checkIndex" := hnm
  refine lv_iload_n hx hb d_24_11_0 rfl (lv_at hl 0 rfl) ?_
  refine lv_if_lt (tgt := 9) hx hb d_24_11_1 (by decide) (fun c => absurd c (by decide)) (fun _ => ?_)
  refine lv_iload_n hx hb d_24_11_4 rfl (lv_at hl 0 rfl) ?_
  refine lv_iload_n hx hb d_24_11_5 rfl (lv_at hl 1 rfl) ?_
  refine lv_icmp_lt (tgt := 16) hx hb d_24_11_6 (by decide) (fun _ => ?_) (fun c => absurd (by decide) c)
  refine lv_iload_n hx hb d_24_11_16 rfl (lv_at hl 0 rfl) ?_
  have hP9 := hP.sub (ws' := []) [] rfl
  have hD9 := hD.sub (ws' := []) [] (by decide) rfl
  refine W.widen (k := 0) (n := 0) (Nat.le_of_ble_eq_true rfl) (Nat.le_of_ble_eq_true rfl) ?_
  exact W.iret (v := 3) hx hb hr (fun t ht hW => ⟨⟨3, (), rfl, rfl, by rw [ht]; exact hP9, va_K.moved hW.alike hK, hD9⟩, hS.F ht⟩) hS.2.2 d_24_11_17
abbrev Q_String_checkIndex_13 (D : va_G) (ca : Nat → ClassId)  (A : Nat → Prop) : Array Value → State → Outcome → State → Prop := va_Qv (S := Unit) (fun (u : Unit) => True) (fun u => gB D ca A []) A
set_option maxHeartbeats 8000000 in
set_option maxRecDepth 100000 in
theorem c_String_checkIndex_13 (l : Launch) (D : va_G) (ca : Nat → ClassId) (ad av : Nat → Nat) (sz : Nat)   : Met l ({ cls := "java/lang/String", name := "checkIndex", desc := "(II)V" } : Jvm.MethodName) (Cond.code ({ cls := "java/lang/String", name := "checkIndex", desc := "(II)V" } : Jvm.MethodName) prog_21_method_155_code 2 (Option.none : Option Jvm.ClassFile.FieldType) :: wAll) ({ frames := 1, cells := 0, slots := 0, locals := 22 } : Room) (va_Pc [.int 3, .int 5] (gPre D ca ad av [] sz)) (Q_String_checkIndex_13 D ca  (va_A [] sz)) 0 0 (va_A [] sz) := by
  refine gMet (Qc := Q_String_checkIndex_13 D ca ) (lv := [(0, .int 3), (1, .int 5)]) (by decide) (Nat.le_of_ble_eq_true rfl) rfl (fun A p e s m below meth c ls hx hb hr hml hown hts hlk hnm hl hP hK hD hS hA hX => ?_)
  have hown : s.vm.findClass "java/lang/String" = some m.cls := hown
  have hnm : meth.name = "checkIndex" := hnm
  refine lv_iload_n hx hb d_21_155_0 rfl (lv_at hl 0 rfl) ?_
  refine lv_iload_n hx hb d_21_155_1 rfl (lv_at hl 1 rfl) ?_
  rcases hX.2.2.2.2.2 with hz1 | ⟨tz1, hz1⟩
  · refine va_gets hx hb hz1 hS hown (hts _ k_3_120) (fun _ h => h) d_21_155_2 ?_
    have hFc2 := va_free (wc := []) hD hS hA [] rfl
    refine va_calli (va_runS (As := [.int 3, .int 5, .null]) (rest := []) ⟨hx, hb, hml, hown, hts⟩ (c_Preconditions_checkIndex_26 l D ca ad av s.heap.size  ) (va_cwS 3 hts (gdS k_7_143 k_7_144 k_1_13 k_7_145) rfl rfl rfl (by decide +kernel) ⟨Nat.le_of_ble_eq_true rfl, Nat.le_of_ble_eq_true rfl⟩) (gPS hP hD hK hS hA hX [] (by decide) rfl [.int 3, .int 5, .null]) rfl rfl hl.1 rfl (lv_room (Nat.le_of_ble_eq_true rfl)) d_21_155_5 ⟨Nat.le_of_ble_eq_true rfl, Nat.le_of_ble_eq_true rfl⟩) hS (fun q _ h => hFc2 q h) hFc2 (fun r2 u2 t2 H2 locs2 ht2 hvm2 hw2 hB2 hz2 hk2 hS2 => ?_)
    have hr2 := hw2
    obtain ⟨hP2, hD2⟩ := gJoin (wr := []) (w1 := []) hP hD [] [] rfl rfl (by decide) (by decide) hk2 hFc2 ht2 hB2
    have hP2 : va_P D cls [] H2 := hP2
    have hD2 : va_D A [] := hD2
    refine W.widen (k := 0) (n := 0) (Nat.le_of_ble_eq_true rfl) (Nat.le_of_ble_eq_true rfl) ?_
    subst hr2
    refine lv_pop hx hb d_21_155_8 rfl ?_
    have hP9 := hP2.sub (ws' := []) [] rfl
    have hD9 := hD2.sub (ws' := []) [] (by decide) rfl
    refine W.widen (k := 0) (n := 0) (Nat.le_of_ble_eq_true rfl) (Nat.le_of_ble_eq_true rfl) ?_
    exact W.vret hx hb hr (fun t ht hW => ⟨⟨(), rfl, trivial, by rw [ht]; exact hP9, va_K.moved hW.alike hK, hD9⟩, hS2.F ht⟩) hS2.2.2 d_21_155_9
  · refine va_gets hx hb hz1 hS hown (hts _ k_3_120) (fun _ h => h) d_21_155_2 ?_
    have hFc3 := va_free (wc := []) hD hS hA [] rfl
    refine va_calli (va_runS (As := [.int 3, .int 5, .ref tz1]) (rest := []) ⟨hx, hb, hml, hown, hts⟩ (c_Preconditions_checkIndex_27 l D ca ad av s.heap.size tz1 ) (va_cwS 3 hts (gdS k_7_143 k_7_144 k_1_13 k_7_145) rfl rfl rfl (by decide +kernel) ⟨Nat.le_of_ble_eq_true rfl, Nat.le_of_ble_eq_true rfl⟩) (gPS hP hD hK hS hA hX [] (by decide) rfl [.int 3, .int 5, .ref tz1]) rfl rfl hl.1 rfl (lv_room (Nat.le_of_ble_eq_true rfl)) d_21_155_5 ⟨Nat.le_of_ble_eq_true rfl, Nat.le_of_ble_eq_true rfl⟩) hS (fun q _ h => hFc3 q h) hFc3 (fun r3 u3 t3 H3 locs3 ht3 hvm3 hw3 hB3 hz3 hk3 hS3 => ?_)
    have hr3 := hw3
    obtain ⟨hP3, hD3⟩ := gJoin (wr := []) (w1 := []) hP hD [] [] rfl rfl (by decide) (by decide) hk3 hFc3 ht3 hB3
    have hP3 : va_P D cls [] H3 := hP3
    have hD3 : va_D A [] := hD3
    refine W.widen (k := 0) (n := 0) (Nat.le_of_ble_eq_true rfl) (Nat.le_of_ble_eq_true rfl) ?_
    subst hr3
    refine lv_pop hx hb d_21_155_8 rfl ?_
    have hP9 := hP3.sub (ws' := []) [] rfl
    have hD9 := hD3.sub (ws' := []) [] (by decide) rfl
    refine W.widen (k := 0) (n := 0) (Nat.le_of_ble_eq_true rfl) (Nat.le_of_ble_eq_true rfl) ?_
    exact W.vret hx hb hr (fun t ht hW => ⟨⟨(), rfl, trivial, by rw [ht]; exact hP9, va_K.moved hW.alike hK, hD9⟩, hS3.F ht⟩) hS3.2.2 d_21_155_9
abbrev Q_StringLatin1_charAt_17 (D : va_G) (ca : Nat → ClassId)  (A : Nat → Prop) : Array Value → State → Outcome → State → Prop := va_Qi (S := Unit) (fun (r : Int32) (u : Unit) => r = 111) (fun u => gB D ca A []) A
set_option maxHeartbeats 8000000 in
set_option maxRecDepth 100000 in
theorem c_StringLatin1_charAt_17 (l : Launch) (D : va_G) (ca : Nat → ClassId) (ad av : Nat → Nat) (sz : Nat)   : Met l ({ cls := "java/lang/StringLatin1", name := "charAt", desc := "([BI)C" } : Jvm.MethodName) (Cond.code ({ cls := "java/lang/StringLatin1", name := "charAt", desc := "([BI)C" } : Jvm.MethodName) prog_22_method_2_code 2 (Option.some Jvm.ClassFile.FieldType.char) :: wAll) ({ frames := 2, cells := 0, slots := 0, locals := 43 } : Room) (va_Pc [.ref (av 4), .int 3] (gPre D ca ad av [] sz)) (Q_StringLatin1_charAt_17 D ca  (va_A [] sz)) 0 0 (va_A [] sz) := by
  refine gMet (Qc := Q_StringLatin1_charAt_17 D ca ) (lv := [(0, .ref (av 4)), (1, .int 3)]) (by decide) (Nat.le_of_ble_eq_true rfl) rfl (fun A p e s m below meth c ls hx hb hr hml hown hts hlk hnm hl hP hK hD hS hA hX => ?_)
  have hown : s.vm.findClass "java/lang/StringLatin1" = some m.cls := hown
  have hnm : meth.name = "charAt" := hnm
  refine lv_iload_n hx hb d_22_2_0 rfl (lv_at hl 1 rfl) ?_
  refine lv_aload_n hx hb d_22_2_1 rfl (lv_at hl 0 rfl) ?_
  refine va_tlen (v := 5) hx hb ((hX.2.2.2.2.1 4 _ rfl).2.1 0 (by decide)).2.2.2 hS (by decide) d_22_2_2 ?_
  have hFc1 := va_free (wc := []) hD hS hA [] rfl
  refine va_callv (va_runS (As := [.int 3, .int 5]) (rest := []) ⟨hx, hb, hml, hown, hts⟩ (c_String_checkIndex_13 l D ca ad av s.heap.size  ) (va_cwS 2 hts (gdS k_7_140 k_7_141 k_1_11 k_7_142) rfl rfl rfl (by decide +kernel) ⟨Nat.le_of_ble_eq_true rfl, Nat.le_of_ble_eq_true rfl⟩) (gPS hP hD hK hS hA hX [] (by decide) rfl [.int 3, .int 5]) rfl rfl hl.1 rfl (lv_room (Nat.le_of_ble_eq_true rfl)) d_22_2_3 ⟨Nat.le_of_ble_eq_true rfl, Nat.le_of_ble_eq_true rfl⟩) hS (fun q _ h => hFc1 q h) hFc1 (fun u1 t1 H1 locs1 ht1 hvm1 hw1 hB1 hz1 hk1 hS1 => ?_)
  obtain ⟨hP1, hD1⟩ := gJoin (wr := []) (w1 := []) hP hD [] [] rfl rfl (by decide) (by decide) hk1 hFc1 ht1 hB1
  have hP1 : va_P D cls [] H1 := hP1
  have hD1 : va_D A [] := hD1
  refine W.widen (k := 0) (n := 0) (Nat.le_of_ble_eq_true rfl) (Nat.le_of_ble_eq_true rfl) ?_
  refine lv_aload_n hx hb d_22_2_6 rfl (lv_at hl 0 rfl) ?_
  refine lv_iload_n hx hb d_22_2_7 rfl (lv_at hl 1 rfl) ?_
  refine va_tb (v := .int 111) hx hb ((hX.2.2.2.2.1 4 _ rfl).2.1 0 (by decide)).2.2.2 hS1 (vinC (by decide)) rfl d_22_2_8 ?_
  refine lv_sipush (v := 255) hx hb d_22_2_9 (by decide) ?_
  refine lv_iand hx hb d_22_2_12 ?_
  refine lv_topi (fun y2 ey2 => ?_)
  obtain rfl : y2 = 111 := ey2.trans (by decide)
  refine lv_i2c hx hb d_22_2_13 rfl ?_
  refine lv_topi (fun y3 ey3 => ?_)
  obtain rfl : y3 = 111 := ey3.trans (by decide)
  have hP9 := hP1.sub (ws' := []) [] rfl
  have hD9 := hD1.sub (ws' := []) [] (by decide) rfl
  refine W.widen (k := 0) (n := 0) (Nat.le_of_ble_eq_true rfl) (Nat.le_of_ble_eq_true rfl) ?_
  exact W.zret (v := 111) hx hb hr rfl (fun t ht hW => ⟨⟨111, (), rfl, rfl, by rw [ht]; exact hP9, va_K.moved hW.alike hK, hD9⟩, hS1.F ht⟩) hS1.2.2 d_22_2_14
abbrev Q_String_charAt_17 (D : va_G) (ca : Nat → ClassId)  (A : Nat → Prop) : Array Value → State → Outcome → State → Prop := va_Qi (S := Unit) (fun (r : Int32) (u : Unit) => r = 111) (fun u => gB D ca A []) A
set_option maxHeartbeats 8000000 in
set_option maxRecDepth 100000 in
theorem c_String_charAt_17 (l : Launch) (D : va_G) (ca : Nat → ClassId) (ad av : Nat → Nat) (sz : Nat)   : Met l ({ cls := "java/lang/String", name := "charAt", desc := "(I)C" } : Jvm.MethodName) (Cond.code ({ cls := "java/lang/String", name := "charAt", desc := "(I)C" } : Jvm.MethodName) prog_21_method_56_code 2 (Option.some Jvm.ClassFile.FieldType.char) :: wAll) ({ frames := 3, cells := 0, slots := 0, locals := 64 } : Room) (va_Pc [.ref (ad 4), .int 3] (gPre D ca ad av [] sz)) (Q_String_charAt_17 D ca  (va_A [] sz)) 0 0 (va_A [] sz) := by
  refine gMet (Qc := Q_String_charAt_17 D ca ) (lv := [(0, .ref (ad 4)), (1, .int 3)]) (by decide) (Nat.le_of_ble_eq_true rfl) rfl (fun A p e s m below meth c ls hx hb hr hml hown hts hlk hnm hl hP hK hD hS hA hX => ?_)
  have hown : s.vm.findClass "java/lang/String" = some m.cls := hown
  have hnm : meth.name = "charAt" := hnm
  refine lv_aload_n hx hb d_21_56_0 rfl (lv_at hl 0 rfl) ?_
  have hFc1 := va_free (wc := []) hD hS hA [] rfl
  refine va_calli (va_runV (As := []) (rest := []) ⟨hx, hb, hml, hown, hts⟩ (c_String_isLatin1_3 l D ca ad av s.heap.size  ) (cwV 0 hts (gdV k_3_75 k_3_76 k_3_77 k_1_11 k_3_78) rfl rfl rfl (by decide +kernel) ⟨Nat.le_of_ble_eq_true rfl, Nat.le_of_ble_eq_true rfl⟩) ⟨gBlind, vk_recv (i := 0) (hX.2.2.2.2.1 4 _ rfl).2 (by decide) hS, gAt hP hD hK hS hA hX [] (by decide) rfl [.ref (ad 4)]⟩ rfl rfl hl.1 rfl (lv_room (Nat.le_of_ble_eq_true rfl)) d_21_56_1 ⟨Nat.le_of_ble_eq_true rfl, Nat.le_of_ble_eq_true rfl⟩) hS (fun q _ h => hFc1 q h) hFc1 (fun r1 u1 t1 H1 locs1 ht1 hvm1 hw1 hB1 hz1 hk1 hS1 => ?_)
  have hr1 := hw1
  obtain ⟨hP1, hD1⟩ := gJoin (wr := []) (w1 := []) hP hD [] [] rfl rfl (by decide) (by decide) hk1 hFc1 ht1 hB1
  have hP1 : va_P D cls [] H1 := hP1
  have hD1 : va_D A [] := hD1
  refine W.widen (k := 0) (n := 0) (Nat.le_of_ble_eq_true rfl) (Nat.le_of_ble_eq_true rfl) ?_
  subst hr1
  refine lv_if_eq (tgt := 16) hx hb d_21_56_4 (by decide) (fun c => absurd c (by decide)) (fun _ => ?_)
  refine lv_aload_n hx hb d_21_56_7 rfl (lv_at hl 0 rfl) ?_
  refine vk_getf hx hb ((hX.2.2.2.2.1 4 _ rfl).2.1 0 (by decide)).2.2.1 hS1 hown (hts _ k_15_170) (fun _ h => h) d_21_56_8 ?_
  refine W.eq (g2 := F0 m 11 ls [.ref (av 4)]) rfl ?_
  refine lv_iload_n hx hb d_21_56_11 rfl (lv_at hl 1 rfl) ?_
  have hFc2 := va_free (wc := []) hD1 hS1 hA [] rfl
  refine va_calli (va_runS (As := [.ref (av 4), .int 3]) (rest := []) ⟨hx, hb, hml, hown, hts⟩ (c_StringLatin1_charAt_17 l D ca ad av H1.size  ) (va_cwS 2 hts (gdS k_7_137 k_7_138 k_1_12 k_7_139) rfl rfl rfl (by decide +kernel) ⟨Nat.le_of_ble_eq_true rfl, Nat.le_of_ble_eq_true rfl⟩) (gPS hP1 hD1 hK hS1 hA hX [] (by decide) rfl [.ref (av 4), .int 3]) rfl rfl hl.1 rfl (lv_room (Nat.le_of_ble_eq_true rfl)) d_21_56_12 ⟨Nat.le_of_ble_eq_true rfl, Nat.le_of_ble_eq_true rfl⟩) hS1 (fun q _ h => hFc2 q h) hFc2 (fun r2 u2 t2 H2 locs2 ht2 hvm2 hw2 hB2 hz2 hk2 hS2 => ?_)
  have hr2 := hw2
  obtain ⟨hP2, hD2⟩ := gJoin (wr := []) (w1 := []) hP1 hD1 [] [] rfl rfl (by decide) (by decide) hk2 hFc2 ht2 hB2
  have hP2 : va_P D cls [] H2 := hP2
  have hD2 : va_D A [] := hD2
  refine W.widen (k := 0) (n := 0) (Nat.le_of_ble_eq_true rfl) (Nat.le_of_ble_eq_true rfl) ?_
  subst hr2
  have hP9 := hP2.sub (ws' := []) [] rfl
  have hD9 := hD2.sub (ws' := []) [] (by decide) rfl
  refine W.widen (k := 0) (n := 0) (Nat.le_of_ble_eq_true rfl) (Nat.le_of_ble_eq_true rfl) ?_
  exact W.zret (v := 111) hx hb hr rfl (fun t ht hW => ⟨⟨111, (), rfl, rfl, by rw [ht]; exact hP9, va_K.moved hW.alike hK, hD9⟩, hS2.F ht⟩) hS2.2.2 d_21_56_15
abbrev Q_Preconditions_checkIndex_28 (D : va_G) (ca : Nat → ClassId)  (A : Nat → Prop) : Array Value → State → Outcome → State → Prop := va_Qi (S := Unit) (fun (r : Int32) (u : Unit) => r = 4) (fun u => gB D ca A []) A
set_option maxHeartbeats 8000000 in
set_option maxRecDepth 100000 in
theorem c_Preconditions_checkIndex_28 (l : Launch) (D : va_G) (ca : Nat → ClassId) (ad av : Nat → Nat) (sz : Nat)   : Met l ({ cls := "jdk/internal/util/Preconditions", name := "checkIndex", desc := "(IILjava/util/function/BiFunction;)I" } : Jvm.MethodName) (Cond.code ({ cls := "jdk/internal/util/Preconditions", name := "checkIndex", desc := "(IILjava/util/function/BiFunction;)I" } : Jvm.MethodName) prog_24_method_11_code 3 (Option.some Jvm.ClassFile.FieldType.int) :: wAll) ({ frames := 0, cells := 0, slots := 0, locals := 0 } : Room) (va_Pc [.int 4, .int 5, .null] (gPre D ca ad av [] sz)) (Q_Preconditions_checkIndex_28 D ca  (va_A [] sz)) 0 0 (va_A [] sz) := by
  refine gMet (Qc := Q_Preconditions_checkIndex_28 D ca ) (lv := [(0, .int 4), (1, .int 5), (2, .null)]) (by decide) (Nat.le_of_ble_eq_true rfl) rfl (fun A p e s m below meth c ls hx hb hr hml hown hts hlk hnm hl hP hK hD hS hA hX => ?_)
  have hown : s.vm.findClass "jdk/internal/util/Preconditions" = some m.cls := hown
  have hnm : meth.name = "checkIndex" := hnm
  refine lv_iload_n hx hb d_24_11_0 rfl (lv_at hl 0 rfl) ?_
  refine lv_if_lt (tgt := 9) hx hb d_24_11_1 (by decide) (fun c => absurd c (by decide)) (fun _ => ?_)
  refine lv_iload_n hx hb d_24_11_4 rfl (lv_at hl 0 rfl) ?_
  refine lv_iload_n hx hb d_24_11_5 rfl (lv_at hl 1 rfl) ?_
  refine lv_icmp_lt (tgt := 16) hx hb d_24_11_6 (by decide) (fun _ => ?_) (fun c => absurd (by decide) c)
  refine lv_iload_n hx hb d_24_11_16 rfl (lv_at hl 0 rfl) ?_
  have hP9 := hP.sub (ws' := []) [] rfl
  have hD9 := hD.sub (ws' := []) [] (by decide) rfl
  refine W.widen (k := 0) (n := 0) (Nat.le_of_ble_eq_true rfl) (Nat.le_of_ble_eq_true rfl) ?_
  exact W.iret (v := 4) hx hb hr (fun t ht hW => ⟨⟨4, (), rfl, rfl, by rw [ht]; exact hP9, va_K.moved hW.alike hK, hD9⟩, hS.F ht⟩) hS.2.2 d_24_11_17
abbrev Q_Preconditions_checkIndex_29 (D : va_G) (ca : Nat → ClassId) (r0 : Nat) (A : Nat → Prop) : Array Value → State → Outcome → State → Prop := va_Qi (S := Unit) (fun (r : Int32) (u : Unit) => r = 4) (fun u => gB D ca A []) A
set_option maxHeartbeats 8000000 in
set_option maxRecDepth 100000 in
theorem c_Preconditions_checkIndex_29 (l : Launch) (D : va_G) (ca : Nat → ClassId) (ad av : Nat → Nat) (sz : Nat) (r0 : Nat)  : Met l ({ cls := "jdk/internal/util/Preconditions", name := "checkIndex", desc := "(IILjava/util/function/BiFunction;)I" } : Jvm.MethodName) (Cond.code ({ cls := "jdk/internal/util/Preconditions", name := "checkIndex", desc := "(IILjava/util/function/BiFunction;)I" } : Jvm.MethodName) prog_24_method_11_code 3 (Option.some Jvm.ClassFile.FieldType.int) :: wAll) ({ frames := 0, cells := 0, slots := 0, locals := 0 } : Room) (va_Pc [.int 4, .int 5, .ref r0] (gPre D ca ad av [] sz)) (Q_Preconditions_checkIndex_29 D ca r0 (va_A [] sz)) 0 0 (va_A [] sz) := by
  refine gMet (Qc := Q_Preconditions_checkIndex_29 D ca r0) (lv := [(0, .int 4), (1, .int 5), (2, .ref r0)]) (by decide) (Nat.le_of_ble_eq_true rfl) rfl (fun A p e s m below meth c ls hx hb hr hml hown hts hlk hnm hl hP hK hD hS hA hX => ?_)
  have hown : s.vm.findClass "jdk/internal/util/Preconditions" = some m.cls := hown
  have hnm : meth.name = "checkIndex" := hnm
  refine lv_iload_n hx hb d_24_11_0 rfl (lv_at hl 0 rfl) ?_
  refine lv_if_lt (tgt := 9) hx hb d_24_11_1 (by decide) (fun c => absurd c (by decide)) (fun _ => ?_)
  refine lv_iload_n hx hb d_24_11_4 rfl (lv_at hl 0 rfl) ?_
  refine lv_iload_n hx hb d_24_11_5 rfl (lv_at hl 1 rfl) ?_
  refine lv_icmp_lt (tgt := 16) hx hb d_24_11_6 (by decide) (fun _ => ?_) (fun c => absurd (by decide) c)
  refine lv_iload_n hx hb d_24_11_16 rfl (lv_at hl 0 rfl) ?_
  have hP9 := hP.sub (ws' := []) [] rfl
  have hD9 := hD.sub (ws' := []) [] (by decide) rfl
  refine W.widen (k := 0) (n := 0) (Nat.le_of_ble_eq_true rfl) (Nat.le_of_ble_eq_true rfl) ?_
  exact W.iret (v := 4) hx hb hr (fun t ht hW => ⟨⟨4, (), rfl, rfl, by rw [ht]; exact hP9, va_K.moved hW.alike hK, hD9⟩, hS.F ht⟩) hS.2.2 d_24_11_17
abbrev Q_String_checkIndex_14 (D : va_G) (ca : Nat → ClassId)  (A : Nat → Prop) : Array Value → State → Outcome → State → Prop := va_Qv (S := Unit) (fun (u : Unit) => True) (fun u => gB D ca A []) A
set_option maxHeartbeats 8000000 in
set_option maxRecDepth 100000 in
theorem c_String_checkIndex_14 (l : Launch) (D : va_G) (ca : Nat → ClassId) (ad av : Nat → Nat) (sz : Nat)   : Met l ({ cls := "java/lang/String", name := "checkIndex", desc := "(II)V" } : Jvm.MethodName) (Cond.code ({ cls := "java/lang/String", name := "checkIndex", desc := "(II)V" } : Jvm.MethodName) prog_21_method_155_code 2 (Option.none : Option Jvm.ClassFile.FieldType) :: wAll) ({ frames := 1, cells := 0, slots := 0, locals := 22 } : Room) (va_Pc [.int 4, .int 5] (gPre D ca ad av [] sz)) (Q_String_checkIndex_14 D ca  (va_A [] sz)) 0 0 (va_A [] sz) := by
  refine gMet (Qc := Q_String_checkIndex_14 D ca ) (lv := [(0, .int 4), (1, .int 5)]) (by decide) (Nat.le_of_ble_eq_true rfl) rfl (fun A p e s m below meth c ls hx hb hr hml hown hts hlk hnm hl hP hK hD hS hA hX => ?_)
  have hown : s.vm.findClass "java/lang/String" = some m.cls := hown
  have hnm : meth.name = "checkIndex" := hnm
  refine lv_iload_n hx hb d_21_155_0 rfl (lv_at hl 0 rfl) ?_
  refine lv_iload_n hx hb d_21_155_1 rfl (lv_at hl 1 rfl) ?_
  rcases hX.2.2.2.2.2 with hz1 | ⟨tz1, hz1⟩
  · refine va_gets hx hb hz1 hS hown (hts _ k_3_120) (fun _ h => h) d_21_155_2 ?_
    have hFc2 := va_free (wc := []) hD hS hA [] rfl
    refine va_calli (va_runS (As := [.int 4, .int 5, .null]) (rest := []) ⟨hx, hb, hml, hown, hts⟩ (c_Preconditions_checkIndex_28 l D ca ad av s.heap.size  ) (va_cwS 3 hts (gdS k_7_143 k_7_144 k_1_13 k_7_145) rfl rfl rfl (by decide +kernel) ⟨Nat.le_of_ble_eq_true rfl, Nat.le_of_ble_eq_true rfl⟩) (gPS hP hD hK hS hA hX [] (by decide) rfl [.int 4, .int 5, .null]) rfl rfl hl.1 rfl (lv_room (Nat.le_of_ble_eq_true rfl)) d_21_155_5 ⟨Nat.le_of_ble_eq_true rfl, Nat.le_of_ble_eq_true rfl⟩) hS (fun q _ h => hFc2 q h) hFc2 (fun r2 u2 t2 H2 locs2 ht2 hvm2 hw2 hB2 hz2 hk2 hS2 => ?_)
    have hr2 := hw2
    obtain ⟨hP2, hD2⟩ := gJoin (wr := []) (w1 := []) hP hD [] [] rfl rfl (by decide) (by decide) hk2 hFc2 ht2 hB2
    have hP2 : va_P D cls [] H2 := hP2
    have hD2 : va_D A [] := hD2
    refine W.widen (k := 0) (n := 0) (Nat.le_of_ble_eq_true rfl) (Nat.le_of_ble_eq_true rfl) ?_
    subst hr2
    refine lv_pop hx hb d_21_155_8 rfl ?_
    have hP9 := hP2.sub (ws' := []) [] rfl
    have hD9 := hD2.sub (ws' := []) [] (by decide) rfl
    refine W.widen (k := 0) (n := 0) (Nat.le_of_ble_eq_true rfl) (Nat.le_of_ble_eq_true rfl) ?_
    exact W.vret hx hb hr (fun t ht hW => ⟨⟨(), rfl, trivial, by rw [ht]; exact hP9, va_K.moved hW.alike hK, hD9⟩, hS2.F ht⟩) hS2.2.2 d_21_155_9
  · refine va_gets hx hb hz1 hS hown (hts _ k_3_120) (fun _ h => h) d_21_155_2 ?_
    have hFc3 := va_free (wc := []) hD hS hA [] rfl
    refine va_calli (va_runS (As := [.int 4, .int 5, .ref tz1]) (rest := []) ⟨hx, hb, hml, hown, hts⟩ (c_Preconditions_checkIndex_29 l D ca ad av s.heap.size tz1 ) (va_cwS 3 hts (gdS k_7_143 k_7_144 k_1_13 k_7_145) rfl rfl rfl (by decide +kernel) ⟨Nat.le_of_ble_eq_true rfl, Nat.le_of_ble_eq_true rfl⟩) (gPS hP hD hK hS hA hX [] (by decide) rfl [.int 4, .int 5, .ref tz1]) rfl rfl hl.1 rfl (lv_room (Nat.le_of_ble_eq_true rfl)) d_21_155_5 ⟨Nat.le_of_ble_eq_true rfl, Nat.le_of_ble_eq_true rfl⟩) hS (fun q _ h => hFc3 q h) hFc3 (fun r3 u3 t3 H3 locs3 ht3 hvm3 hw3 hB3 hz3 hk3 hS3 => ?_)
    have hr3 := hw3
    obtain ⟨hP3, hD3⟩ := gJoin (wr := []) (w1 := []) hP hD [] [] rfl rfl (by decide) (by decide) hk3 hFc3 ht3 hB3
    have hP3 : va_P D cls [] H3 := hP3
    have hD3 : va_D A [] := hD3
    refine W.widen (k := 0) (n := 0) (Nat.le_of_ble_eq_true rfl) (Nat.le_of_ble_eq_true rfl) ?_
    subst hr3
    refine lv_pop hx hb d_21_155_8 rfl ?_
    have hP9 := hP3.sub (ws' := []) [] rfl
    have hD9 := hD3.sub (ws' := []) [] (by decide) rfl
    refine W.widen (k := 0) (n := 0) (Nat.le_of_ble_eq_true rfl) (Nat.le_of_ble_eq_true rfl) ?_
    exact W.vret hx hb hr (fun t ht hW => ⟨⟨(), rfl, trivial, by rw [ht]; exact hP9, va_K.moved hW.alike hK, hD9⟩, hS3.F ht⟩) hS3.2.2 d_21_155_9
abbrev Q_StringLatin1_charAt_18 (D : va_G) (ca : Nat → ClassId)  (A : Nat → Prop) : Array Value → State → Outcome → State → Prop := va_Qi (S := Unit) (fun (r : Int32) (u : Unit) => r = 114) (fun u => gB D ca A []) A
set_option maxHeartbeats 8000000 in
set_option maxRecDepth 100000 in
theorem c_StringLatin1_charAt_18 (l : Launch) (D : va_G) (ca : Nat → ClassId) (ad av : Nat → Nat) (sz : Nat)   : Met l ({ cls := "java/lang/StringLatin1", name := "charAt", desc := "([BI)C" } : Jvm.MethodName) (Cond.code ({ cls := "java/lang/StringLatin1", name := "charAt", desc := "([BI)C" } : Jvm.MethodName) prog_22_method_2_code 2 (Option.some Jvm.ClassFile.FieldType.char) :: wAll) ({ frames := 2, cells := 0, slots := 0, locals := 43 } : Room) (va_Pc [.ref (av 4), .int 4] (gPre D ca ad av [] sz)) (Q_StringLatin1_charAt_18 D ca  (va_A [] sz)) 0 0 (va_A [] sz) := by
  refine gMet (Qc := Q_StringLatin1_charAt_18 D ca ) (lv := [(0, .ref (av 4)), (1, .int 4)]) (by decide) (Nat.le_of_ble_eq_true rfl) rfl (fun A p e s m below meth c ls hx hb hr hml hown hts hlk hnm hl hP hK hD hS hA hX => ?_)
  have hown : s.vm.findClass "java/lang/StringLatin1" = some m.cls := hown
  have hnm : meth.name = "charAt" := hnm
  refine lv_iload_n hx hb d_22_2_0 rfl (lv_at hl 1 rfl) ?_
  refine lv_aload_n hx hb d_22_2_1 rfl (lv_at hl 0 rfl) ?_
  refine va_tlen (v := 5) hx hb ((hX.2.2.2.2.1 4 _ rfl).2.1 0 (by decide)).2.2.2 hS (by decide) d_22_2_2 ?_
  have hFc1 := va_free (wc := []) hD hS hA [] rfl
  refine va_callv (va_runS (As := [.int 4, .int 5]) (rest := []) ⟨hx, hb, hml, hown, hts⟩ (c_String_checkIndex_14 l D ca ad av s.heap.size  ) (va_cwS 2 hts (gdS k_7_140 k_7_141 k_1_11 k_7_142) rfl rfl rfl (by decide +kernel) ⟨Nat.le_of_ble_eq_true rfl, Nat.le_of_ble_eq_true rfl⟩) (gPS hP hD hK hS hA hX [] (by decide) rfl [.int 4, .int 5]) rfl rfl hl.1 rfl (lv_room (Nat.le_of_ble_eq_true rfl)) d_22_2_3 ⟨Nat.le_of_ble_eq_true rfl, Nat.le_of_ble_eq_true rfl⟩) hS (fun q _ h => hFc1 q h) hFc1 (fun u1 t1 H1 locs1 ht1 hvm1 hw1 hB1 hz1 hk1 hS1 => ?_)
  obtain ⟨hP1, hD1⟩ := gJoin (wr := []) (w1 := []) hP hD [] [] rfl rfl (by decide) (by decide) hk1 hFc1 ht1 hB1
  have hP1 : va_P D cls [] H1 := hP1
  have hD1 : va_D A [] := hD1
  refine W.widen (k := 0) (n := 0) (Nat.le_of_ble_eq_true rfl) (Nat.le_of_ble_eq_true rfl) ?_
  refine lv_aload_n hx hb d_22_2_6 rfl (lv_at hl 0 rfl) ?_
  refine lv_iload_n hx hb d_22_2_7 rfl (lv_at hl 1 rfl) ?_
  refine va_tb (v := .int 114) hx hb ((hX.2.2.2.2.1 4 _ rfl).2.1 0 (by decide)).2.2.2 hS1 (vinC (by decide)) rfl d_22_2_8 ?_
  refine lv_sipush (v := 255) hx hb d_22_2_9 (by decide) ?_
  refine lv_iand hx hb d_22_2_12 ?_
  refine lv_topi (fun y2 ey2 => ?_)
  obtain rfl : y2 = 114 := ey2.trans (by decide)
  refine lv_i2c hx hb d_22_2_13 rfl ?_
  refine lv_topi (fun y3 ey3 => ?_)
  obtain rfl : y3 = 114 := ey3.trans (by decide)
  have hP9 := hP1.sub (ws' := []) [] rfl
  have hD9 := hD1.sub (ws' := []) [] (by decide) rfl
  refine W.widen (k := 0) (n := 0) (Nat.le_of_ble_eq_true rfl) (Nat.le_of_ble_eq_true rfl) ?_
  exact W.zret (v := 114) hx hb hr rfl (fun t ht hW => ⟨⟨114, (), rfl, rfl, by rw [ht]; exact hP9, va_K.moved hW.alike hK, hD9⟩, hS1.F ht⟩) hS1.2.2 d_22_2_14
abbrev Q_String_charAt_18 (D : va_G) (ca : Nat → ClassId)  (A : Nat → Prop) : Array Value → State → Outcome → State → Prop := va_Qi (S := Unit) (fun (r : Int32) (u : Unit) => r = 114) (fun u => gB D ca A []) A
set_option maxHeartbeats 8000000 in
set_option maxRecDepth 100000 in
theorem c_String_charAt_18 (l : Launch) (D : va_G) (ca : Nat → ClassId) (ad av : Nat → Nat) (sz : Nat)   : Met l ({ cls := "java/lang/String", name := "charAt", desc := "(I)C" } : Jvm.MethodName) (Cond.code ({ cls := "java/lang/String", name := "charAt", desc := "(I)C" } : Jvm.MethodName) prog_21_method_56_code 2 (Option.some Jvm.ClassFile.FieldType.char) :: wAll) ({ frames := 3, cells := 0, slots := 0, locals := 64 } : Room) (va_Pc [.ref (ad 4), .int 4] (gPre D ca ad av [] sz)) (Q_String_charAt_18 D ca  (va_A [] sz)) 0 0 (va_A [] sz) := by
  refine gMet (Qc := Q_String_charAt_18 D ca ) (lv := [(0, .ref (ad 4)), (1, .int 4)]) (by decide) (Nat.le_of_ble_eq_true rfl) rfl (fun A p e s m below meth c ls hx hb hr hml hown hts hlk hnm hl hP hK hD hS hA hX => ?_)
  have hown : s.vm.findClass "java/lang/String" = some m.cls := hown
  have hnm : meth.name = "charAt" := hnm
  refine lv_aload_n hx hb d_21_56_0 rfl (lv_at hl 0 rfl) ?_
  have hFc1 := va_free (wc := []) hD hS hA [] rfl
  refine va_calli (va_runV (As := []) (rest := []) ⟨hx, hb, hml, hown, hts⟩ (c_String_isLatin1_3 l D ca ad av s.heap.size  ) (cwV 0 hts (gdV k_3_75 k_3_76 k_3_77 k_1_11 k_3_78) rfl rfl rfl (by decide +kernel) ⟨Nat.le_of_ble_eq_true rfl, Nat.le_of_ble_eq_true rfl⟩) ⟨gBlind, vk_recv (i := 0) (hX.2.2.2.2.1 4 _ rfl).2 (by decide) hS, gAt hP hD hK hS hA hX [] (by decide) rfl [.ref (ad 4)]⟩ rfl rfl hl.1 rfl (lv_room (Nat.le_of_ble_eq_true rfl)) d_21_56_1 ⟨Nat.le_of_ble_eq_true rfl, Nat.le_of_ble_eq_true rfl⟩) hS (fun q _ h => hFc1 q h) hFc1 (fun r1 u1 t1 H1 locs1 ht1 hvm1 hw1 hB1 hz1 hk1 hS1 => ?_)
  have hr1 := hw1
  obtain ⟨hP1, hD1⟩ := gJoin (wr := []) (w1 := []) hP hD [] [] rfl rfl (by decide) (by decide) hk1 hFc1 ht1 hB1
  have hP1 : va_P D cls [] H1 := hP1
  have hD1 : va_D A [] := hD1
  refine W.widen (k := 0) (n := 0) (Nat.le_of_ble_eq_true rfl) (Nat.le_of_ble_eq_true rfl) ?_
  subst hr1
  refine lv_if_eq (tgt := 16) hx hb d_21_56_4 (by decide) (fun c => absurd c (by decide)) (fun _ => ?_)
  refine lv_aload_n hx hb d_21_56_7 rfl (lv_at hl 0 rfl) ?_
  refine vk_getf hx hb ((hX.2.2.2.2.1 4 _ rfl).2.1 0 (by decide)).2.2.1 hS1 hown (hts _ k_15_170) (fun _ h => h) d_21_56_8 ?_
  refine W.eq (g2 := F0 m 11 ls [.ref (av 4)]) rfl ?_
  refine lv_iload_n hx hb d_21_56_11 rfl (lv_at hl 1 rfl) ?_
  have hFc2 := va_free (wc := []) hD1 hS1 hA [] rfl
  refine va_calli (va_runS (As := [.ref (av 4), .int 4]) (rest := []) ⟨hx, hb, hml, hown, hts⟩ (c_StringLatin1_charAt_18 l D ca ad av H1.size  ) (va_cwS 2 hts (gdS k_7_137 k_7_138 k_1_12 k_7_139) rfl rfl rfl (by decide +kernel) ⟨Nat.le_of_ble_eq_true rfl, Nat.le_of_ble_eq_true rfl⟩) (gPS hP1 hD1 hK hS1 hA hX [] (by decide) rfl [.ref (av 4), .int 4]) rfl rfl hl.1 rfl (lv_room (Nat.le_of_ble_eq_true rfl)) d_21_56_12 ⟨Nat.le_of_ble_eq_true rfl, Nat.le_of_ble_eq_true rfl⟩) hS1 (fun q _ h => hFc2 q h) hFc2 (fun r2 u2 t2 H2 locs2 ht2 hvm2 hw2 hB2 hz2 hk2 hS2 => ?_)
  have hr2 := hw2
  obtain ⟨hP2, hD2⟩ := gJoin (wr := []) (w1 := []) hP1 hD1 [] [] rfl rfl (by decide) (by decide) hk2 hFc2 ht2 hB2
  have hP2 : va_P D cls [] H2 := hP2
  have hD2 : va_D A [] := hD2
  refine W.widen (k := 0) (n := 0) (Nat.le_of_ble_eq_true rfl) (Nat.le_of_ble_eq_true rfl) ?_
  subst hr2
  have hP9 := hP2.sub (ws' := []) [] rfl
  have hD9 := hD2.sub (ws' := []) [] (by decide) rfl
  refine W.widen (k := 0) (n := 0) (Nat.le_of_ble_eq_true rfl) (Nat.le_of_ble_eq_true rfl) ?_
  exact W.zret (v := 114) hx hb hr rfl (fun t ht hW => ⟨⟨114, (), rfl, rfl, by rw [ht]; exact hP9, va_K.moved hW.alike hK, hD9⟩, hS2.F ht⟩) hS2.2.2 d_21_56_15
abbrev Q_M_code_3 (D : va_G) (ca : Nat → ClassId)  (A : Nat → Prop) : Array Value → State → Outcome → State → Prop := va_Ql (S := Unit) (fun (r : Int64) (u : Unit) => r = 499917942642) (fun u => gB D ca A []) A
set_option maxHeartbeats 8000000 in
set_option maxRecDepth 100000 in
theorem c_M_code_3 (l : Launch) (D : va_G) (ca : Nat → ClassId) (ad av : Nat → Nat) (sz : Nat)   : Met l ({ cls := "StaveHouseModel", name := "code", desc := "(Ljava/lang/String;)J" } : Jvm.MethodName) (Cond.code ({ cls := "StaveHouseModel", name := "code", desc := "(Ljava/lang/String;)J" } : Jvm.MethodName) prog_15_method_24_code 4 (Option.some Jvm.ClassFile.FieldType.long) :: wAll) ({ frames := 4, cells := 0, slots := 0, locals := 85 } : Room) (va_Pc [.ref (ad 4)] (gPre D ca ad av [] sz)) (Q_M_code_3 D ca  (va_A [] sz)) 0 0 (va_A [] sz) := by
  refine gMet (Qc := Q_M_code_3 D ca ) (lv := [(0, .ref (ad 4))]) (by decide) (Nat.le_of_ble_eq_true rfl) rfl (fun A p e s m below meth c ls hx hb hr hml hown hts hlk hnm hl hP hK hD hS hA hX => ?_)
  have hown : s.vm.findClass "StaveHouseModel" = some m.cls := hown
  have hnm : meth.name = "code" := hnm
  refine lv_lconst (v := 0) hx hb d_15_24_0 (by decide) ?_
  refine lv_lstore_n (lv' := [(1, .long 0), (0, .ref (ad 4))]) hx hb d_15_24_1 rfl hl (by decide) rfl (fun ls hl => ?_)
  refine lv_iconst (v := 0) hx hb d_15_24_2 (by decide) ?_
  refine lv_istore_n (lv' := [(3, .int 0), (1, .long 0), (0, .ref (ad 4))]) hx hb d_15_24_3 rfl hl (by decide) rfl (fun ls hl => ?_)
  refine lv_iload_n hx hb d_15_24_4 rfl (lv_at hl 0 rfl) ?_
  refine lv_aload_n hx hb d_15_24_5 rfl (lv_at hl 2 rfl) ?_
  have hFc1 := va_free (wc := []) hD hS hA [] rfl
  refine va_calli (va_runV (As := []) (rest := [.int 0]) ⟨hx, hb, hml, hown, hts⟩ (c_String_length_3 l D ca ad av s.heap.size  ) (cwV 0 hts (gdV k_10_194 k_3_82 k_3_83 k_1_11 k_3_84) rfl rfl rfl (by decide +kernel) ⟨Nat.le_of_ble_eq_true rfl, Nat.le_of_ble_eq_true rfl⟩) ⟨gBlind, vk_recv (i := 0) (hX.2.2.2.2.1 4 _ rfl).2 (by decide) hS, gAt hP hD hK hS hA hX [] (by decide) rfl [.ref (ad 4)]⟩ rfl rfl hl.1 rfl (lv_room (Nat.le_of_ble_eq_true rfl)) d_15_24_6 ⟨Nat.le_of_ble_eq_true rfl, Nat.le_of_ble_eq_true rfl⟩) hS (fun q _ h => hFc1 q h) hFc1 (fun r1 u1 t1 H1 locs1 ht1 hvm1 hw1 hB1 hz1 hk1 hS1 => ?_)
  have hr1 := hw1
  obtain ⟨hP1, hD1⟩ := gJoin (wr := []) (w1 := []) hP hD [] [] rfl rfl (by decide) (by decide) hk1 hFc1 ht1 hB1
  have hP1 : va_P D cls [] H1 := hP1
  have hD1 : va_D A [] := hD1
  refine W.widen (k := 0) (n := 0) (Nat.le_of_ble_eq_true rfl) (Nat.le_of_ble_eq_true rfl) ?_
  subst hr1
  refine lv_icmp_ge (tgt := 30) hx hb d_15_24_9 (by decide) (fun c => absurd c (by decide)) (fun _ => ?_)
  refine lv_lload_n hx hb d_15_24_12 rfl (lv_at hl 1 rfl) ?_
  refine lv_bipush (v := 8) hx hb d_15_24_13 (by decide) ?_
  refine lv_lshl hx hb d_15_24_15 rfl ?_
  refine lv_topl (fun y2 ey2 => ?_)
  obtain rfl : y2 = 0 := ey2.trans (by decide)
  refine lv_aload_n hx hb d_15_24_16 rfl (lv_at hl 2 rfl) ?_
  refine lv_iload_n hx hb d_15_24_17 rfl (lv_at hl 0 rfl) ?_
  have hFc3 := va_free (wc := []) hD1 hS1 hA [] rfl
  refine va_calli (va_runV (As := [.int 0]) (rest := [.long 0]) ⟨hx, hb, hml, hown, hts⟩ (c_String_charAt_14 l D ca ad av H1.size  ) (cwV 1 hts (gdV k_10_195 k_7_134 k_7_135 k_1_11 k_7_136) rfl rfl rfl (by decide +kernel) ⟨Nat.le_of_ble_eq_true rfl, Nat.le_of_ble_eq_true rfl⟩) ⟨gBlind, vk_recv (i := 0) (hX.2.2.2.2.1 4 _ rfl).2 (by decide) hS1, gAt hP1 hD1 hK hS1 hA hX [] (by decide) rfl [.ref (ad 4), .int 0]⟩ rfl rfl hl.1 rfl (lv_room (Nat.le_of_ble_eq_true rfl)) d_15_24_18 ⟨Nat.le_of_ble_eq_true rfl, Nat.le_of_ble_eq_true rfl⟩) hS1 (fun q _ h => hFc3 q h) hFc3 (fun r3 u3 t3 H3 locs3 ht3 hvm3 hw3 hB3 hz3 hk3 hS3 => ?_)
  have hr3 := hw3
  obtain ⟨hP3, hD3⟩ := gJoin (wr := []) (w1 := []) hP1 hD1 [] [] rfl rfl (by decide) (by decide) hk3 hFc3 ht3 hB3
  have hP3 : va_P D cls [] H3 := hP3
  have hD3 : va_D A [] := hD3
  refine W.widen (k := 0) (n := 0) (Nat.le_of_ble_eq_true rfl) (Nat.le_of_ble_eq_true rfl) ?_
  subst hr3
  refine lv_i2l hx hb d_15_24_21 rfl ?_
  refine lv_topl (fun y4 ey4 => ?_)
  obtain rfl : y4 = 116 := ey4.trans (by decide)
  refine lv_lor hx hb d_15_24_22 ?_
  refine lv_topl (fun y5 ey5 => ?_)
  obtain rfl : y5 = 116 := ey5.trans (by decide)
  refine lv_lstore_n (lv' := [(1, .long 116), (3, .int 0), (0, .ref (ad 4))]) hx hb d_15_24_23 rfl hl (by decide) rfl (fun ls hl => ?_)
  refine lv_iinc (v := 1) (lv' := [(3, .int 1), (1, .long 116), (0, .ref (ad 4))]) hx hb d_15_24_24 hl (k := 1) rfl (by decide) (by decide) rfl (fun ls hl => ?_)
  refine lv_goto (tgt := 4) hx hb d_15_24_27 (by decide) ?_
  refine lv_iload_n hx hb d_15_24_4 rfl (lv_at hl 0 rfl) ?_
  refine lv_aload_n hx hb d_15_24_5 rfl (lv_at hl 2 rfl) ?_
  have hFc6 := va_free (wc := []) hD3 hS3 hA [] rfl
  refine va_calli (va_runV (As := []) (rest := [.int 1]) ⟨hx, hb, hml, hown, hts⟩ (c_String_length_3 l D ca ad av H3.size  ) (cwV 0 hts (gdV k_10_194 k_3_82 k_3_83 k_1_11 k_3_84) rfl rfl rfl (by decide +kernel) ⟨Nat.le_of_ble_eq_true rfl, Nat.le_of_ble_eq_true rfl⟩) ⟨gBlind, vk_recv (i := 0) (hX.2.2.2.2.1 4 _ rfl).2 (by decide) hS3, gAt hP3 hD3 hK hS3 hA hX [] (by decide) rfl [.ref (ad 4)]⟩ rfl rfl hl.1 rfl (lv_room (Nat.le_of_ble_eq_true rfl)) d_15_24_6 ⟨Nat.le_of_ble_eq_true rfl, Nat.le_of_ble_eq_true rfl⟩) hS3 (fun q _ h => hFc6 q h) hFc6 (fun r6 u6 t6 H6 locs6 ht6 hvm6 hw6 hB6 hz6 hk6 hS6 => ?_)
  have hr6 := hw6
  obtain ⟨hP6, hD6⟩ := gJoin (wr := []) (w1 := []) hP3 hD3 [] [] rfl rfl (by decide) (by decide) hk6 hFc6 ht6 hB6
  have hP6 : va_P D cls [] H6 := hP6
  have hD6 : va_D A [] := hD6
  refine W.widen (k := 0) (n := 0) (Nat.le_of_ble_eq_true rfl) (Nat.le_of_ble_eq_true rfl) ?_
  subst hr6
  refine lv_icmp_ge (tgt := 30) hx hb d_15_24_9 (by decide) (fun c => absurd c (by decide)) (fun _ => ?_)
  refine lv_lload_n hx hb d_15_24_12 rfl (lv_at hl 1 rfl) ?_
  refine lv_bipush (v := 8) hx hb d_15_24_13 (by decide) ?_
  refine lv_lshl hx hb d_15_24_15 rfl ?_
  refine lv_topl (fun y7 ey7 => ?_)
  obtain rfl : y7 = 29696 := ey7.trans (by decide)
  refine lv_aload_n hx hb d_15_24_16 rfl (lv_at hl 2 rfl) ?_
  refine lv_iload_n hx hb d_15_24_17 rfl (lv_at hl 0 rfl) ?_
  have hFc8 := va_free (wc := []) hD6 hS6 hA [] rfl
  refine va_calli (va_runV (As := [.int 1]) (rest := [.long 29696]) ⟨hx, hb, hml, hown, hts⟩ (c_String_charAt_15 l D ca ad av H6.size  ) (cwV 1 hts (gdV k_10_195 k_7_134 k_7_135 k_1_11 k_7_136) rfl rfl rfl (by decide +kernel) ⟨Nat.le_of_ble_eq_true rfl, Nat.le_of_ble_eq_true rfl⟩) ⟨gBlind, vk_recv (i := 0) (hX.2.2.2.2.1 4 _ rfl).2 (by decide) hS6, gAt hP6 hD6 hK hS6 hA hX [] (by decide) rfl [.ref (ad 4), .int 1]⟩ rfl rfl hl.1 rfl (lv_room (Nat.le_of_ble_eq_true rfl)) d_15_24_18 ⟨Nat.le_of_ble_eq_true rfl, Nat.le_of_ble_eq_true rfl⟩) hS6 (fun q _ h => hFc8 q h) hFc8 (fun r8 u8 t8 H8 locs8 ht8 hvm8 hw8 hB8 hz8 hk8 hS8 => ?_)
  have hr8 := hw8
  obtain ⟨hP8, hD8⟩ := gJoin (wr := []) (w1 := []) hP6 hD6 [] [] rfl rfl (by decide) (by decide) hk8 hFc8 ht8 hB8
  have hP8 : va_P D cls [] H8 := hP8
  have hD8 : va_D A [] := hD8
  refine W.widen (k := 0) (n := 0) (Nat.le_of_ble_eq_true rfl) (Nat.le_of_ble_eq_true rfl) ?_
  subst hr8
  refine lv_i2l hx hb d_15_24_21 rfl ?_
  refine lv_topl (fun y9 ey9 => ?_)
  obtain rfl : y9 = 101 := ey9.trans (by decide)
  refine lv_lor hx hb d_15_24_22 ?_
  refine lv_topl (fun y10 ey10 => ?_)
  obtain rfl : y10 = 29797 := ey10.trans (by decide)
  refine lv_lstore_n (lv' := [(1, .long 29797), (3, .int 1), (0, .ref (ad 4))]) hx hb d_15_24_23 rfl hl (by decide) rfl (fun ls hl => ?_)
  refine lv_iinc (v := 2) (lv' := [(3, .int 2), (1, .long 29797), (0, .ref (ad 4))]) hx hb d_15_24_24 hl (k := 1) rfl (by decide) (by decide) rfl (fun ls hl => ?_)
  refine lv_goto (tgt := 4) hx hb d_15_24_27 (by decide) ?_
  refine lv_iload_n hx hb d_15_24_4 rfl (lv_at hl 0 rfl) ?_
  refine lv_aload_n hx hb d_15_24_5 rfl (lv_at hl 2 rfl) ?_
  have hFc11 := va_free (wc := []) hD8 hS8 hA [] rfl
  refine va_calli (va_runV (As := []) (rest := [.int 2]) ⟨hx, hb, hml, hown, hts⟩ (c_String_length_3 l D ca ad av H8.size  ) (cwV 0 hts (gdV k_10_194 k_3_82 k_3_83 k_1_11 k_3_84) rfl rfl rfl (by decide +kernel) ⟨Nat.le_of_ble_eq_true rfl, Nat.le_of_ble_eq_true rfl⟩) ⟨gBlind, vk_recv (i := 0) (hX.2.2.2.2.1 4 _ rfl).2 (by decide) hS8, gAt hP8 hD8 hK hS8 hA hX [] (by decide) rfl [.ref (ad 4)]⟩ rfl rfl hl.1 rfl (lv_room (Nat.le_of_ble_eq_true rfl)) d_15_24_6 ⟨Nat.le_of_ble_eq_true rfl, Nat.le_of_ble_eq_true rfl⟩) hS8 (fun q _ h => hFc11 q h) hFc11 (fun r11 u11 t11 H11 locs11 ht11 hvm11 hw11 hB11 hz11 hk11 hS11 => ?_)
  have hr11 := hw11
  obtain ⟨hP11, hD11⟩ := gJoin (wr := []) (w1 := []) hP8 hD8 [] [] rfl rfl (by decide) (by decide) hk11 hFc11 ht11 hB11
  have hP11 : va_P D cls [] H11 := hP11
  have hD11 : va_D A [] := hD11
  refine W.widen (k := 0) (n := 0) (Nat.le_of_ble_eq_true rfl) (Nat.le_of_ble_eq_true rfl) ?_
  subst hr11
  refine lv_icmp_ge (tgt := 30) hx hb d_15_24_9 (by decide) (fun c => absurd c (by decide)) (fun _ => ?_)
  refine lv_lload_n hx hb d_15_24_12 rfl (lv_at hl 1 rfl) ?_
  refine lv_bipush (v := 8) hx hb d_15_24_13 (by decide) ?_
  refine lv_lshl hx hb d_15_24_15 rfl ?_
  refine lv_topl (fun y12 ey12 => ?_)
  obtain rfl : y12 = 7628032 := ey12.trans (by decide)
  refine lv_aload_n hx hb d_15_24_16 rfl (lv_at hl 2 rfl) ?_
  refine lv_iload_n hx hb d_15_24_17 rfl (lv_at hl 0 rfl) ?_
  have hFc13 := va_free (wc := []) hD11 hS11 hA [] rfl
  refine va_calli (va_runV (As := [.int 2]) (rest := [.long 7628032]) ⟨hx, hb, hml, hown, hts⟩ (c_String_charAt_16 l D ca ad av H11.size  ) (cwV 1 hts (gdV k_10_195 k_7_134 k_7_135 k_1_11 k_7_136) rfl rfl rfl (by decide +kernel) ⟨Nat.le_of_ble_eq_true rfl, Nat.le_of_ble_eq_true rfl⟩) ⟨gBlind, vk_recv (i := 0) (hX.2.2.2.2.1 4 _ rfl).2 (by decide) hS11, gAt hP11 hD11 hK hS11 hA hX [] (by decide) rfl [.ref (ad 4), .int 2]⟩ rfl rfl hl.1 rfl (lv_room (Nat.le_of_ble_eq_true rfl)) d_15_24_18 ⟨Nat.le_of_ble_eq_true rfl, Nat.le_of_ble_eq_true rfl⟩) hS11 (fun q _ h => hFc13 q h) hFc13 (fun r13 u13 t13 H13 locs13 ht13 hvm13 hw13 hB13 hz13 hk13 hS13 => ?_)
  have hr13 := hw13
  obtain ⟨hP13, hD13⟩ := gJoin (wr := []) (w1 := []) hP11 hD11 [] [] rfl rfl (by decide) (by decide) hk13 hFc13 ht13 hB13
  have hP13 : va_P D cls [] H13 := hP13
  have hD13 : va_D A [] := hD13
  refine W.widen (k := 0) (n := 0) (Nat.le_of_ble_eq_true rfl) (Nat.le_of_ble_eq_true rfl) ?_
  subst hr13
  refine lv_i2l hx hb d_15_24_21 rfl ?_
  refine lv_topl (fun y14 ey14 => ?_)
  obtain rfl : y14 = 110 := ey14.trans (by decide)
  refine lv_lor hx hb d_15_24_22 ?_
  refine lv_topl (fun y15 ey15 => ?_)
  obtain rfl : y15 = 7628142 := ey15.trans (by decide)
  refine lv_lstore_n (lv' := [(1, .long 7628142), (3, .int 2), (0, .ref (ad 4))]) hx hb d_15_24_23 rfl hl (by decide) rfl (fun ls hl => ?_)
  refine lv_iinc (v := 3) (lv' := [(3, .int 3), (1, .long 7628142), (0, .ref (ad 4))]) hx hb d_15_24_24 hl (k := 1) rfl (by decide) (by decide) rfl (fun ls hl => ?_)
  refine lv_goto (tgt := 4) hx hb d_15_24_27 (by decide) ?_
  refine lv_iload_n hx hb d_15_24_4 rfl (lv_at hl 0 rfl) ?_
  refine lv_aload_n hx hb d_15_24_5 rfl (lv_at hl 2 rfl) ?_
  have hFc16 := va_free (wc := []) hD13 hS13 hA [] rfl
  refine va_calli (va_runV (As := []) (rest := [.int 3]) ⟨hx, hb, hml, hown, hts⟩ (c_String_length_3 l D ca ad av H13.size  ) (cwV 0 hts (gdV k_10_194 k_3_82 k_3_83 k_1_11 k_3_84) rfl rfl rfl (by decide +kernel) ⟨Nat.le_of_ble_eq_true rfl, Nat.le_of_ble_eq_true rfl⟩) ⟨gBlind, vk_recv (i := 0) (hX.2.2.2.2.1 4 _ rfl).2 (by decide) hS13, gAt hP13 hD13 hK hS13 hA hX [] (by decide) rfl [.ref (ad 4)]⟩ rfl rfl hl.1 rfl (lv_room (Nat.le_of_ble_eq_true rfl)) d_15_24_6 ⟨Nat.le_of_ble_eq_true rfl, Nat.le_of_ble_eq_true rfl⟩) hS13 (fun q _ h => hFc16 q h) hFc16 (fun r16 u16 t16 H16 locs16 ht16 hvm16 hw16 hB16 hz16 hk16 hS16 => ?_)
  have hr16 := hw16
  obtain ⟨hP16, hD16⟩ := gJoin (wr := []) (w1 := []) hP13 hD13 [] [] rfl rfl (by decide) (by decide) hk16 hFc16 ht16 hB16
  have hP16 : va_P D cls [] H16 := hP16
  have hD16 : va_D A [] := hD16
  refine W.widen (k := 0) (n := 0) (Nat.le_of_ble_eq_true rfl) (Nat.le_of_ble_eq_true rfl) ?_
  subst hr16
  refine lv_icmp_ge (tgt := 30) hx hb d_15_24_9 (by decide) (fun c => absurd c (by decide)) (fun _ => ?_)
  refine lv_lload_n hx hb d_15_24_12 rfl (lv_at hl 1 rfl) ?_
  refine lv_bipush (v := 8) hx hb d_15_24_13 (by decide) ?_
  refine lv_lshl hx hb d_15_24_15 rfl ?_
  refine lv_topl (fun y17 ey17 => ?_)
  obtain rfl : y17 = 1952804352 := ey17.trans (by decide)
  refine lv_aload_n hx hb d_15_24_16 rfl (lv_at hl 2 rfl) ?_
  refine lv_iload_n hx hb d_15_24_17 rfl (lv_at hl 0 rfl) ?_
  have hFc18 := va_free (wc := []) hD16 hS16 hA [] rfl
  refine va_calli (va_runV (As := [.int 3]) (rest := [.long 1952804352]) ⟨hx, hb, hml, hown, hts⟩ (c_String_charAt_17 l D ca ad av H16.size  ) (cwV 1 hts (gdV k_10_195 k_7_134 k_7_135 k_1_11 k_7_136) rfl rfl rfl (by decide +kernel) ⟨Nat.le_of_ble_eq_true rfl, Nat.le_of_ble_eq_true rfl⟩) ⟨gBlind, vk_recv (i := 0) (hX.2.2.2.2.1 4 _ rfl).2 (by decide) hS16, gAt hP16 hD16 hK hS16 hA hX [] (by decide) rfl [.ref (ad 4), .int 3]⟩ rfl rfl hl.1 rfl (lv_room (Nat.le_of_ble_eq_true rfl)) d_15_24_18 ⟨Nat.le_of_ble_eq_true rfl, Nat.le_of_ble_eq_true rfl⟩) hS16 (fun q _ h => hFc18 q h) hFc18 (fun r18 u18 t18 H18 locs18 ht18 hvm18 hw18 hB18 hz18 hk18 hS18 => ?_)
  have hr18 := hw18
  obtain ⟨hP18, hD18⟩ := gJoin (wr := []) (w1 := []) hP16 hD16 [] [] rfl rfl (by decide) (by decide) hk18 hFc18 ht18 hB18
  have hP18 : va_P D cls [] H18 := hP18
  have hD18 : va_D A [] := hD18
  refine W.widen (k := 0) (n := 0) (Nat.le_of_ble_eq_true rfl) (Nat.le_of_ble_eq_true rfl) ?_
  subst hr18
  refine lv_i2l hx hb d_15_24_21 rfl ?_
  refine lv_topl (fun y19 ey19 => ?_)
  obtain rfl : y19 = 111 := ey19.trans (by decide)
  refine lv_lor hx hb d_15_24_22 ?_
  refine lv_topl (fun y20 ey20 => ?_)
  obtain rfl : y20 = 1952804463 := ey20.trans (by decide)
  refine lv_lstore_n (lv' := [(1, .long 1952804463), (3, .int 3), (0, .ref (ad 4))]) hx hb d_15_24_23 rfl hl (by decide) rfl (fun ls hl => ?_)
  refine lv_iinc (v := 4) (lv' := [(3, .int 4), (1, .long 1952804463), (0, .ref (ad 4))]) hx hb d_15_24_24 hl (k := 1) rfl (by decide) (by decide) rfl (fun ls hl => ?_)
  refine lv_goto (tgt := 4) hx hb d_15_24_27 (by decide) ?_
  refine lv_iload_n hx hb d_15_24_4 rfl (lv_at hl 0 rfl) ?_
  refine lv_aload_n hx hb d_15_24_5 rfl (lv_at hl 2 rfl) ?_
  have hFc21 := va_free (wc := []) hD18 hS18 hA [] rfl
  refine va_calli (va_runV (As := []) (rest := [.int 4]) ⟨hx, hb, hml, hown, hts⟩ (c_String_length_3 l D ca ad av H18.size  ) (cwV 0 hts (gdV k_10_194 k_3_82 k_3_83 k_1_11 k_3_84) rfl rfl rfl (by decide +kernel) ⟨Nat.le_of_ble_eq_true rfl, Nat.le_of_ble_eq_true rfl⟩) ⟨gBlind, vk_recv (i := 0) (hX.2.2.2.2.1 4 _ rfl).2 (by decide) hS18, gAt hP18 hD18 hK hS18 hA hX [] (by decide) rfl [.ref (ad 4)]⟩ rfl rfl hl.1 rfl (lv_room (Nat.le_of_ble_eq_true rfl)) d_15_24_6 ⟨Nat.le_of_ble_eq_true rfl, Nat.le_of_ble_eq_true rfl⟩) hS18 (fun q _ h => hFc21 q h) hFc21 (fun r21 u21 t21 H21 locs21 ht21 hvm21 hw21 hB21 hz21 hk21 hS21 => ?_)
  have hr21 := hw21
  obtain ⟨hP21, hD21⟩ := gJoin (wr := []) (w1 := []) hP18 hD18 [] [] rfl rfl (by decide) (by decide) hk21 hFc21 ht21 hB21
  have hP21 : va_P D cls [] H21 := hP21
  have hD21 : va_D A [] := hD21
  refine W.widen (k := 0) (n := 0) (Nat.le_of_ble_eq_true rfl) (Nat.le_of_ble_eq_true rfl) ?_
  subst hr21
  refine lv_icmp_ge (tgt := 30) hx hb d_15_24_9 (by decide) (fun c => absurd c (by decide)) (fun _ => ?_)
  refine lv_lload_n hx hb d_15_24_12 rfl (lv_at hl 1 rfl) ?_
  refine lv_bipush (v := 8) hx hb d_15_24_13 (by decide) ?_
  refine lv_lshl hx hb d_15_24_15 rfl ?_
  refine lv_topl (fun y22 ey22 => ?_)
  obtain rfl : y22 = 499917942528 := ey22.trans (by decide)
  refine lv_aload_n hx hb d_15_24_16 rfl (lv_at hl 2 rfl) ?_
  refine lv_iload_n hx hb d_15_24_17 rfl (lv_at hl 0 rfl) ?_
  have hFc23 := va_free (wc := []) hD21 hS21 hA [] rfl
  refine va_calli (va_runV (As := [.int 4]) (rest := [.long 499917942528]) ⟨hx, hb, hml, hown, hts⟩ (c_String_charAt_18 l D ca ad av H21.size  ) (cwV 1 hts (gdV k_10_195 k_7_134 k_7_135 k_1_11 k_7_136) rfl rfl rfl (by decide +kernel) ⟨Nat.le_of_ble_eq_true rfl, Nat.le_of_ble_eq_true rfl⟩) ⟨gBlind, vk_recv (i := 0) (hX.2.2.2.2.1 4 _ rfl).2 (by decide) hS21, gAt hP21 hD21 hK hS21 hA hX [] (by decide) rfl [.ref (ad 4), .int 4]⟩ rfl rfl hl.1 rfl (lv_room (Nat.le_of_ble_eq_true rfl)) d_15_24_18 ⟨Nat.le_of_ble_eq_true rfl, Nat.le_of_ble_eq_true rfl⟩) hS21 (fun q _ h => hFc23 q h) hFc23 (fun r23 u23 t23 H23 locs23 ht23 hvm23 hw23 hB23 hz23 hk23 hS23 => ?_)
  have hr23 := hw23
  obtain ⟨hP23, hD23⟩ := gJoin (wr := []) (w1 := []) hP21 hD21 [] [] rfl rfl (by decide) (by decide) hk23 hFc23 ht23 hB23
  have hP23 : va_P D cls [] H23 := hP23
  have hD23 : va_D A [] := hD23
  refine W.widen (k := 0) (n := 0) (Nat.le_of_ble_eq_true rfl) (Nat.le_of_ble_eq_true rfl) ?_
  subst hr23
  refine lv_i2l hx hb d_15_24_21 rfl ?_
  refine lv_topl (fun y24 ey24 => ?_)
  obtain rfl : y24 = 114 := ey24.trans (by decide)
  refine lv_lor hx hb d_15_24_22 ?_
  refine lv_topl (fun y25 ey25 => ?_)
  obtain rfl : y25 = 499917942642 := ey25.trans (by decide)
  refine lv_lstore_n (lv' := [(1, .long 499917942642), (3, .int 4), (0, .ref (ad 4))]) hx hb d_15_24_23 rfl hl (by decide) rfl (fun ls hl => ?_)
  refine lv_iinc (v := 5) (lv' := [(3, .int 5), (1, .long 499917942642), (0, .ref (ad 4))]) hx hb d_15_24_24 hl (k := 1) rfl (by decide) (by decide) rfl (fun ls hl => ?_)
  refine lv_goto (tgt := 4) hx hb d_15_24_27 (by decide) ?_
  refine lv_iload_n hx hb d_15_24_4 rfl (lv_at hl 0 rfl) ?_
  refine lv_aload_n hx hb d_15_24_5 rfl (lv_at hl 2 rfl) ?_
  have hFc26 := va_free (wc := []) hD23 hS23 hA [] rfl
  refine va_calli (va_runV (As := []) (rest := [.int 5]) ⟨hx, hb, hml, hown, hts⟩ (c_String_length_3 l D ca ad av H23.size  ) (cwV 0 hts (gdV k_10_194 k_3_82 k_3_83 k_1_11 k_3_84) rfl rfl rfl (by decide +kernel) ⟨Nat.le_of_ble_eq_true rfl, Nat.le_of_ble_eq_true rfl⟩) ⟨gBlind, vk_recv (i := 0) (hX.2.2.2.2.1 4 _ rfl).2 (by decide) hS23, gAt hP23 hD23 hK hS23 hA hX [] (by decide) rfl [.ref (ad 4)]⟩ rfl rfl hl.1 rfl (lv_room (Nat.le_of_ble_eq_true rfl)) d_15_24_6 ⟨Nat.le_of_ble_eq_true rfl, Nat.le_of_ble_eq_true rfl⟩) hS23 (fun q _ h => hFc26 q h) hFc26 (fun r26 u26 t26 H26 locs26 ht26 hvm26 hw26 hB26 hz26 hk26 hS26 => ?_)
  have hr26 := hw26
  obtain ⟨hP26, hD26⟩ := gJoin (wr := []) (w1 := []) hP23 hD23 [] [] rfl rfl (by decide) (by decide) hk26 hFc26 ht26 hB26
  have hP26 : va_P D cls [] H26 := hP26
  have hD26 : va_D A [] := hD26
  refine W.widen (k := 0) (n := 0) (Nat.le_of_ble_eq_true rfl) (Nat.le_of_ble_eq_true rfl) ?_
  subst hr26
  refine lv_icmp_ge (tgt := 30) hx hb d_15_24_9 (by decide) (fun _ => ?_) (fun c => absurd (by decide) c)
  refine lv_lload_n hx hb d_15_24_30 rfl (lv_at hl 1 rfl) ?_
  have hP9 := hP26.sub (ws' := []) [] rfl
  have hD9 := hD26.sub (ws' := []) [] (by decide) rfl
  refine W.widen (k := 0) (n := 0) (Nat.le_of_ble_eq_true rfl) (Nat.le_of_ble_eq_true rfl) ?_
  exact W.lret (v := 499917942642) hx hb hr (fun t ht hW => ⟨⟨499917942642, (), rfl, rfl, by rw [ht]; exact hP9, va_K.moved hW.alike hK, hD9⟩, hS26.F ht⟩) hS26.2.2 d_15_24_31
abbrev Q_String_coder_4 (D : va_G) (ca : Nat → ClassId)  (A : Nat → Prop) : Array Value → State → Outcome → State → Prop := va_Qi (S := Unit) (fun (r : Int32) (u : Unit) => r = 0) (fun u => gB D ca A []) A
set_option maxHeartbeats 8000000 in
set_option maxRecDepth 100000 in
theorem c_String_coder_4 (l : Launch) (D : va_G) (ca : Nat → ClassId) (ad av : Nat → Nat) (sz : Nat)   : Met l ({ cls := "java/lang/String", name := "coder", desc := "()B" } : Jvm.MethodName) (Cond.code ({ cls := "java/lang/String", name := "coder", desc := "()B" } : Jvm.MethodName) prog_21_method_152_code 1 (Option.some Jvm.ClassFile.FieldType.byte) :: wAll) ({ frames := 0, cells := 0, slots := 0, locals := 0 } : Room) (va_Pc [.ref (ad 5)] (gPre D ca ad av [] sz)) (Q_String_coder_4 D ca  (va_A [] sz)) 0 0 (va_A [] sz) := by
  refine gMet (Qc := Q_String_coder_4 D ca ) (lv := [(0, .ref (ad 5))]) (by decide) (Nat.le_of_ble_eq_true rfl) rfl (fun A p e s m below meth c ls hx hb hr hml hown hts hlk hnm hl hP hK hD hS hA hX => ?_)
  have hown : s.vm.findClass "java/lang/String" = some m.cls := hown
  have hnm : meth.name = "coder" := hnm
  refine va_gets hx hb (hX.2.2.2.1 _ (List.mem_of_getElem? (i := 0) rfl)) hS hown (hts _ k_3_79) (fun _ h => h) d_21_152_0 ?_
  refine lv_if_eq (tgt := 13) hx hb d_21_152_3 (by decide) (fun c => absurd c (by decide)) (fun _ => ?_)
  refine lv_aload_n hx hb d_21_152_6 rfl (lv_at hl 0 rfl) ?_
  refine vk_getf hx hb ((hX.2.2.2.2.1 5 _ rfl).2.1 0 (by decide)).2.1 hS hown (hts _ k_15_171) (fun _ h => h) d_21_152_7 ?_
  refine W.eq (g2 := F0 m 10 ls [.int 0]) rfl ?_
  refine lv_goto (tgt := 14) hx hb d_21_152_10 (by decide) ?_
  have hP9 := hP.sub (ws' := []) [] rfl
  have hD9 := hD.sub (ws' := []) [] (by decide) rfl
  refine W.widen (k := 0) (n := 0) (Nat.le_of_ble_eq_true rfl) (Nat.le_of_ble_eq_true rfl) ?_
  exact W.zret (v := 0) hx hb hr rfl (fun t ht hW => ⟨⟨0, (), rfl, rfl, by rw [ht]; exact hP9, va_K.moved hW.alike hK, hD9⟩, hS.F ht⟩) hS.2.2 d_21_152_14
abbrev Q_String_length_4 (D : va_G) (ca : Nat → ClassId)  (A : Nat → Prop) : Array Value → State → Outcome → State → Prop := va_Qi (S := Unit) (fun (r : Int32) (u : Unit) => r = 3) (fun u => gB D ca A []) A
set_option maxHeartbeats 8000000 in
set_option maxRecDepth 100000 in
theorem c_String_length_4 (l : Launch) (D : va_G) (ca : Nat → ClassId) (ad av : Nat → Nat) (sz : Nat)   : Met l ({ cls := "java/lang/String", name := "length", desc := "()I" } : Jvm.MethodName) (Cond.code ({ cls := "java/lang/String", name := "length", desc := "()I" } : Jvm.MethodName) prog_21_method_54_code 1 (Option.some Jvm.ClassFile.FieldType.int) :: wAll) ({ frames := 1, cells := 0, slots := 0, locals := 20 } : Room) (va_Pc [.ref (ad 5)] (gPre D ca ad av [] sz)) (Q_String_length_4 D ca  (va_A [] sz)) 0 0 (va_A [] sz) := by
  refine gMet (Qc := Q_String_length_4 D ca ) (lv := [(0, .ref (ad 5))]) (by decide) (Nat.le_of_ble_eq_true rfl) rfl (fun A p e s m below meth c ls hx hb hr hml hown hts hlk hnm hl hP hK hD hS hA hX => ?_)
  have hown : s.vm.findClass "java/lang/String" = some m.cls := hown
  have hnm : meth.name = "length" := hnm
  refine lv_aload_n hx hb d_21_54_0 rfl (lv_at hl 0 rfl) ?_
  refine vk_getf hx hb ((hX.2.2.2.2.1 5 _ rfl).2.1 0 (by decide)).2.2.1 hS hown (hts _ k_15_170) (fun _ h => h) d_21_54_1 ?_
  refine W.eq (g2 := F0 m 4 ls [.ref (av 5)]) rfl ?_
  refine va_tlen (v := 3) hx hb ((hX.2.2.2.2.1 5 _ rfl).2.1 0 (by decide)).2.2.2 hS (by decide) d_21_54_4 ?_
  refine lv_aload_n hx hb d_21_54_5 rfl (lv_at hl 0 rfl) ?_
  have hFc1 := va_free (wc := []) hD hS hA [] rfl
  refine va_calli (va_runV (As := []) (rest := [.int 3]) ⟨hx, hb, hml, hown, hts⟩ (c_String_coder_4 l D ca ad av s.heap.size  ) (cwV 0 hts (gdV k_3_85 k_3_86 k_3_87 k_1_11 k_3_88) rfl rfl rfl (by decide +kernel) ⟨Nat.le_of_ble_eq_true rfl, Nat.le_of_ble_eq_true rfl⟩) ⟨gBlind, vk_recv (i := 0) (hX.2.2.2.2.1 5 _ rfl).2 (by decide) hS, gAt hP hD hK hS hA hX [] (by decide) rfl [.ref (ad 5)]⟩ rfl rfl hl.1 rfl (lv_room (Nat.le_of_ble_eq_true rfl)) d_21_54_6 ⟨Nat.le_of_ble_eq_true rfl, Nat.le_of_ble_eq_true rfl⟩) hS (fun q _ h => hFc1 q h) hFc1 (fun r1 u1 t1 H1 locs1 ht1 hvm1 hw1 hB1 hz1 hk1 hS1 => ?_)
  have hr1 := hw1
  obtain ⟨hP1, hD1⟩ := gJoin (wr := []) (w1 := []) hP hD [] [] rfl rfl (by decide) (by decide) hk1 hFc1 ht1 hB1
  have hP1 : va_P D cls [] H1 := hP1
  have hD1 : va_D A [] := hD1
  refine W.widen (k := 0) (n := 0) (Nat.le_of_ble_eq_true rfl) (Nat.le_of_ble_eq_true rfl) ?_
  subst hr1
  refine lv_ishr hx hb d_21_54_9 ?_
  refine lv_topi (fun y2 ey2 => ?_)
  obtain rfl : y2 = 3 := ey2.trans (by decide)
  have hP9 := hP1.sub (ws' := []) [] rfl
  have hD9 := hD1.sub (ws' := []) [] (by decide) rfl
  refine W.widen (k := 0) (n := 0) (Nat.le_of_ble_eq_true rfl) (Nat.le_of_ble_eq_true rfl) ?_
  exact W.iret (v := 3) hx hb hr (fun t ht hW => ⟨⟨3, (), rfl, rfl, by rw [ht]; exact hP9, va_K.moved hW.alike hK, hD9⟩, hS1.F ht⟩) hS1.2.2 d_21_54_10
abbrev Q_String_isLatin1_4 (D : va_G) (ca : Nat → ClassId)  (A : Nat → Prop) : Array Value → State → Outcome → State → Prop := va_Qi (S := Unit) (fun (r : Int32) (u : Unit) => r = 1) (fun u => gB D ca A []) A
set_option maxHeartbeats 8000000 in
set_option maxRecDepth 100000 in
theorem c_String_isLatin1_4 (l : Launch) (D : va_G) (ca : Nat → ClassId) (ad av : Nat → Nat) (sz : Nat)   : Met l ({ cls := "java/lang/String", name := "isLatin1", desc := "()Z" } : Jvm.MethodName) (Cond.code ({ cls := "java/lang/String", name := "isLatin1", desc := "()Z" } : Jvm.MethodName) prog_21_method_154_code 1 (Option.some Jvm.ClassFile.FieldType.boolean) :: wAll) ({ frames := 0, cells := 0, slots := 0, locals := 0 } : Room) (va_Pc [.ref (ad 5)] (gPre D ca ad av [] sz)) (Q_String_isLatin1_4 D ca  (va_A [] sz)) 0 0 (va_A [] sz) := by
  refine gMet (Qc := Q_String_isLatin1_4 D ca ) (lv := [(0, .ref (ad 5))]) (by decide) (Nat.le_of_ble_eq_true rfl) rfl (fun A p e s m below meth c ls hx hb hr hml hown hts hlk hnm hl hP hK hD hS hA hX => ?_)
  have hown : s.vm.findClass "java/lang/String" = some m.cls := hown
  have hnm : meth.name = "isLatin1" := hnm
  refine va_gets hx hb (hX.2.2.2.1 _ (List.mem_of_getElem? (i := 0) rfl)) hS hown (hts _ k_3_79) (fun _ h => h) d_21_154_0 ?_
  refine lv_if_eq (tgt := 17) hx hb d_21_154_3 (by decide) (fun c => absurd c (by decide)) (fun _ => ?_)
  refine lv_aload_n hx hb d_21_154_6 rfl (lv_at hl 0 rfl) ?_
  refine vk_getf hx hb ((hX.2.2.2.2.1 5 _ rfl).2.1 0 (by decide)).2.1 hS hown (hts _ k_15_171) (fun _ h => h) d_21_154_7 ?_
  refine W.eq (g2 := F0 m 10 ls [.int 0]) rfl ?_
  refine lv_if_ne (tgt := 17) hx hb d_21_154_10 (by decide) (fun c => absurd c (by decide)) (fun _ => ?_)
  refine lv_iconst (v := 1) hx hb d_21_154_13 (by decide) ?_
  refine lv_goto (tgt := 18) hx hb d_21_154_14 (by decide) ?_
  have hP9 := hP.sub (ws' := []) [] rfl
  have hD9 := hD.sub (ws' := []) [] (by decide) rfl
  refine W.widen (k := 0) (n := 0) (Nat.le_of_ble_eq_true rfl) (Nat.le_of_ble_eq_true rfl) ?_
  exact W.zret (v := 1) hx hb hr rfl (fun t ht hW => ⟨⟨1, (), rfl, rfl, by rw [ht]; exact hP9, va_K.moved hW.alike hK, hD9⟩, hS.F ht⟩) hS.2.2 d_21_154_18
abbrev Q_Preconditions_checkIndex_30 (D : va_G) (ca : Nat → ClassId)  (A : Nat → Prop) : Array Value → State → Outcome → State → Prop := va_Qi (S := Unit) (fun (r : Int32) (u : Unit) => r = 0) (fun u => gB D ca A []) A
set_option maxHeartbeats 8000000 in
set_option maxRecDepth 100000 in
theorem c_Preconditions_checkIndex_30 (l : Launch) (D : va_G) (ca : Nat → ClassId) (ad av : Nat → Nat) (sz : Nat)   : Met l ({ cls := "jdk/internal/util/Preconditions", name := "checkIndex", desc := "(IILjava/util/function/BiFunction;)I" } : Jvm.MethodName) (Cond.code ({ cls := "jdk/internal/util/Preconditions", name := "checkIndex", desc := "(IILjava/util/function/BiFunction;)I" } : Jvm.MethodName) prog_24_method_11_code 3 (Option.some Jvm.ClassFile.FieldType.int) :: wAll) ({ frames := 0, cells := 0, slots := 0, locals := 0 } : Room) (va_Pc [.int 0, .int 3, .null] (gPre D ca ad av [] sz)) (Q_Preconditions_checkIndex_30 D ca  (va_A [] sz)) 0 0 (va_A [] sz) := by
  refine gMet (Qc := Q_Preconditions_checkIndex_30 D ca ) (lv := [(0, .int 0), (1, .int 3), (2, .null)]) (by decide) (Nat.le_of_ble_eq_true rfl) rfl (fun A p e s m below meth c ls hx hb hr hml hown hts hlk hnm hl hP hK hD hS hA hX => ?_)
  have hown : s.vm.findClass "jdk/internal/util/Preconditions" = some m.cls := hown
  have hnm : meth.name = "checkIndex" := hnm
  refine lv_iload_n hx hb d_24_11_0 rfl (lv_at hl 0 rfl) ?_
  refine lv_if_lt (tgt := 9) hx hb d_24_11_1 (by decide) (fun c => absurd c (by decide)) (fun _ => ?_)
  refine lv_iload_n hx hb d_24_11_4 rfl (lv_at hl 0 rfl) ?_
  refine lv_iload_n hx hb d_24_11_5 rfl (lv_at hl 1 rfl) ?_
  refine lv_icmp_lt (tgt := 16) hx hb d_24_11_6 (by decide) (fun _ => ?_) (fun c => absurd (by decide) c)
  refine lv_iload_n hx hb d_24_11_16 rfl (lv_at hl 0 rfl) ?_
  have hP9 := hP.sub (ws' := []) [] rfl
  have hD9 := hD.sub (ws' := []) [] (by decide) rfl
  refine W.widen (k := 0) (n := 0) (Nat.le_of_ble_eq_true rfl) (Nat.le_of_ble_eq_true rfl) ?_
  exact W.iret (v := 0) hx hb hr (fun t ht hW => ⟨⟨0, (), rfl, rfl, by rw [ht]; exact hP9, va_K.moved hW.alike hK, hD9⟩, hS.F ht⟩) hS.2.2 d_24_11_17
abbrev Q_Preconditions_checkIndex_31 (D : va_G) (ca : Nat → ClassId) (r0 : Nat) (A : Nat → Prop) : Array Value → State → Outcome → State → Prop := va_Qi (S := Unit) (fun (r : Int32) (u : Unit) => r = 0) (fun u => gB D ca A []) A
set_option maxHeartbeats 8000000 in
set_option maxRecDepth 100000 in
theorem c_Preconditions_checkIndex_31 (l : Launch) (D : va_G) (ca : Nat → ClassId) (ad av : Nat → Nat) (sz : Nat) (r0 : Nat)  : Met l ({ cls := "jdk/internal/util/Preconditions", name := "checkIndex", desc := "(IILjava/util/function/BiFunction;)I" } : Jvm.MethodName) (Cond.code ({ cls := "jdk/internal/util/Preconditions", name := "checkIndex", desc := "(IILjava/util/function/BiFunction;)I" } : Jvm.MethodName) prog_24_method_11_code 3 (Option.some Jvm.ClassFile.FieldType.int) :: wAll) ({ frames := 0, cells := 0, slots := 0, locals := 0 } : Room) (va_Pc [.int 0, .int 3, .ref r0] (gPre D ca ad av [] sz)) (Q_Preconditions_checkIndex_31 D ca r0 (va_A [] sz)) 0 0 (va_A [] sz) := by
  refine gMet (Qc := Q_Preconditions_checkIndex_31 D ca r0) (lv := [(0, .int 0), (1, .int 3), (2, .ref r0)]) (by decide) (Nat.le_of_ble_eq_true rfl) rfl (fun A p e s m below meth c ls hx hb hr hml hown hts hlk hnm hl hP hK hD hS hA hX => ?_)
  have hown : s.vm.findClass "jdk/internal/util/Preconditions" = some m.cls := hown
  have hnm : meth.name = "checkIndex" := hnm
  refine lv_iload_n hx hb d_24_11_0 rfl (lv_at hl 0 rfl) ?_
  refine lv_if_lt (tgt := 9) hx hb d_24_11_1 (by decide) (fun c => absurd c (by decide)) (fun _ => ?_)
  refine lv_iload_n hx hb d_24_11_4 rfl (lv_at hl 0 rfl) ?_
  refine lv_iload_n hx hb d_24_11_5 rfl (lv_at hl 1 rfl) ?_
  refine lv_icmp_lt (tgt := 16) hx hb d_24_11_6 (by decide) (fun _ => ?_) (fun c => absurd (by decide) c)
  refine lv_iload_n hx hb d_24_11_16 rfl (lv_at hl 0 rfl) ?_
  have hP9 := hP.sub (ws' := []) [] rfl
  have hD9 := hD.sub (ws' := []) [] (by decide) rfl
  refine W.widen (k := 0) (n := 0) (Nat.le_of_ble_eq_true rfl) (Nat.le_of_ble_eq_true rfl) ?_
  exact W.iret (v := 0) hx hb hr (fun t ht hW => ⟨⟨0, (), rfl, rfl, by rw [ht]; exact hP9, va_K.moved hW.alike hK, hD9⟩, hS.F ht⟩) hS.2.2 d_24_11_17
abbrev Q_String_checkIndex_15 (D : va_G) (ca : Nat → ClassId)  (A : Nat → Prop) : Array Value → State → Outcome → State → Prop := va_Qv (S := Unit) (fun (u : Unit) => True) (fun u => gB D ca A []) A
set_option maxHeartbeats 8000000 in
set_option maxRecDepth 100000 in
theorem c_String_checkIndex_15 (l : Launch) (D : va_G) (ca : Nat → ClassId) (ad av : Nat → Nat) (sz : Nat)   : Met l ({ cls := "java/lang/String", name := "checkIndex", desc := "(II)V" } : Jvm.MethodName) (Cond.code ({ cls := "java/lang/String", name := "checkIndex", desc := "(II)V" } : Jvm.MethodName) prog_21_method_155_code 2 (Option.none : Option Jvm.ClassFile.FieldType) :: wAll) ({ frames := 1, cells := 0, slots := 0, locals := 22 } : Room) (va_Pc [.int 0, .int 3] (gPre D ca ad av [] sz)) (Q_String_checkIndex_15 D ca  (va_A [] sz)) 0 0 (va_A [] sz) := by
  refine gMet (Qc := Q_String_checkIndex_15 D ca ) (lv := [(0, .int 0), (1, .int 3)]) (by decide) (Nat.le_of_ble_eq_true rfl) rfl (fun A p e s m below meth c ls hx hb hr hml hown hts hlk hnm hl hP hK hD hS hA hX => ?_)
  have hown : s.vm.findClass "java/lang/String" = some m.cls := hown
  have hnm : meth.name = "checkIndex" := hnm
  refine lv_iload_n hx hb d_21_155_0 rfl (lv_at hl 0 rfl) ?_
  refine lv_iload_n hx hb d_21_155_1 rfl (lv_at hl 1 rfl) ?_
  rcases hX.2.2.2.2.2 with hz1 | ⟨tz1, hz1⟩
  · refine va_gets hx hb hz1 hS hown (hts _ k_3_120) (fun _ h => h) d_21_155_2 ?_
    have hFc2 := va_free (wc := []) hD hS hA [] rfl
    refine va_calli (va_runS (As := [.int 0, .int 3, .null]) (rest := []) ⟨hx, hb, hml, hown, hts⟩ (c_Preconditions_checkIndex_30 l D ca ad av s.heap.size  ) (va_cwS 3 hts (gdS k_7_143 k_7_144 k_1_13 k_7_145) rfl rfl rfl (by decide +kernel) ⟨Nat.le_of_ble_eq_true rfl, Nat.le_of_ble_eq_true rfl⟩) (gPS hP hD hK hS hA hX [] (by decide) rfl [.int 0, .int 3, .null]) rfl rfl hl.1 rfl (lv_room (Nat.le_of_ble_eq_true rfl)) d_21_155_5 ⟨Nat.le_of_ble_eq_true rfl, Nat.le_of_ble_eq_true rfl⟩) hS (fun q _ h => hFc2 q h) hFc2 (fun r2 u2 t2 H2 locs2 ht2 hvm2 hw2 hB2 hz2 hk2 hS2 => ?_)
    have hr2 := hw2
    obtain ⟨hP2, hD2⟩ := gJoin (wr := []) (w1 := []) hP hD [] [] rfl rfl (by decide) (by decide) hk2 hFc2 ht2 hB2
    have hP2 : va_P D cls [] H2 := hP2
    have hD2 : va_D A [] := hD2
    refine W.widen (k := 0) (n := 0) (Nat.le_of_ble_eq_true rfl) (Nat.le_of_ble_eq_true rfl) ?_
    subst hr2
    refine lv_pop hx hb d_21_155_8 rfl ?_
    have hP9 := hP2.sub (ws' := []) [] rfl
    have hD9 := hD2.sub (ws' := []) [] (by decide) rfl
    refine W.widen (k := 0) (n := 0) (Nat.le_of_ble_eq_true rfl) (Nat.le_of_ble_eq_true rfl) ?_
    exact W.vret hx hb hr (fun t ht hW => ⟨⟨(), rfl, trivial, by rw [ht]; exact hP9, va_K.moved hW.alike hK, hD9⟩, hS2.F ht⟩) hS2.2.2 d_21_155_9
  · refine va_gets hx hb hz1 hS hown (hts _ k_3_120) (fun _ h => h) d_21_155_2 ?_
    have hFc3 := va_free (wc := []) hD hS hA [] rfl
    refine va_calli (va_runS (As := [.int 0, .int 3, .ref tz1]) (rest := []) ⟨hx, hb, hml, hown, hts⟩ (c_Preconditions_checkIndex_31 l D ca ad av s.heap.size tz1 ) (va_cwS 3 hts (gdS k_7_143 k_7_144 k_1_13 k_7_145) rfl rfl rfl (by decide +kernel) ⟨Nat.le_of_ble_eq_true rfl, Nat.le_of_ble_eq_true rfl⟩) (gPS hP hD hK hS hA hX [] (by decide) rfl [.int 0, .int 3, .ref tz1]) rfl rfl hl.1 rfl (lv_room (Nat.le_of_ble_eq_true rfl)) d_21_155_5 ⟨Nat.le_of_ble_eq_true rfl, Nat.le_of_ble_eq_true rfl⟩) hS (fun q _ h => hFc3 q h) hFc3 (fun r3 u3 t3 H3 locs3 ht3 hvm3 hw3 hB3 hz3 hk3 hS3 => ?_)
    have hr3 := hw3
    obtain ⟨hP3, hD3⟩ := gJoin (wr := []) (w1 := []) hP hD [] [] rfl rfl (by decide) (by decide) hk3 hFc3 ht3 hB3
    have hP3 : va_P D cls [] H3 := hP3
    have hD3 : va_D A [] := hD3
    refine W.widen (k := 0) (n := 0) (Nat.le_of_ble_eq_true rfl) (Nat.le_of_ble_eq_true rfl) ?_
    subst hr3
    refine lv_pop hx hb d_21_155_8 rfl ?_
    have hP9 := hP3.sub (ws' := []) [] rfl
    have hD9 := hD3.sub (ws' := []) [] (by decide) rfl
    refine W.widen (k := 0) (n := 0) (Nat.le_of_ble_eq_true rfl) (Nat.le_of_ble_eq_true rfl) ?_
    exact W.vret hx hb hr (fun t ht hW => ⟨⟨(), rfl, trivial, by rw [ht]; exact hP9, va_K.moved hW.alike hK, hD9⟩, hS3.F ht⟩) hS3.2.2 d_21_155_9
abbrev Q_StringLatin1_charAt_19 (D : va_G) (ca : Nat → ClassId)  (A : Nat → Prop) : Array Value → State → Outcome → State → Prop := va_Qi (S := Unit) (fun (r : Int32) (u : Unit) => r = 112) (fun u => gB D ca A []) A
set_option maxHeartbeats 8000000 in
set_option maxRecDepth 100000 in
theorem c_StringLatin1_charAt_19 (l : Launch) (D : va_G) (ca : Nat → ClassId) (ad av : Nat → Nat) (sz : Nat)   : Met l ({ cls := "java/lang/StringLatin1", name := "charAt", desc := "([BI)C" } : Jvm.MethodName) (Cond.code ({ cls := "java/lang/StringLatin1", name := "charAt", desc := "([BI)C" } : Jvm.MethodName) prog_22_method_2_code 2 (Option.some Jvm.ClassFile.FieldType.char) :: wAll) ({ frames := 2, cells := 0, slots := 0, locals := 43 } : Room) (va_Pc [.ref (av 5), .int 0] (gPre D ca ad av [] sz)) (Q_StringLatin1_charAt_19 D ca  (va_A [] sz)) 0 0 (va_A [] sz) := by
  refine gMet (Qc := Q_StringLatin1_charAt_19 D ca ) (lv := [(0, .ref (av 5)), (1, .int 0)]) (by decide) (Nat.le_of_ble_eq_true rfl) rfl (fun A p e s m below meth c ls hx hb hr hml hown hts hlk hnm hl hP hK hD hS hA hX => ?_)
  have hown : s.vm.findClass "java/lang/StringLatin1" = some m.cls := hown
  have hnm : meth.name = "charAt" := hnm
  refine lv_iload_n hx hb d_22_2_0 rfl (lv_at hl 1 rfl) ?_
  refine lv_aload_n hx hb d_22_2_1 rfl (lv_at hl 0 rfl) ?_
  refine va_tlen (v := 3) hx hb ((hX.2.2.2.2.1 5 _ rfl).2.1 0 (by decide)).2.2.2 hS (by decide) d_22_2_2 ?_
  have hFc1 := va_free (wc := []) hD hS hA [] rfl
  refine va_callv (va_runS (As := [.int 0, .int 3]) (rest := []) ⟨hx, hb, hml, hown, hts⟩ (c_String_checkIndex_15 l D ca ad av s.heap.size  ) (va_cwS 2 hts (gdS k_7_140 k_7_141 k_1_11 k_7_142) rfl rfl rfl (by decide +kernel) ⟨Nat.le_of_ble_eq_true rfl, Nat.le_of_ble_eq_true rfl⟩) (gPS hP hD hK hS hA hX [] (by decide) rfl [.int 0, .int 3]) rfl rfl hl.1 rfl (lv_room (Nat.le_of_ble_eq_true rfl)) d_22_2_3 ⟨Nat.le_of_ble_eq_true rfl, Nat.le_of_ble_eq_true rfl⟩) hS (fun q _ h => hFc1 q h) hFc1 (fun u1 t1 H1 locs1 ht1 hvm1 hw1 hB1 hz1 hk1 hS1 => ?_)
  obtain ⟨hP1, hD1⟩ := gJoin (wr := []) (w1 := []) hP hD [] [] rfl rfl (by decide) (by decide) hk1 hFc1 ht1 hB1
  have hP1 : va_P D cls [] H1 := hP1
  have hD1 : va_D A [] := hD1
  refine W.widen (k := 0) (n := 0) (Nat.le_of_ble_eq_true rfl) (Nat.le_of_ble_eq_true rfl) ?_
  refine lv_aload_n hx hb d_22_2_6 rfl (lv_at hl 0 rfl) ?_
  refine lv_iload_n hx hb d_22_2_7 rfl (lv_at hl 1 rfl) ?_
  refine va_tb (v := .int 112) hx hb ((hX.2.2.2.2.1 5 _ rfl).2.1 0 (by decide)).2.2.2 hS1 (vinC (by decide)) rfl d_22_2_8 ?_
  refine lv_sipush (v := 255) hx hb d_22_2_9 (by decide) ?_
  refine lv_iand hx hb d_22_2_12 ?_
  refine lv_topi (fun y2 ey2 => ?_)
  obtain rfl : y2 = 112 := ey2.trans (by decide)
  refine lv_i2c hx hb d_22_2_13 rfl ?_
  refine lv_topi (fun y3 ey3 => ?_)
  obtain rfl : y3 = 112 := ey3.trans (by decide)
  have hP9 := hP1.sub (ws' := []) [] rfl
  have hD9 := hD1.sub (ws' := []) [] (by decide) rfl
  refine W.widen (k := 0) (n := 0) (Nat.le_of_ble_eq_true rfl) (Nat.le_of_ble_eq_true rfl) ?_
  exact W.zret (v := 112) hx hb hr rfl (fun t ht hW => ⟨⟨112, (), rfl, rfl, by rw [ht]; exact hP9, va_K.moved hW.alike hK, hD9⟩, hS1.F ht⟩) hS1.2.2 d_22_2_14
abbrev Q_String_charAt_19 (D : va_G) (ca : Nat → ClassId)  (A : Nat → Prop) : Array Value → State → Outcome → State → Prop := va_Qi (S := Unit) (fun (r : Int32) (u : Unit) => r = 112) (fun u => gB D ca A []) A
set_option maxHeartbeats 8000000 in
set_option maxRecDepth 100000 in
theorem c_String_charAt_19 (l : Launch) (D : va_G) (ca : Nat → ClassId) (ad av : Nat → Nat) (sz : Nat)   : Met l ({ cls := "java/lang/String", name := "charAt", desc := "(I)C" } : Jvm.MethodName) (Cond.code ({ cls := "java/lang/String", name := "charAt", desc := "(I)C" } : Jvm.MethodName) prog_21_method_56_code 2 (Option.some Jvm.ClassFile.FieldType.char) :: wAll) ({ frames := 3, cells := 0, slots := 0, locals := 64 } : Room) (va_Pc [.ref (ad 5), .int 0] (gPre D ca ad av [] sz)) (Q_String_charAt_19 D ca  (va_A [] sz)) 0 0 (va_A [] sz) := by
  refine gMet (Qc := Q_String_charAt_19 D ca ) (lv := [(0, .ref (ad 5)), (1, .int 0)]) (by decide) (Nat.le_of_ble_eq_true rfl) rfl (fun A p e s m below meth c ls hx hb hr hml hown hts hlk hnm hl hP hK hD hS hA hX => ?_)
  have hown : s.vm.findClass "java/lang/String" = some m.cls := hown
  have hnm : meth.name = "charAt" := hnm
  refine lv_aload_n hx hb d_21_56_0 rfl (lv_at hl 0 rfl) ?_
  have hFc1 := va_free (wc := []) hD hS hA [] rfl
  refine va_calli (va_runV (As := []) (rest := []) ⟨hx, hb, hml, hown, hts⟩ (c_String_isLatin1_4 l D ca ad av s.heap.size  ) (cwV 0 hts (gdV k_3_75 k_3_76 k_3_77 k_1_11 k_3_78) rfl rfl rfl (by decide +kernel) ⟨Nat.le_of_ble_eq_true rfl, Nat.le_of_ble_eq_true rfl⟩) ⟨gBlind, vk_recv (i := 0) (hX.2.2.2.2.1 5 _ rfl).2 (by decide) hS, gAt hP hD hK hS hA hX [] (by decide) rfl [.ref (ad 5)]⟩ rfl rfl hl.1 rfl (lv_room (Nat.le_of_ble_eq_true rfl)) d_21_56_1 ⟨Nat.le_of_ble_eq_true rfl, Nat.le_of_ble_eq_true rfl⟩) hS (fun q _ h => hFc1 q h) hFc1 (fun r1 u1 t1 H1 locs1 ht1 hvm1 hw1 hB1 hz1 hk1 hS1 => ?_)
  have hr1 := hw1
  obtain ⟨hP1, hD1⟩ := gJoin (wr := []) (w1 := []) hP hD [] [] rfl rfl (by decide) (by decide) hk1 hFc1 ht1 hB1
  have hP1 : va_P D cls [] H1 := hP1
  have hD1 : va_D A [] := hD1
  refine W.widen (k := 0) (n := 0) (Nat.le_of_ble_eq_true rfl) (Nat.le_of_ble_eq_true rfl) ?_
  subst hr1
  refine lv_if_eq (tgt := 16) hx hb d_21_56_4 (by decide) (fun c => absurd c (by decide)) (fun _ => ?_)
  refine lv_aload_n hx hb d_21_56_7 rfl (lv_at hl 0 rfl) ?_
  refine vk_getf hx hb ((hX.2.2.2.2.1 5 _ rfl).2.1 0 (by decide)).2.2.1 hS1 hown (hts _ k_15_170) (fun _ h => h) d_21_56_8 ?_
  refine W.eq (g2 := F0 m 11 ls [.ref (av 5)]) rfl ?_
  refine lv_iload_n hx hb d_21_56_11 rfl (lv_at hl 1 rfl) ?_
  have hFc2 := va_free (wc := []) hD1 hS1 hA [] rfl
  refine va_calli (va_runS (As := [.ref (av 5), .int 0]) (rest := []) ⟨hx, hb, hml, hown, hts⟩ (c_StringLatin1_charAt_19 l D ca ad av H1.size  ) (va_cwS 2 hts (gdS k_7_137 k_7_138 k_1_12 k_7_139) rfl rfl rfl (by decide +kernel) ⟨Nat.le_of_ble_eq_true rfl, Nat.le_of_ble_eq_true rfl⟩) (gPS hP1 hD1 hK hS1 hA hX [] (by decide) rfl [.ref (av 5), .int 0]) rfl rfl hl.1 rfl (lv_room (Nat.le_of_ble_eq_true rfl)) d_21_56_12 ⟨Nat.le_of_ble_eq_true rfl, Nat.le_of_ble_eq_true rfl⟩) hS1 (fun q _ h => hFc2 q h) hFc2 (fun r2 u2 t2 H2 locs2 ht2 hvm2 hw2 hB2 hz2 hk2 hS2 => ?_)
  have hr2 := hw2
  obtain ⟨hP2, hD2⟩ := gJoin (wr := []) (w1 := []) hP1 hD1 [] [] rfl rfl (by decide) (by decide) hk2 hFc2 ht2 hB2
  have hP2 : va_P D cls [] H2 := hP2
  have hD2 : va_D A [] := hD2
  refine W.widen (k := 0) (n := 0) (Nat.le_of_ble_eq_true rfl) (Nat.le_of_ble_eq_true rfl) ?_
  subst hr2
  have hP9 := hP2.sub (ws' := []) [] rfl
  have hD9 := hD2.sub (ws' := []) [] (by decide) rfl
  refine W.widen (k := 0) (n := 0) (Nat.le_of_ble_eq_true rfl) (Nat.le_of_ble_eq_true rfl) ?_
  exact W.zret (v := 112) hx hb hr rfl (fun t ht hW => ⟨⟨112, (), rfl, rfl, by rw [ht]; exact hP9, va_K.moved hW.alike hK, hD9⟩, hS2.F ht⟩) hS2.2.2 d_21_56_15
abbrev Q_Preconditions_checkIndex_32 (D : va_G) (ca : Nat → ClassId)  (A : Nat → Prop) : Array Value → State → Outcome → State → Prop := va_Qi (S := Unit) (fun (r : Int32) (u : Unit) => r = 1) (fun u => gB D ca A []) A
set_option maxHeartbeats 8000000 in
set_option maxRecDepth 100000 in
theorem c_Preconditions_checkIndex_32 (l : Launch) (D : va_G) (ca : Nat → ClassId) (ad av : Nat → Nat) (sz : Nat)   : Met l ({ cls := "jdk/internal/util/Preconditions", name := "checkIndex", desc := "(IILjava/util/function/BiFunction;)I" } : Jvm.MethodName) (Cond.code ({ cls := "jdk/internal/util/Preconditions", name := "checkIndex", desc := "(IILjava/util/function/BiFunction;)I" } : Jvm.MethodName) prog_24_method_11_code 3 (Option.some Jvm.ClassFile.FieldType.int) :: wAll) ({ frames := 0, cells := 0, slots := 0, locals := 0 } : Room) (va_Pc [.int 1, .int 3, .null] (gPre D ca ad av [] sz)) (Q_Preconditions_checkIndex_32 D ca  (va_A [] sz)) 0 0 (va_A [] sz) := by
  refine gMet (Qc := Q_Preconditions_checkIndex_32 D ca ) (lv := [(0, .int 1), (1, .int 3), (2, .null)]) (by decide) (Nat.le_of_ble_eq_true rfl) rfl (fun A p e s m below meth c ls hx hb hr hml hown hts hlk hnm hl hP hK hD hS hA hX => ?_)
  have hown : s.vm.findClass "jdk/internal/util/Preconditions" = some m.cls := hown
  have hnm : meth.name = "checkIndex" := hnm
  refine lv_iload_n hx hb d_24_11_0 rfl (lv_at hl 0 rfl) ?_
  refine lv_if_lt (tgt := 9) hx hb d_24_11_1 (by decide) (fun c => absurd c (by decide)) (fun _ => ?_)
  refine lv_iload_n hx hb d_24_11_4 rfl (lv_at hl 0 rfl) ?_
  refine lv_iload_n hx hb d_24_11_5 rfl (lv_at hl 1 rfl) ?_
  refine lv_icmp_lt (tgt := 16) hx hb d_24_11_6 (by decide) (fun _ => ?_) (fun c => absurd (by decide) c)
  refine lv_iload_n hx hb d_24_11_16 rfl (lv_at hl 0 rfl) ?_
  have hP9 := hP.sub (ws' := []) [] rfl
  have hD9 := hD.sub (ws' := []) [] (by decide) rfl
  refine W.widen (k := 0) (n := 0) (Nat.le_of_ble_eq_true rfl) (Nat.le_of_ble_eq_true rfl) ?_
  exact W.iret (v := 1) hx hb hr (fun t ht hW => ⟨⟨1, (), rfl, rfl, by rw [ht]; exact hP9, va_K.moved hW.alike hK, hD9⟩, hS.F ht⟩) hS.2.2 d_24_11_17
abbrev Q_Preconditions_checkIndex_33 (D : va_G) (ca : Nat → ClassId) (r0 : Nat) (A : Nat → Prop) : Array Value → State → Outcome → State → Prop := va_Qi (S := Unit) (fun (r : Int32) (u : Unit) => r = 1) (fun u => gB D ca A []) A
set_option maxHeartbeats 8000000 in
set_option maxRecDepth 100000 in
theorem c_Preconditions_checkIndex_33 (l : Launch) (D : va_G) (ca : Nat → ClassId) (ad av : Nat → Nat) (sz : Nat) (r0 : Nat)  : Met l ({ cls := "jdk/internal/util/Preconditions", name := "checkIndex", desc := "(IILjava/util/function/BiFunction;)I" } : Jvm.MethodName) (Cond.code ({ cls := "jdk/internal/util/Preconditions", name := "checkIndex", desc := "(IILjava/util/function/BiFunction;)I" } : Jvm.MethodName) prog_24_method_11_code 3 (Option.some Jvm.ClassFile.FieldType.int) :: wAll) ({ frames := 0, cells := 0, slots := 0, locals := 0 } : Room) (va_Pc [.int 1, .int 3, .ref r0] (gPre D ca ad av [] sz)) (Q_Preconditions_checkIndex_33 D ca r0 (va_A [] sz)) 0 0 (va_A [] sz) := by
  refine gMet (Qc := Q_Preconditions_checkIndex_33 D ca r0) (lv := [(0, .int 1), (1, .int 3), (2, .ref r0)]) (by decide) (Nat.le_of_ble_eq_true rfl) rfl (fun A p e s m below meth c ls hx hb hr hml hown hts hlk hnm hl hP hK hD hS hA hX => ?_)
  have hown : s.vm.findClass "jdk/internal/util/Preconditions" = some m.cls := hown
  have hnm : meth.name = "checkIndex" := hnm
  refine lv_iload_n hx hb d_24_11_0 rfl (lv_at hl 0 rfl) ?_
  refine lv_if_lt (tgt := 9) hx hb d_24_11_1 (by decide) (fun c => absurd c (by decide)) (fun _ => ?_)
  refine lv_iload_n hx hb d_24_11_4 rfl (lv_at hl 0 rfl) ?_
  refine lv_iload_n hx hb d_24_11_5 rfl (lv_at hl 1 rfl) ?_
  refine lv_icmp_lt (tgt := 16) hx hb d_24_11_6 (by decide) (fun _ => ?_) (fun c => absurd (by decide) c)
  refine lv_iload_n hx hb d_24_11_16 rfl (lv_at hl 0 rfl) ?_
  have hP9 := hP.sub (ws' := []) [] rfl
  have hD9 := hD.sub (ws' := []) [] (by decide) rfl
  refine W.widen (k := 0) (n := 0) (Nat.le_of_ble_eq_true rfl) (Nat.le_of_ble_eq_true rfl) ?_
  exact W.iret (v := 1) hx hb hr (fun t ht hW => ⟨⟨1, (), rfl, rfl, by rw [ht]; exact hP9, va_K.moved hW.alike hK, hD9⟩, hS.F ht⟩) hS.2.2 d_24_11_17
abbrev Q_String_checkIndex_16 (D : va_G) (ca : Nat → ClassId)  (A : Nat → Prop) : Array Value → State → Outcome → State → Prop := va_Qv (S := Unit) (fun (u : Unit) => True) (fun u => gB D ca A []) A
set_option maxHeartbeats 8000000 in
set_option maxRecDepth 100000 in
theorem c_String_checkIndex_16 (l : Launch) (D : va_G) (ca : Nat → ClassId) (ad av : Nat → Nat) (sz : Nat)   : Met l ({ cls := "java/lang/String", name := "checkIndex", desc := "(II)V" } : Jvm.MethodName) (Cond.code ({ cls := "java/lang/String", name := "checkIndex", desc := "(II)V" } : Jvm.MethodName) prog_21_method_155_code 2 (Option.none : Option Jvm.ClassFile.FieldType) :: wAll) ({ frames := 1, cells := 0, slots := 0, locals := 22 } : Room) (va_Pc [.int 1, .int 3] (gPre D ca ad av [] sz)) (Q_String_checkIndex_16 D ca  (va_A [] sz)) 0 0 (va_A [] sz) := by
  refine gMet (Qc := Q_String_checkIndex_16 D ca ) (lv := [(0, .int 1), (1, .int 3)]) (by decide) (Nat.le_of_ble_eq_true rfl) rfl (fun A p e s m below meth c ls hx hb hr hml hown hts hlk hnm hl hP hK hD hS hA hX => ?_)
  have hown : s.vm.findClass "java/lang/String" = some m.cls := hown
  have hnm : meth.name = "checkIndex" := hnm
  refine lv_iload_n hx hb d_21_155_0 rfl (lv_at hl 0 rfl) ?_
  refine lv_iload_n hx hb d_21_155_1 rfl (lv_at hl 1 rfl) ?_
  rcases hX.2.2.2.2.2 with hz1 | ⟨tz1, hz1⟩
  · refine va_gets hx hb hz1 hS hown (hts _ k_3_120) (fun _ h => h) d_21_155_2 ?_
    have hFc2 := va_free (wc := []) hD hS hA [] rfl
    refine va_calli (va_runS (As := [.int 1, .int 3, .null]) (rest := []) ⟨hx, hb, hml, hown, hts⟩ (c_Preconditions_checkIndex_32 l D ca ad av s.heap.size  ) (va_cwS 3 hts (gdS k_7_143 k_7_144 k_1_13 k_7_145) rfl rfl rfl (by decide +kernel) ⟨Nat.le_of_ble_eq_true rfl, Nat.le_of_ble_eq_true rfl⟩) (gPS hP hD hK hS hA hX [] (by decide) rfl [.int 1, .int 3, .null]) rfl rfl hl.1 rfl (lv_room (Nat.le_of_ble_eq_true rfl)) d_21_155_5 ⟨Nat.le_of_ble_eq_true rfl, Nat.le_of_ble_eq_true rfl⟩) hS (fun q _ h => hFc2 q h) hFc2 (fun r2 u2 t2 H2 locs2 ht2 hvm2 hw2 hB2 hz2 hk2 hS2 => ?_)
    have hr2 := hw2
    obtain ⟨hP2, hD2⟩ := gJoin (wr := []) (w1 := []) hP hD [] [] rfl rfl (by decide) (by decide) hk2 hFc2 ht2 hB2
    have hP2 : va_P D cls [] H2 := hP2
    have hD2 : va_D A [] := hD2
    refine W.widen (k := 0) (n := 0) (Nat.le_of_ble_eq_true rfl) (Nat.le_of_ble_eq_true rfl) ?_
    subst hr2
    refine lv_pop hx hb d_21_155_8 rfl ?_
    have hP9 := hP2.sub (ws' := []) [] rfl
    have hD9 := hD2.sub (ws' := []) [] (by decide) rfl
    refine W.widen (k := 0) (n := 0) (Nat.le_of_ble_eq_true rfl) (Nat.le_of_ble_eq_true rfl) ?_
    exact W.vret hx hb hr (fun t ht hW => ⟨⟨(), rfl, trivial, by rw [ht]; exact hP9, va_K.moved hW.alike hK, hD9⟩, hS2.F ht⟩) hS2.2.2 d_21_155_9
  · refine va_gets hx hb hz1 hS hown (hts _ k_3_120) (fun _ h => h) d_21_155_2 ?_
    have hFc3 := va_free (wc := []) hD hS hA [] rfl
    refine va_calli (va_runS (As := [.int 1, .int 3, .ref tz1]) (rest := []) ⟨hx, hb, hml, hown, hts⟩ (c_Preconditions_checkIndex_33 l D ca ad av s.heap.size tz1 ) (va_cwS 3 hts (gdS k_7_143 k_7_144 k_1_13 k_7_145) rfl rfl rfl (by decide +kernel) ⟨Nat.le_of_ble_eq_true rfl, Nat.le_of_ble_eq_true rfl⟩) (gPS hP hD hK hS hA hX [] (by decide) rfl [.int 1, .int 3, .ref tz1]) rfl rfl hl.1 rfl (lv_room (Nat.le_of_ble_eq_true rfl)) d_21_155_5 ⟨Nat.le_of_ble_eq_true rfl, Nat.le_of_ble_eq_true rfl⟩) hS (fun q _ h => hFc3 q h) hFc3 (fun r3 u3 t3 H3 locs3 ht3 hvm3 hw3 hB3 hz3 hk3 hS3 => ?_)
    have hr3 := hw3
    obtain ⟨hP3, hD3⟩ := gJoin (wr := []) (w1 := []) hP hD [] [] rfl rfl (by decide) (by decide) hk3 hFc3 ht3 hB3
    have hP3 : va_P D cls [] H3 := hP3
    have hD3 : va_D A [] := hD3
    refine W.widen (k := 0) (n := 0) (Nat.le_of_ble_eq_true rfl) (Nat.le_of_ble_eq_true rfl) ?_
    subst hr3
    refine lv_pop hx hb d_21_155_8 rfl ?_
    have hP9 := hP3.sub (ws' := []) [] rfl
    have hD9 := hD3.sub (ws' := []) [] (by decide) rfl
    refine W.widen (k := 0) (n := 0) (Nat.le_of_ble_eq_true rfl) (Nat.le_of_ble_eq_true rfl) ?_
    exact W.vret hx hb hr (fun t ht hW => ⟨⟨(), rfl, trivial, by rw [ht]; exact hP9, va_K.moved hW.alike hK, hD9⟩, hS3.F ht⟩) hS3.2.2 d_21_155_9
abbrev Q_StringLatin1_charAt_20 (D : va_G) (ca : Nat → ClassId)  (A : Nat → Prop) : Array Value → State → Outcome → State → Prop := va_Qi (S := Unit) (fun (r : Int32) (u : Unit) => r = 112) (fun u => gB D ca A []) A
set_option maxHeartbeats 8000000 in
set_option maxRecDepth 100000 in
theorem c_StringLatin1_charAt_20 (l : Launch) (D : va_G) (ca : Nat → ClassId) (ad av : Nat → Nat) (sz : Nat)   : Met l ({ cls := "java/lang/StringLatin1", name := "charAt", desc := "([BI)C" } : Jvm.MethodName) (Cond.code ({ cls := "java/lang/StringLatin1", name := "charAt", desc := "([BI)C" } : Jvm.MethodName) prog_22_method_2_code 2 (Option.some Jvm.ClassFile.FieldType.char) :: wAll) ({ frames := 2, cells := 0, slots := 0, locals := 43 } : Room) (va_Pc [.ref (av 5), .int 1] (gPre D ca ad av [] sz)) (Q_StringLatin1_charAt_20 D ca  (va_A [] sz)) 0 0 (va_A [] sz) := by
  refine gMet (Qc := Q_StringLatin1_charAt_20 D ca ) (lv := [(0, .ref (av 5)), (1, .int 1)]) (by decide) (Nat.le_of_ble_eq_true rfl) rfl (fun A p e s m below meth c ls hx hb hr hml hown hts hlk hnm hl hP hK hD hS hA hX => ?_)
  have hown : s.vm.findClass "java/lang/StringLatin1" = some m.cls := hown
  have hnm : meth.name = "charAt" := hnm
  refine lv_iload_n hx hb d_22_2_0 rfl (lv_at hl 1 rfl) ?_
  refine lv_aload_n hx hb d_22_2_1 rfl (lv_at hl 0 rfl) ?_
  refine va_tlen (v := 3) hx hb ((hX.2.2.2.2.1 5 _ rfl).2.1 0 (by decide)).2.2.2 hS (by decide) d_22_2_2 ?_
  have hFc1 := va_free (wc := []) hD hS hA [] rfl
  refine va_callv (va_runS (As := [.int 1, .int 3]) (rest := []) ⟨hx, hb, hml, hown, hts⟩ (c_String_checkIndex_16 l D ca ad av s.heap.size  ) (va_cwS 2 hts (gdS k_7_140 k_7_141 k_1_11 k_7_142) rfl rfl rfl (by decide +kernel) ⟨Nat.le_of_ble_eq_true rfl, Nat.le_of_ble_eq_true rfl⟩) (gPS hP hD hK hS hA hX [] (by decide) rfl [.int 1, .int 3]) rfl rfl hl.1 rfl (lv_room (Nat.le_of_ble_eq_true rfl)) d_22_2_3 ⟨Nat.le_of_ble_eq_true rfl, Nat.le_of_ble_eq_true rfl⟩) hS (fun q _ h => hFc1 q h) hFc1 (fun u1 t1 H1 locs1 ht1 hvm1 hw1 hB1 hz1 hk1 hS1 => ?_)
  obtain ⟨hP1, hD1⟩ := gJoin (wr := []) (w1 := []) hP hD [] [] rfl rfl (by decide) (by decide) hk1 hFc1 ht1 hB1
  have hP1 : va_P D cls [] H1 := hP1
  have hD1 : va_D A [] := hD1
  refine W.widen (k := 0) (n := 0) (Nat.le_of_ble_eq_true rfl) (Nat.le_of_ble_eq_true rfl) ?_
  refine lv_aload_n hx hb d_22_2_6 rfl (lv_at hl 0 rfl) ?_
  refine lv_iload_n hx hb d_22_2_7 rfl (lv_at hl 1 rfl) ?_
  refine va_tb (v := .int 112) hx hb ((hX.2.2.2.2.1 5 _ rfl).2.1 0 (by decide)).2.2.2 hS1 (vinC (by decide)) rfl d_22_2_8 ?_
  refine lv_sipush (v := 255) hx hb d_22_2_9 (by decide) ?_
  refine lv_iand hx hb d_22_2_12 ?_
  refine lv_topi (fun y2 ey2 => ?_)
  obtain rfl : y2 = 112 := ey2.trans (by decide)
  refine lv_i2c hx hb d_22_2_13 rfl ?_
  refine lv_topi (fun y3 ey3 => ?_)
  obtain rfl : y3 = 112 := ey3.trans (by decide)
  have hP9 := hP1.sub (ws' := []) [] rfl
  have hD9 := hD1.sub (ws' := []) [] (by decide) rfl
  refine W.widen (k := 0) (n := 0) (Nat.le_of_ble_eq_true rfl) (Nat.le_of_ble_eq_true rfl) ?_
  exact W.zret (v := 112) hx hb hr rfl (fun t ht hW => ⟨⟨112, (), rfl, rfl, by rw [ht]; exact hP9, va_K.moved hW.alike hK, hD9⟩, hS1.F ht⟩) hS1.2.2 d_22_2_14
abbrev Q_String_charAt_20 (D : va_G) (ca : Nat → ClassId)  (A : Nat → Prop) : Array Value → State → Outcome → State → Prop := va_Qi (S := Unit) (fun (r : Int32) (u : Unit) => r = 112) (fun u => gB D ca A []) A
set_option maxHeartbeats 8000000 in
set_option maxRecDepth 100000 in
theorem c_String_charAt_20 (l : Launch) (D : va_G) (ca : Nat → ClassId) (ad av : Nat → Nat) (sz : Nat)   : Met l ({ cls := "java/lang/String", name := "charAt", desc := "(I)C" } : Jvm.MethodName) (Cond.code ({ cls := "java/lang/String", name := "charAt", desc := "(I)C" } : Jvm.MethodName) prog_21_method_56_code 2 (Option.some Jvm.ClassFile.FieldType.char) :: wAll) ({ frames := 3, cells := 0, slots := 0, locals := 64 } : Room) (va_Pc [.ref (ad 5), .int 1] (gPre D ca ad av [] sz)) (Q_String_charAt_20 D ca  (va_A [] sz)) 0 0 (va_A [] sz) := by
  refine gMet (Qc := Q_String_charAt_20 D ca ) (lv := [(0, .ref (ad 5)), (1, .int 1)]) (by decide) (Nat.le_of_ble_eq_true rfl) rfl (fun A p e s m below meth c ls hx hb hr hml hown hts hlk hnm hl hP hK hD hS hA hX => ?_)
  have hown : s.vm.findClass "java/lang/String" = some m.cls := hown
  have hnm : meth.name = "charAt" := hnm
  refine lv_aload_n hx hb d_21_56_0 rfl (lv_at hl 0 rfl) ?_
  have hFc1 := va_free (wc := []) hD hS hA [] rfl
  refine va_calli (va_runV (As := []) (rest := []) ⟨hx, hb, hml, hown, hts⟩ (c_String_isLatin1_4 l D ca ad av s.heap.size  ) (cwV 0 hts (gdV k_3_75 k_3_76 k_3_77 k_1_11 k_3_78) rfl rfl rfl (by decide +kernel) ⟨Nat.le_of_ble_eq_true rfl, Nat.le_of_ble_eq_true rfl⟩) ⟨gBlind, vk_recv (i := 0) (hX.2.2.2.2.1 5 _ rfl).2 (by decide) hS, gAt hP hD hK hS hA hX [] (by decide) rfl [.ref (ad 5)]⟩ rfl rfl hl.1 rfl (lv_room (Nat.le_of_ble_eq_true rfl)) d_21_56_1 ⟨Nat.le_of_ble_eq_true rfl, Nat.le_of_ble_eq_true rfl⟩) hS (fun q _ h => hFc1 q h) hFc1 (fun r1 u1 t1 H1 locs1 ht1 hvm1 hw1 hB1 hz1 hk1 hS1 => ?_)
  have hr1 := hw1
  obtain ⟨hP1, hD1⟩ := gJoin (wr := []) (w1 := []) hP hD [] [] rfl rfl (by decide) (by decide) hk1 hFc1 ht1 hB1
  have hP1 : va_P D cls [] H1 := hP1
  have hD1 : va_D A [] := hD1
  refine W.widen (k := 0) (n := 0) (Nat.le_of_ble_eq_true rfl) (Nat.le_of_ble_eq_true rfl) ?_
  subst hr1
  refine lv_if_eq (tgt := 16) hx hb d_21_56_4 (by decide) (fun c => absurd c (by decide)) (fun _ => ?_)
  refine lv_aload_n hx hb d_21_56_7 rfl (lv_at hl 0 rfl) ?_
  refine vk_getf hx hb ((hX.2.2.2.2.1 5 _ rfl).2.1 0 (by decide)).2.2.1 hS1 hown (hts _ k_15_170) (fun _ h => h) d_21_56_8 ?_
  refine W.eq (g2 := F0 m 11 ls [.ref (av 5)]) rfl ?_
  refine lv_iload_n hx hb d_21_56_11 rfl (lv_at hl 1 rfl) ?_
  have hFc2 := va_free (wc := []) hD1 hS1 hA [] rfl
  refine va_calli (va_runS (As := [.ref (av 5), .int 1]) (rest := []) ⟨hx, hb, hml, hown, hts⟩ (c_StringLatin1_charAt_20 l D ca ad av H1.size  ) (va_cwS 2 hts (gdS k_7_137 k_7_138 k_1_12 k_7_139) rfl rfl rfl (by decide +kernel) ⟨Nat.le_of_ble_eq_true rfl, Nat.le_of_ble_eq_true rfl⟩) (gPS hP1 hD1 hK hS1 hA hX [] (by decide) rfl [.ref (av 5), .int 1]) rfl rfl hl.1 rfl (lv_room (Nat.le_of_ble_eq_true rfl)) d_21_56_12 ⟨Nat.le_of_ble_eq_true rfl, Nat.le_of_ble_eq_true rfl⟩) hS1 (fun q _ h => hFc2 q h) hFc2 (fun r2 u2 t2 H2 locs2 ht2 hvm2 hw2 hB2 hz2 hk2 hS2 => ?_)
  have hr2 := hw2
  obtain ⟨hP2, hD2⟩ := gJoin (wr := []) (w1 := []) hP1 hD1 [] [] rfl rfl (by decide) (by decide) hk2 hFc2 ht2 hB2
  have hP2 : va_P D cls [] H2 := hP2
  have hD2 : va_D A [] := hD2
  refine W.widen (k := 0) (n := 0) (Nat.le_of_ble_eq_true rfl) (Nat.le_of_ble_eq_true rfl) ?_
  subst hr2
  have hP9 := hP2.sub (ws' := []) [] rfl
  have hD9 := hD2.sub (ws' := []) [] (by decide) rfl
  refine W.widen (k := 0) (n := 0) (Nat.le_of_ble_eq_true rfl) (Nat.le_of_ble_eq_true rfl) ?_
  exact W.zret (v := 112) hx hb hr rfl (fun t ht hW => ⟨⟨112, (), rfl, rfl, by rw [ht]; exact hP9, va_K.moved hW.alike hK, hD9⟩, hS2.F ht⟩) hS2.2.2 d_21_56_15
abbrev Q_Preconditions_checkIndex_34 (D : va_G) (ca : Nat → ClassId)  (A : Nat → Prop) : Array Value → State → Outcome → State → Prop := va_Qi (S := Unit) (fun (r : Int32) (u : Unit) => r = 2) (fun u => gB D ca A []) A
set_option maxHeartbeats 8000000 in
set_option maxRecDepth 100000 in
theorem c_Preconditions_checkIndex_34 (l : Launch) (D : va_G) (ca : Nat → ClassId) (ad av : Nat → Nat) (sz : Nat)   : Met l ({ cls := "jdk/internal/util/Preconditions", name := "checkIndex", desc := "(IILjava/util/function/BiFunction;)I" } : Jvm.MethodName) (Cond.code ({ cls := "jdk/internal/util/Preconditions", name := "checkIndex", desc := "(IILjava/util/function/BiFunction;)I" } : Jvm.MethodName) prog_24_method_11_code 3 (Option.some Jvm.ClassFile.FieldType.int) :: wAll) ({ frames := 0, cells := 0, slots := 0, locals := 0 } : Room) (va_Pc [.int 2, .int 3, .null] (gPre D ca ad av [] sz)) (Q_Preconditions_checkIndex_34 D ca  (va_A [] sz)) 0 0 (va_A [] sz) := by
  refine gMet (Qc := Q_Preconditions_checkIndex_34 D ca ) (lv := [(0, .int 2), (1, .int 3), (2, .null)]) (by decide) (Nat.le_of_ble_eq_true rfl) rfl (fun A p e s m below meth c ls hx hb hr hml hown hts hlk hnm hl hP hK hD hS hA hX => ?_)
  have hown : s.vm.findClass "jdk/internal/util/Preconditions" = some m.cls := hown
  have hnm : meth.name = "checkIndex" := hnm
  refine lv_iload_n hx hb d_24_11_0 rfl (lv_at hl 0 rfl) ?_
  refine lv_if_lt (tgt := 9) hx hb d_24_11_1 (by decide) (fun c => absurd c (by decide)) (fun _ => ?_)
  refine lv_iload_n hx hb d_24_11_4 rfl (lv_at hl 0 rfl) ?_
  refine lv_iload_n hx hb d_24_11_5 rfl (lv_at hl 1 rfl) ?_
  refine lv_icmp_lt (tgt := 16) hx hb d_24_11_6 (by decide) (fun _ => ?_) (fun c => absurd (by decide) c)
  refine lv_iload_n hx hb d_24_11_16 rfl (lv_at hl 0 rfl) ?_
  have hP9 := hP.sub (ws' := []) [] rfl
  have hD9 := hD.sub (ws' := []) [] (by decide) rfl
  refine W.widen (k := 0) (n := 0) (Nat.le_of_ble_eq_true rfl) (Nat.le_of_ble_eq_true rfl) ?_
  exact W.iret (v := 2) hx hb hr (fun t ht hW => ⟨⟨2, (), rfl, rfl, by rw [ht]; exact hP9, va_K.moved hW.alike hK, hD9⟩, hS.F ht⟩) hS.2.2 d_24_11_17
abbrev Q_Preconditions_checkIndex_35 (D : va_G) (ca : Nat → ClassId) (r0 : Nat) (A : Nat → Prop) : Array Value → State → Outcome → State → Prop := va_Qi (S := Unit) (fun (r : Int32) (u : Unit) => r = 2) (fun u => gB D ca A []) A
set_option maxHeartbeats 8000000 in
set_option maxRecDepth 100000 in
theorem c_Preconditions_checkIndex_35 (l : Launch) (D : va_G) (ca : Nat → ClassId) (ad av : Nat → Nat) (sz : Nat) (r0 : Nat)  : Met l ({ cls := "jdk/internal/util/Preconditions", name := "checkIndex", desc := "(IILjava/util/function/BiFunction;)I" } : Jvm.MethodName) (Cond.code ({ cls := "jdk/internal/util/Preconditions", name := "checkIndex", desc := "(IILjava/util/function/BiFunction;)I" } : Jvm.MethodName) prog_24_method_11_code 3 (Option.some Jvm.ClassFile.FieldType.int) :: wAll) ({ frames := 0, cells := 0, slots := 0, locals := 0 } : Room) (va_Pc [.int 2, .int 3, .ref r0] (gPre D ca ad av [] sz)) (Q_Preconditions_checkIndex_35 D ca r0 (va_A [] sz)) 0 0 (va_A [] sz) := by
  refine gMet (Qc := Q_Preconditions_checkIndex_35 D ca r0) (lv := [(0, .int 2), (1, .int 3), (2, .ref r0)]) (by decide) (Nat.le_of_ble_eq_true rfl) rfl (fun A p e s m below meth c ls hx hb hr hml hown hts hlk hnm hl hP hK hD hS hA hX => ?_)
  have hown : s.vm.findClass "jdk/internal/util/Preconditions" = some m.cls := hown
  have hnm : meth.name = "checkIndex" := hnm
  refine lv_iload_n hx hb d_24_11_0 rfl (lv_at hl 0 rfl) ?_
  refine lv_if_lt (tgt := 9) hx hb d_24_11_1 (by decide) (fun c => absurd c (by decide)) (fun _ => ?_)
  refine lv_iload_n hx hb d_24_11_4 rfl (lv_at hl 0 rfl) ?_
  refine lv_iload_n hx hb d_24_11_5 rfl (lv_at hl 1 rfl) ?_
  refine lv_icmp_lt (tgt := 16) hx hb d_24_11_6 (by decide) (fun _ => ?_) (fun c => absurd (by decide) c)
  refine lv_iload_n hx hb d_24_11_16 rfl (lv_at hl 0 rfl) ?_
  have hP9 := hP.sub (ws' := []) [] rfl
  have hD9 := hD.sub (ws' := []) [] (by decide) rfl
  refine W.widen (k := 0) (n := 0) (Nat.le_of_ble_eq_true rfl) (Nat.le_of_ble_eq_true rfl) ?_
  exact W.iret (v := 2) hx hb hr (fun t ht hW => ⟨⟨2, (), rfl, rfl, by rw [ht]; exact hP9, va_K.moved hW.alike hK, hD9⟩, hS.F ht⟩) hS.2.2 d_24_11_17
abbrev Q_String_checkIndex_17 (D : va_G) (ca : Nat → ClassId)  (A : Nat → Prop) : Array Value → State → Outcome → State → Prop := va_Qv (S := Unit) (fun (u : Unit) => True) (fun u => gB D ca A []) A
set_option maxHeartbeats 8000000 in
set_option maxRecDepth 100000 in
theorem c_String_checkIndex_17 (l : Launch) (D : va_G) (ca : Nat → ClassId) (ad av : Nat → Nat) (sz : Nat)   : Met l ({ cls := "java/lang/String", name := "checkIndex", desc := "(II)V" } : Jvm.MethodName) (Cond.code ({ cls := "java/lang/String", name := "checkIndex", desc := "(II)V" } : Jvm.MethodName) prog_21_method_155_code 2 (Option.none : Option Jvm.ClassFile.FieldType) :: wAll) ({ frames := 1, cells := 0, slots := 0, locals := 22 } : Room) (va_Pc [.int 2, .int 3] (gPre D ca ad av [] sz)) (Q_String_checkIndex_17 D ca  (va_A [] sz)) 0 0 (va_A [] sz) := by
  refine gMet (Qc := Q_String_checkIndex_17 D ca ) (lv := [(0, .int 2), (1, .int 3)]) (by decide) (Nat.le_of_ble_eq_true rfl) rfl (fun A p e s m below meth c ls hx hb hr hml hown hts hlk hnm hl hP hK hD hS hA hX => ?_)
  have hown : s.vm.findClass "java/lang/String" = some m.cls := hown
  have hnm : meth.name = "checkIndex" := hnm
  refine lv_iload_n hx hb d_21_155_0 rfl (lv_at hl 0 rfl) ?_
  refine lv_iload_n hx hb d_21_155_1 rfl (lv_at hl 1 rfl) ?_
  rcases hX.2.2.2.2.2 with hz1 | ⟨tz1, hz1⟩
  · refine va_gets hx hb hz1 hS hown (hts _ k_3_120) (fun _ h => h) d_21_155_2 ?_
    have hFc2 := va_free (wc := []) hD hS hA [] rfl
    refine va_calli (va_runS (As := [.int 2, .int 3, .null]) (rest := []) ⟨hx, hb, hml, hown, hts⟩ (c_Preconditions_checkIndex_34 l D ca ad av s.heap.size  ) (va_cwS 3 hts (gdS k_7_143 k_7_144 k_1_13 k_7_145) rfl rfl rfl (by decide +kernel) ⟨Nat.le_of_ble_eq_true rfl, Nat.le_of_ble_eq_true rfl⟩) (gPS hP hD hK hS hA hX [] (by decide) rfl [.int 2, .int 3, .null]) rfl rfl hl.1 rfl (lv_room (Nat.le_of_ble_eq_true rfl)) d_21_155_5 ⟨Nat.le_of_ble_eq_true rfl, Nat.le_of_ble_eq_true rfl⟩) hS (fun q _ h => hFc2 q h) hFc2 (fun r2 u2 t2 H2 locs2 ht2 hvm2 hw2 hB2 hz2 hk2 hS2 => ?_)
    have hr2 := hw2
    obtain ⟨hP2, hD2⟩ := gJoin (wr := []) (w1 := []) hP hD [] [] rfl rfl (by decide) (by decide) hk2 hFc2 ht2 hB2
    have hP2 : va_P D cls [] H2 := hP2
    have hD2 : va_D A [] := hD2
    refine W.widen (k := 0) (n := 0) (Nat.le_of_ble_eq_true rfl) (Nat.le_of_ble_eq_true rfl) ?_
    subst hr2
    refine lv_pop hx hb d_21_155_8 rfl ?_
    have hP9 := hP2.sub (ws' := []) [] rfl
    have hD9 := hD2.sub (ws' := []) [] (by decide) rfl
    refine W.widen (k := 0) (n := 0) (Nat.le_of_ble_eq_true rfl) (Nat.le_of_ble_eq_true rfl) ?_
    exact W.vret hx hb hr (fun t ht hW => ⟨⟨(), rfl, trivial, by rw [ht]; exact hP9, va_K.moved hW.alike hK, hD9⟩, hS2.F ht⟩) hS2.2.2 d_21_155_9
  · refine va_gets hx hb hz1 hS hown (hts _ k_3_120) (fun _ h => h) d_21_155_2 ?_
    have hFc3 := va_free (wc := []) hD hS hA [] rfl
    refine va_calli (va_runS (As := [.int 2, .int 3, .ref tz1]) (rest := []) ⟨hx, hb, hml, hown, hts⟩ (c_Preconditions_checkIndex_35 l D ca ad av s.heap.size tz1 ) (va_cwS 3 hts (gdS k_7_143 k_7_144 k_1_13 k_7_145) rfl rfl rfl (by decide +kernel) ⟨Nat.le_of_ble_eq_true rfl, Nat.le_of_ble_eq_true rfl⟩) (gPS hP hD hK hS hA hX [] (by decide) rfl [.int 2, .int 3, .ref tz1]) rfl rfl hl.1 rfl (lv_room (Nat.le_of_ble_eq_true rfl)) d_21_155_5 ⟨Nat.le_of_ble_eq_true rfl, Nat.le_of_ble_eq_true rfl⟩) hS (fun q _ h => hFc3 q h) hFc3 (fun r3 u3 t3 H3 locs3 ht3 hvm3 hw3 hB3 hz3 hk3 hS3 => ?_)
    have hr3 := hw3
    obtain ⟨hP3, hD3⟩ := gJoin (wr := []) (w1 := []) hP hD [] [] rfl rfl (by decide) (by decide) hk3 hFc3 ht3 hB3
    have hP3 : va_P D cls [] H3 := hP3
    have hD3 : va_D A [] := hD3
    refine W.widen (k := 0) (n := 0) (Nat.le_of_ble_eq_true rfl) (Nat.le_of_ble_eq_true rfl) ?_
    subst hr3
    refine lv_pop hx hb d_21_155_8 rfl ?_
    have hP9 := hP3.sub (ws' := []) [] rfl
    have hD9 := hD3.sub (ws' := []) [] (by decide) rfl
    refine W.widen (k := 0) (n := 0) (Nat.le_of_ble_eq_true rfl) (Nat.le_of_ble_eq_true rfl) ?_
    exact W.vret hx hb hr (fun t ht hW => ⟨⟨(), rfl, trivial, by rw [ht]; exact hP9, va_K.moved hW.alike hK, hD9⟩, hS3.F ht⟩) hS3.2.2 d_21_155_9
abbrev Q_StringLatin1_charAt_21 (D : va_G) (ca : Nat → ClassId)  (A : Nat → Prop) : Array Value → State → Outcome → State → Prop := va_Qi (S := Unit) (fun (r : Int32) (u : Unit) => r = 112) (fun u => gB D ca A []) A
set_option maxHeartbeats 8000000 in
set_option maxRecDepth 100000 in
theorem c_StringLatin1_charAt_21 (l : Launch) (D : va_G) (ca : Nat → ClassId) (ad av : Nat → Nat) (sz : Nat)   : Met l ({ cls := "java/lang/StringLatin1", name := "charAt", desc := "([BI)C" } : Jvm.MethodName) (Cond.code ({ cls := "java/lang/StringLatin1", name := "charAt", desc := "([BI)C" } : Jvm.MethodName) prog_22_method_2_code 2 (Option.some Jvm.ClassFile.FieldType.char) :: wAll) ({ frames := 2, cells := 0, slots := 0, locals := 43 } : Room) (va_Pc [.ref (av 5), .int 2] (gPre D ca ad av [] sz)) (Q_StringLatin1_charAt_21 D ca  (va_A [] sz)) 0 0 (va_A [] sz) := by
  refine gMet (Qc := Q_StringLatin1_charAt_21 D ca ) (lv := [(0, .ref (av 5)), (1, .int 2)]) (by decide) (Nat.le_of_ble_eq_true rfl) rfl (fun A p e s m below meth c ls hx hb hr hml hown hts hlk hnm hl hP hK hD hS hA hX => ?_)
  have hown : s.vm.findClass "java/lang/StringLatin1" = some m.cls := hown
  have hnm : meth.name = "charAt" := hnm
  refine lv_iload_n hx hb d_22_2_0 rfl (lv_at hl 1 rfl) ?_
  refine lv_aload_n hx hb d_22_2_1 rfl (lv_at hl 0 rfl) ?_
  refine va_tlen (v := 3) hx hb ((hX.2.2.2.2.1 5 _ rfl).2.1 0 (by decide)).2.2.2 hS (by decide) d_22_2_2 ?_
  have hFc1 := va_free (wc := []) hD hS hA [] rfl
  refine va_callv (va_runS (As := [.int 2, .int 3]) (rest := []) ⟨hx, hb, hml, hown, hts⟩ (c_String_checkIndex_17 l D ca ad av s.heap.size  ) (va_cwS 2 hts (gdS k_7_140 k_7_141 k_1_11 k_7_142) rfl rfl rfl (by decide +kernel) ⟨Nat.le_of_ble_eq_true rfl, Nat.le_of_ble_eq_true rfl⟩) (gPS hP hD hK hS hA hX [] (by decide) rfl [.int 2, .int 3]) rfl rfl hl.1 rfl (lv_room (Nat.le_of_ble_eq_true rfl)) d_22_2_3 ⟨Nat.le_of_ble_eq_true rfl, Nat.le_of_ble_eq_true rfl⟩) hS (fun q _ h => hFc1 q h) hFc1 (fun u1 t1 H1 locs1 ht1 hvm1 hw1 hB1 hz1 hk1 hS1 => ?_)
  obtain ⟨hP1, hD1⟩ := gJoin (wr := []) (w1 := []) hP hD [] [] rfl rfl (by decide) (by decide) hk1 hFc1 ht1 hB1
  have hP1 : va_P D cls [] H1 := hP1
  have hD1 : va_D A [] := hD1
  refine W.widen (k := 0) (n := 0) (Nat.le_of_ble_eq_true rfl) (Nat.le_of_ble_eq_true rfl) ?_
  refine lv_aload_n hx hb d_22_2_6 rfl (lv_at hl 0 rfl) ?_
  refine lv_iload_n hx hb d_22_2_7 rfl (lv_at hl 1 rfl) ?_
  refine va_tb (v := .int 112) hx hb ((hX.2.2.2.2.1 5 _ rfl).2.1 0 (by decide)).2.2.2 hS1 (vinC (by decide)) rfl d_22_2_8 ?_
  refine lv_sipush (v := 255) hx hb d_22_2_9 (by decide) ?_
  refine lv_iand hx hb d_22_2_12 ?_
  refine lv_topi (fun y2 ey2 => ?_)
  obtain rfl : y2 = 112 := ey2.trans (by decide)
  refine lv_i2c hx hb d_22_2_13 rfl ?_
  refine lv_topi (fun y3 ey3 => ?_)
  obtain rfl : y3 = 112 := ey3.trans (by decide)
  have hP9 := hP1.sub (ws' := []) [] rfl
  have hD9 := hD1.sub (ws' := []) [] (by decide) rfl
  refine W.widen (k := 0) (n := 0) (Nat.le_of_ble_eq_true rfl) (Nat.le_of_ble_eq_true rfl) ?_
  exact W.zret (v := 112) hx hb hr rfl (fun t ht hW => ⟨⟨112, (), rfl, rfl, by rw [ht]; exact hP9, va_K.moved hW.alike hK, hD9⟩, hS1.F ht⟩) hS1.2.2 d_22_2_14
abbrev Q_String_charAt_21 (D : va_G) (ca : Nat → ClassId)  (A : Nat → Prop) : Array Value → State → Outcome → State → Prop := va_Qi (S := Unit) (fun (r : Int32) (u : Unit) => r = 112) (fun u => gB D ca A []) A
set_option maxHeartbeats 8000000 in
set_option maxRecDepth 100000 in
theorem c_String_charAt_21 (l : Launch) (D : va_G) (ca : Nat → ClassId) (ad av : Nat → Nat) (sz : Nat)   : Met l ({ cls := "java/lang/String", name := "charAt", desc := "(I)C" } : Jvm.MethodName) (Cond.code ({ cls := "java/lang/String", name := "charAt", desc := "(I)C" } : Jvm.MethodName) prog_21_method_56_code 2 (Option.some Jvm.ClassFile.FieldType.char) :: wAll) ({ frames := 3, cells := 0, slots := 0, locals := 64 } : Room) (va_Pc [.ref (ad 5), .int 2] (gPre D ca ad av [] sz)) (Q_String_charAt_21 D ca  (va_A [] sz)) 0 0 (va_A [] sz) := by
  refine gMet (Qc := Q_String_charAt_21 D ca ) (lv := [(0, .ref (ad 5)), (1, .int 2)]) (by decide) (Nat.le_of_ble_eq_true rfl) rfl (fun A p e s m below meth c ls hx hb hr hml hown hts hlk hnm hl hP hK hD hS hA hX => ?_)
  have hown : s.vm.findClass "java/lang/String" = some m.cls := hown
  have hnm : meth.name = "charAt" := hnm
  refine lv_aload_n hx hb d_21_56_0 rfl (lv_at hl 0 rfl) ?_
  have hFc1 := va_free (wc := []) hD hS hA [] rfl
  refine va_calli (va_runV (As := []) (rest := []) ⟨hx, hb, hml, hown, hts⟩ (c_String_isLatin1_4 l D ca ad av s.heap.size  ) (cwV 0 hts (gdV k_3_75 k_3_76 k_3_77 k_1_11 k_3_78) rfl rfl rfl (by decide +kernel) ⟨Nat.le_of_ble_eq_true rfl, Nat.le_of_ble_eq_true rfl⟩) ⟨gBlind, vk_recv (i := 0) (hX.2.2.2.2.1 5 _ rfl).2 (by decide) hS, gAt hP hD hK hS hA hX [] (by decide) rfl [.ref (ad 5)]⟩ rfl rfl hl.1 rfl (lv_room (Nat.le_of_ble_eq_true rfl)) d_21_56_1 ⟨Nat.le_of_ble_eq_true rfl, Nat.le_of_ble_eq_true rfl⟩) hS (fun q _ h => hFc1 q h) hFc1 (fun r1 u1 t1 H1 locs1 ht1 hvm1 hw1 hB1 hz1 hk1 hS1 => ?_)
  have hr1 := hw1
  obtain ⟨hP1, hD1⟩ := gJoin (wr := []) (w1 := []) hP hD [] [] rfl rfl (by decide) (by decide) hk1 hFc1 ht1 hB1
  have hP1 : va_P D cls [] H1 := hP1
  have hD1 : va_D A [] := hD1
  refine W.widen (k := 0) (n := 0) (Nat.le_of_ble_eq_true rfl) (Nat.le_of_ble_eq_true rfl) ?_
  subst hr1
  refine lv_if_eq (tgt := 16) hx hb d_21_56_4 (by decide) (fun c => absurd c (by decide)) (fun _ => ?_)
  refine lv_aload_n hx hb d_21_56_7 rfl (lv_at hl 0 rfl) ?_
  refine vk_getf hx hb ((hX.2.2.2.2.1 5 _ rfl).2.1 0 (by decide)).2.2.1 hS1 hown (hts _ k_15_170) (fun _ h => h) d_21_56_8 ?_
  refine W.eq (g2 := F0 m 11 ls [.ref (av 5)]) rfl ?_
  refine lv_iload_n hx hb d_21_56_11 rfl (lv_at hl 1 rfl) ?_
  have hFc2 := va_free (wc := []) hD1 hS1 hA [] rfl
  refine va_calli (va_runS (As := [.ref (av 5), .int 2]) (rest := []) ⟨hx, hb, hml, hown, hts⟩ (c_StringLatin1_charAt_21 l D ca ad av H1.size  ) (va_cwS 2 hts (gdS k_7_137 k_7_138 k_1_12 k_7_139) rfl rfl rfl (by decide +kernel) ⟨Nat.le_of_ble_eq_true rfl, Nat.le_of_ble_eq_true rfl⟩) (gPS hP1 hD1 hK hS1 hA hX [] (by decide) rfl [.ref (av 5), .int 2]) rfl rfl hl.1 rfl (lv_room (Nat.le_of_ble_eq_true rfl)) d_21_56_12 ⟨Nat.le_of_ble_eq_true rfl, Nat.le_of_ble_eq_true rfl⟩) hS1 (fun q _ h => hFc2 q h) hFc2 (fun r2 u2 t2 H2 locs2 ht2 hvm2 hw2 hB2 hz2 hk2 hS2 => ?_)
  have hr2 := hw2
  obtain ⟨hP2, hD2⟩ := gJoin (wr := []) (w1 := []) hP1 hD1 [] [] rfl rfl (by decide) (by decide) hk2 hFc2 ht2 hB2
  have hP2 : va_P D cls [] H2 := hP2
  have hD2 : va_D A [] := hD2
  refine W.widen (k := 0) (n := 0) (Nat.le_of_ble_eq_true rfl) (Nat.le_of_ble_eq_true rfl) ?_
  subst hr2
  have hP9 := hP2.sub (ws' := []) [] rfl
  have hD9 := hD2.sub (ws' := []) [] (by decide) rfl
  refine W.widen (k := 0) (n := 0) (Nat.le_of_ble_eq_true rfl) (Nat.le_of_ble_eq_true rfl) ?_
  exact W.zret (v := 112) hx hb hr rfl (fun t ht hW => ⟨⟨112, (), rfl, rfl, by rw [ht]; exact hP9, va_K.moved hW.alike hK, hD9⟩, hS2.F ht⟩) hS2.2.2 d_21_56_15
abbrev Q_M_code_4 (D : va_G) (ca : Nat → ClassId)  (A : Nat → Prop) : Array Value → State → Outcome → State → Prop := va_Ql (S := Unit) (fun (r : Int64) (u : Unit) => r = 7368816) (fun u => gB D ca A []) A
set_option maxHeartbeats 8000000 in
set_option maxRecDepth 100000 in
theorem c_M_code_4 (l : Launch) (D : va_G) (ca : Nat → ClassId) (ad av : Nat → Nat) (sz : Nat)   : Met l ({ cls := "StaveHouseModel", name := "code", desc := "(Ljava/lang/String;)J" } : Jvm.MethodName) (Cond.code ({ cls := "StaveHouseModel", name := "code", desc := "(Ljava/lang/String;)J" } : Jvm.MethodName) prog_15_method_24_code 4 (Option.some Jvm.ClassFile.FieldType.long) :: wAll) ({ frames := 4, cells := 0, slots := 0, locals := 85 } : Room) (va_Pc [.ref (ad 5)] (gPre D ca ad av [] sz)) (Q_M_code_4 D ca  (va_A [] sz)) 0 0 (va_A [] sz) := by
  refine gMet (Qc := Q_M_code_4 D ca ) (lv := [(0, .ref (ad 5))]) (by decide) (Nat.le_of_ble_eq_true rfl) rfl (fun A p e s m below meth c ls hx hb hr hml hown hts hlk hnm hl hP hK hD hS hA hX => ?_)
  have hown : s.vm.findClass "StaveHouseModel" = some m.cls := hown
  have hnm : meth.name = "code" := hnm
  refine lv_lconst (v := 0) hx hb d_15_24_0 (by decide) ?_
  refine lv_lstore_n (lv' := [(1, .long 0), (0, .ref (ad 5))]) hx hb d_15_24_1 rfl hl (by decide) rfl (fun ls hl => ?_)
  refine lv_iconst (v := 0) hx hb d_15_24_2 (by decide) ?_
  refine lv_istore_n (lv' := [(3, .int 0), (1, .long 0), (0, .ref (ad 5))]) hx hb d_15_24_3 rfl hl (by decide) rfl (fun ls hl => ?_)
  refine lv_iload_n hx hb d_15_24_4 rfl (lv_at hl 0 rfl) ?_
  refine lv_aload_n hx hb d_15_24_5 rfl (lv_at hl 2 rfl) ?_
  have hFc1 := va_free (wc := []) hD hS hA [] rfl
  refine va_calli (va_runV (As := []) (rest := [.int 0]) ⟨hx, hb, hml, hown, hts⟩ (c_String_length_4 l D ca ad av s.heap.size  ) (cwV 0 hts (gdV k_10_194 k_3_82 k_3_83 k_1_11 k_3_84) rfl rfl rfl (by decide +kernel) ⟨Nat.le_of_ble_eq_true rfl, Nat.le_of_ble_eq_true rfl⟩) ⟨gBlind, vk_recv (i := 0) (hX.2.2.2.2.1 5 _ rfl).2 (by decide) hS, gAt hP hD hK hS hA hX [] (by decide) rfl [.ref (ad 5)]⟩ rfl rfl hl.1 rfl (lv_room (Nat.le_of_ble_eq_true rfl)) d_15_24_6 ⟨Nat.le_of_ble_eq_true rfl, Nat.le_of_ble_eq_true rfl⟩) hS (fun q _ h => hFc1 q h) hFc1 (fun r1 u1 t1 H1 locs1 ht1 hvm1 hw1 hB1 hz1 hk1 hS1 => ?_)
  have hr1 := hw1
  obtain ⟨hP1, hD1⟩ := gJoin (wr := []) (w1 := []) hP hD [] [] rfl rfl (by decide) (by decide) hk1 hFc1 ht1 hB1
  have hP1 : va_P D cls [] H1 := hP1
  have hD1 : va_D A [] := hD1
  refine W.widen (k := 0) (n := 0) (Nat.le_of_ble_eq_true rfl) (Nat.le_of_ble_eq_true rfl) ?_
  subst hr1
  refine lv_icmp_ge (tgt := 30) hx hb d_15_24_9 (by decide) (fun c => absurd c (by decide)) (fun _ => ?_)
  refine lv_lload_n hx hb d_15_24_12 rfl (lv_at hl 1 rfl) ?_
  refine lv_bipush (v := 8) hx hb d_15_24_13 (by decide) ?_
  refine lv_lshl hx hb d_15_24_15 rfl ?_
  refine lv_topl (fun y2 ey2 => ?_)
  obtain rfl : y2 = 0 := ey2.trans (by decide)
  refine lv_aload_n hx hb d_15_24_16 rfl (lv_at hl 2 rfl) ?_
  refine lv_iload_n hx hb d_15_24_17 rfl (lv_at hl 0 rfl) ?_
  have hFc3 := va_free (wc := []) hD1 hS1 hA [] rfl
  refine va_calli (va_runV (As := [.int 0]) (rest := [.long 0]) ⟨hx, hb, hml, hown, hts⟩ (c_String_charAt_19 l D ca ad av H1.size  ) (cwV 1 hts (gdV k_10_195 k_7_134 k_7_135 k_1_11 k_7_136) rfl rfl rfl (by decide +kernel) ⟨Nat.le_of_ble_eq_true rfl, Nat.le_of_ble_eq_true rfl⟩) ⟨gBlind, vk_recv (i := 0) (hX.2.2.2.2.1 5 _ rfl).2 (by decide) hS1, gAt hP1 hD1 hK hS1 hA hX [] (by decide) rfl [.ref (ad 5), .int 0]⟩ rfl rfl hl.1 rfl (lv_room (Nat.le_of_ble_eq_true rfl)) d_15_24_18 ⟨Nat.le_of_ble_eq_true rfl, Nat.le_of_ble_eq_true rfl⟩) hS1 (fun q _ h => hFc3 q h) hFc3 (fun r3 u3 t3 H3 locs3 ht3 hvm3 hw3 hB3 hz3 hk3 hS3 => ?_)
  have hr3 := hw3
  obtain ⟨hP3, hD3⟩ := gJoin (wr := []) (w1 := []) hP1 hD1 [] [] rfl rfl (by decide) (by decide) hk3 hFc3 ht3 hB3
  have hP3 : va_P D cls [] H3 := hP3
  have hD3 : va_D A [] := hD3
  refine W.widen (k := 0) (n := 0) (Nat.le_of_ble_eq_true rfl) (Nat.le_of_ble_eq_true rfl) ?_
  subst hr3
  refine lv_i2l hx hb d_15_24_21 rfl ?_
  refine lv_topl (fun y4 ey4 => ?_)
  obtain rfl : y4 = 112 := ey4.trans (by decide)
  refine lv_lor hx hb d_15_24_22 ?_
  refine lv_topl (fun y5 ey5 => ?_)
  obtain rfl : y5 = 112 := ey5.trans (by decide)
  refine lv_lstore_n (lv' := [(1, .long 112), (3, .int 0), (0, .ref (ad 5))]) hx hb d_15_24_23 rfl hl (by decide) rfl (fun ls hl => ?_)
  refine lv_iinc (v := 1) (lv' := [(3, .int 1), (1, .long 112), (0, .ref (ad 5))]) hx hb d_15_24_24 hl (k := 1) rfl (by decide) (by decide) rfl (fun ls hl => ?_)
  refine lv_goto (tgt := 4) hx hb d_15_24_27 (by decide) ?_
  refine lv_iload_n hx hb d_15_24_4 rfl (lv_at hl 0 rfl) ?_
  refine lv_aload_n hx hb d_15_24_5 rfl (lv_at hl 2 rfl) ?_
  have hFc6 := va_free (wc := []) hD3 hS3 hA [] rfl
  refine va_calli (va_runV (As := []) (rest := [.int 1]) ⟨hx, hb, hml, hown, hts⟩ (c_String_length_4 l D ca ad av H3.size  ) (cwV 0 hts (gdV k_10_194 k_3_82 k_3_83 k_1_11 k_3_84) rfl rfl rfl (by decide +kernel) ⟨Nat.le_of_ble_eq_true rfl, Nat.le_of_ble_eq_true rfl⟩) ⟨gBlind, vk_recv (i := 0) (hX.2.2.2.2.1 5 _ rfl).2 (by decide) hS3, gAt hP3 hD3 hK hS3 hA hX [] (by decide) rfl [.ref (ad 5)]⟩ rfl rfl hl.1 rfl (lv_room (Nat.le_of_ble_eq_true rfl)) d_15_24_6 ⟨Nat.le_of_ble_eq_true rfl, Nat.le_of_ble_eq_true rfl⟩) hS3 (fun q _ h => hFc6 q h) hFc6 (fun r6 u6 t6 H6 locs6 ht6 hvm6 hw6 hB6 hz6 hk6 hS6 => ?_)
  have hr6 := hw6
  obtain ⟨hP6, hD6⟩ := gJoin (wr := []) (w1 := []) hP3 hD3 [] [] rfl rfl (by decide) (by decide) hk6 hFc6 ht6 hB6
  have hP6 : va_P D cls [] H6 := hP6
  have hD6 : va_D A [] := hD6
  refine W.widen (k := 0) (n := 0) (Nat.le_of_ble_eq_true rfl) (Nat.le_of_ble_eq_true rfl) ?_
  subst hr6
  refine lv_icmp_ge (tgt := 30) hx hb d_15_24_9 (by decide) (fun c => absurd c (by decide)) (fun _ => ?_)
  refine lv_lload_n hx hb d_15_24_12 rfl (lv_at hl 1 rfl) ?_
  refine lv_bipush (v := 8) hx hb d_15_24_13 (by decide) ?_
  refine lv_lshl hx hb d_15_24_15 rfl ?_
  refine lv_topl (fun y7 ey7 => ?_)
  obtain rfl : y7 = 28672 := ey7.trans (by decide)
  refine lv_aload_n hx hb d_15_24_16 rfl (lv_at hl 2 rfl) ?_
  refine lv_iload_n hx hb d_15_24_17 rfl (lv_at hl 0 rfl) ?_
  have hFc8 := va_free (wc := []) hD6 hS6 hA [] rfl
  refine va_calli (va_runV (As := [.int 1]) (rest := [.long 28672]) ⟨hx, hb, hml, hown, hts⟩ (c_String_charAt_20 l D ca ad av H6.size  ) (cwV 1 hts (gdV k_10_195 k_7_134 k_7_135 k_1_11 k_7_136) rfl rfl rfl (by decide +kernel) ⟨Nat.le_of_ble_eq_true rfl, Nat.le_of_ble_eq_true rfl⟩) ⟨gBlind, vk_recv (i := 0) (hX.2.2.2.2.1 5 _ rfl).2 (by decide) hS6, gAt hP6 hD6 hK hS6 hA hX [] (by decide) rfl [.ref (ad 5), .int 1]⟩ rfl rfl hl.1 rfl (lv_room (Nat.le_of_ble_eq_true rfl)) d_15_24_18 ⟨Nat.le_of_ble_eq_true rfl, Nat.le_of_ble_eq_true rfl⟩) hS6 (fun q _ h => hFc8 q h) hFc8 (fun r8 u8 t8 H8 locs8 ht8 hvm8 hw8 hB8 hz8 hk8 hS8 => ?_)
  have hr8 := hw8
  obtain ⟨hP8, hD8⟩ := gJoin (wr := []) (w1 := []) hP6 hD6 [] [] rfl rfl (by decide) (by decide) hk8 hFc8 ht8 hB8
  have hP8 : va_P D cls [] H8 := hP8
  have hD8 : va_D A [] := hD8
  refine W.widen (k := 0) (n := 0) (Nat.le_of_ble_eq_true rfl) (Nat.le_of_ble_eq_true rfl) ?_
  subst hr8
  refine lv_i2l hx hb d_15_24_21 rfl ?_
  refine lv_topl (fun y9 ey9 => ?_)
  obtain rfl : y9 = 112 := ey9.trans (by decide)
  refine lv_lor hx hb d_15_24_22 ?_
  refine lv_topl (fun y10 ey10 => ?_)
  obtain rfl : y10 = 28784 := ey10.trans (by decide)
  refine lv_lstore_n (lv' := [(1, .long 28784), (3, .int 1), (0, .ref (ad 5))]) hx hb d_15_24_23 rfl hl (by decide) rfl (fun ls hl => ?_)
  refine lv_iinc (v := 2) (lv' := [(3, .int 2), (1, .long 28784), (0, .ref (ad 5))]) hx hb d_15_24_24 hl (k := 1) rfl (by decide) (by decide) rfl (fun ls hl => ?_)
  refine lv_goto (tgt := 4) hx hb d_15_24_27 (by decide) ?_
  refine lv_iload_n hx hb d_15_24_4 rfl (lv_at hl 0 rfl) ?_
  refine lv_aload_n hx hb d_15_24_5 rfl (lv_at hl 2 rfl) ?_
  have hFc11 := va_free (wc := []) hD8 hS8 hA [] rfl
  refine va_calli (va_runV (As := []) (rest := [.int 2]) ⟨hx, hb, hml, hown, hts⟩ (c_String_length_4 l D ca ad av H8.size  ) (cwV 0 hts (gdV k_10_194 k_3_82 k_3_83 k_1_11 k_3_84) rfl rfl rfl (by decide +kernel) ⟨Nat.le_of_ble_eq_true rfl, Nat.le_of_ble_eq_true rfl⟩) ⟨gBlind, vk_recv (i := 0) (hX.2.2.2.2.1 5 _ rfl).2 (by decide) hS8, gAt hP8 hD8 hK hS8 hA hX [] (by decide) rfl [.ref (ad 5)]⟩ rfl rfl hl.1 rfl (lv_room (Nat.le_of_ble_eq_true rfl)) d_15_24_6 ⟨Nat.le_of_ble_eq_true rfl, Nat.le_of_ble_eq_true rfl⟩) hS8 (fun q _ h => hFc11 q h) hFc11 (fun r11 u11 t11 H11 locs11 ht11 hvm11 hw11 hB11 hz11 hk11 hS11 => ?_)
  have hr11 := hw11
  obtain ⟨hP11, hD11⟩ := gJoin (wr := []) (w1 := []) hP8 hD8 [] [] rfl rfl (by decide) (by decide) hk11 hFc11 ht11 hB11
  have hP11 : va_P D cls [] H11 := hP11
  have hD11 : va_D A [] := hD11
  refine W.widen (k := 0) (n := 0) (Nat.le_of_ble_eq_true rfl) (Nat.le_of_ble_eq_true rfl) ?_
  subst hr11
  refine lv_icmp_ge (tgt := 30) hx hb d_15_24_9 (by decide) (fun c => absurd c (by decide)) (fun _ => ?_)
  refine lv_lload_n hx hb d_15_24_12 rfl (lv_at hl 1 rfl) ?_
  refine lv_bipush (v := 8) hx hb d_15_24_13 (by decide) ?_
  refine lv_lshl hx hb d_15_24_15 rfl ?_
  refine lv_topl (fun y12 ey12 => ?_)
  obtain rfl : y12 = 7368704 := ey12.trans (by decide)
  refine lv_aload_n hx hb d_15_24_16 rfl (lv_at hl 2 rfl) ?_
  refine lv_iload_n hx hb d_15_24_17 rfl (lv_at hl 0 rfl) ?_
  have hFc13 := va_free (wc := []) hD11 hS11 hA [] rfl
  refine va_calli (va_runV (As := [.int 2]) (rest := [.long 7368704]) ⟨hx, hb, hml, hown, hts⟩ (c_String_charAt_21 l D ca ad av H11.size  ) (cwV 1 hts (gdV k_10_195 k_7_134 k_7_135 k_1_11 k_7_136) rfl rfl rfl (by decide +kernel) ⟨Nat.le_of_ble_eq_true rfl, Nat.le_of_ble_eq_true rfl⟩) ⟨gBlind, vk_recv (i := 0) (hX.2.2.2.2.1 5 _ rfl).2 (by decide) hS11, gAt hP11 hD11 hK hS11 hA hX [] (by decide) rfl [.ref (ad 5), .int 2]⟩ rfl rfl hl.1 rfl (lv_room (Nat.le_of_ble_eq_true rfl)) d_15_24_18 ⟨Nat.le_of_ble_eq_true rfl, Nat.le_of_ble_eq_true rfl⟩) hS11 (fun q _ h => hFc13 q h) hFc13 (fun r13 u13 t13 H13 locs13 ht13 hvm13 hw13 hB13 hz13 hk13 hS13 => ?_)
  have hr13 := hw13
  obtain ⟨hP13, hD13⟩ := gJoin (wr := []) (w1 := []) hP11 hD11 [] [] rfl rfl (by decide) (by decide) hk13 hFc13 ht13 hB13
  have hP13 : va_P D cls [] H13 := hP13
  have hD13 : va_D A [] := hD13
  refine W.widen (k := 0) (n := 0) (Nat.le_of_ble_eq_true rfl) (Nat.le_of_ble_eq_true rfl) ?_
  subst hr13
  refine lv_i2l hx hb d_15_24_21 rfl ?_
  refine lv_topl (fun y14 ey14 => ?_)
  obtain rfl : y14 = 112 := ey14.trans (by decide)
  refine lv_lor hx hb d_15_24_22 ?_
  refine lv_topl (fun y15 ey15 => ?_)
  obtain rfl : y15 = 7368816 := ey15.trans (by decide)
  refine lv_lstore_n (lv' := [(1, .long 7368816), (3, .int 2), (0, .ref (ad 5))]) hx hb d_15_24_23 rfl hl (by decide) rfl (fun ls hl => ?_)
  refine lv_iinc (v := 3) (lv' := [(3, .int 3), (1, .long 7368816), (0, .ref (ad 5))]) hx hb d_15_24_24 hl (k := 1) rfl (by decide) (by decide) rfl (fun ls hl => ?_)
  refine lv_goto (tgt := 4) hx hb d_15_24_27 (by decide) ?_
  refine lv_iload_n hx hb d_15_24_4 rfl (lv_at hl 0 rfl) ?_
  refine lv_aload_n hx hb d_15_24_5 rfl (lv_at hl 2 rfl) ?_
  have hFc16 := va_free (wc := []) hD13 hS13 hA [] rfl
  refine va_calli (va_runV (As := []) (rest := [.int 3]) ⟨hx, hb, hml, hown, hts⟩ (c_String_length_4 l D ca ad av H13.size  ) (cwV 0 hts (gdV k_10_194 k_3_82 k_3_83 k_1_11 k_3_84) rfl rfl rfl (by decide +kernel) ⟨Nat.le_of_ble_eq_true rfl, Nat.le_of_ble_eq_true rfl⟩) ⟨gBlind, vk_recv (i := 0) (hX.2.2.2.2.1 5 _ rfl).2 (by decide) hS13, gAt hP13 hD13 hK hS13 hA hX [] (by decide) rfl [.ref (ad 5)]⟩ rfl rfl hl.1 rfl (lv_room (Nat.le_of_ble_eq_true rfl)) d_15_24_6 ⟨Nat.le_of_ble_eq_true rfl, Nat.le_of_ble_eq_true rfl⟩) hS13 (fun q _ h => hFc16 q h) hFc16 (fun r16 u16 t16 H16 locs16 ht16 hvm16 hw16 hB16 hz16 hk16 hS16 => ?_)
  have hr16 := hw16
  obtain ⟨hP16, hD16⟩ := gJoin (wr := []) (w1 := []) hP13 hD13 [] [] rfl rfl (by decide) (by decide) hk16 hFc16 ht16 hB16
  have hP16 : va_P D cls [] H16 := hP16
  have hD16 : va_D A [] := hD16
  refine W.widen (k := 0) (n := 0) (Nat.le_of_ble_eq_true rfl) (Nat.le_of_ble_eq_true rfl) ?_
  subst hr16
  refine lv_icmp_ge (tgt := 30) hx hb d_15_24_9 (by decide) (fun _ => ?_) (fun c => absurd (by decide) c)
  refine lv_lload_n hx hb d_15_24_30 rfl (lv_at hl 1 rfl) ?_
  have hP9 := hP16.sub (ws' := []) [] rfl
  have hD9 := hD16.sub (ws' := []) [] (by decide) rfl
  refine W.widen (k := 0) (n := 0) (Nat.le_of_ble_eq_true rfl) (Nat.le_of_ble_eq_true rfl) ?_
  exact W.lret (v := 7368816) hx hb hr (fun t ht hW => ⟨⟨7368816, (), rfl, rfl, by rw [ht]; exact hP9, va_K.moved hW.alike hK, hD9⟩, hS16.F ht⟩) hS16.2.2 d_15_24_31
abbrev Q_String_coder_5 (D : va_G) (ca : Nat → ClassId)  (A : Nat → Prop) : Array Value → State → Outcome → State → Prop := va_Qi (S := Unit) (fun (r : Int32) (u : Unit) => r = 0) (fun u => gB D ca A []) A
set_option maxHeartbeats 8000000 in
set_option maxRecDepth 100000 in
theorem c_String_coder_5 (l : Launch) (D : va_G) (ca : Nat → ClassId) (ad av : Nat → Nat) (sz : Nat)   : Met l ({ cls := "java/lang/String", name := "coder", desc := "()B" } : Jvm.MethodName) (Cond.code ({ cls := "java/lang/String", name := "coder", desc := "()B" } : Jvm.MethodName) prog_21_method_152_code 1 (Option.some Jvm.ClassFile.FieldType.byte) :: wAll) ({ frames := 0, cells := 0, slots := 0, locals := 0 } : Room) (va_Pc [.ref (ad 6)] (gPre D ca ad av [] sz)) (Q_String_coder_5 D ca  (va_A [] sz)) 0 0 (va_A [] sz) := by
  refine gMet (Qc := Q_String_coder_5 D ca ) (lv := [(0, .ref (ad 6))]) (by decide) (Nat.le_of_ble_eq_true rfl) rfl (fun A p e s m below meth c ls hx hb hr hml hown hts hlk hnm hl hP hK hD hS hA hX => ?_)
  have hown : s.vm.findClass "java/lang/String" = some m.cls := hown
  have hnm : meth.name = "coder" := hnm
  refine va_gets hx hb (hX.2.2.2.1 _ (List.mem_of_getElem? (i := 0) rfl)) hS hown (hts _ k_3_79) (fun _ h => h) d_21_152_0 ?_
  refine lv_if_eq (tgt := 13) hx hb d_21_152_3 (by decide) (fun c => absurd c (by decide)) (fun _ => ?_)
  refine lv_aload_n hx hb d_21_152_6 rfl (lv_at hl 0 rfl) ?_
  refine vk_getf hx hb ((hX.2.2.2.2.1 6 _ rfl).2.1 0 (by decide)).2.1 hS hown (hts _ k_15_171) (fun _ h => h) d_21_152_7 ?_
  refine W.eq (g2 := F0 m 10 ls [.int 0]) rfl ?_
  refine lv_goto (tgt := 14) hx hb d_21_152_10 (by decide) ?_
  have hP9 := hP.sub (ws' := []) [] rfl
  have hD9 := hD.sub (ws' := []) [] (by decide) rfl
  refine W.widen (k := 0) (n := 0) (Nat.le_of_ble_eq_true rfl) (Nat.le_of_ble_eq_true rfl) ?_
  exact W.zret (v := 0) hx hb hr rfl (fun t ht hW => ⟨⟨0, (), rfl, rfl, by rw [ht]; exact hP9, va_K.moved hW.alike hK, hD9⟩, hS.F ht⟩) hS.2.2 d_21_152_14
abbrev Q_String_length_5 (D : va_G) (ca : Nat → ClassId)  (A : Nat → Prop) : Array Value → State → Outcome → State → Prop := va_Qi (S := Unit) (fun (r : Int32) (u : Unit) => r = 2) (fun u => gB D ca A []) A
set_option maxHeartbeats 8000000 in
set_option maxRecDepth 100000 in
theorem c_String_length_5 (l : Launch) (D : va_G) (ca : Nat → ClassId) (ad av : Nat → Nat) (sz : Nat)   : Met l ({ cls := "java/lang/String", name := "length", desc := "()I" } : Jvm.MethodName) (Cond.code ({ cls := "java/lang/String", name := "length", desc := "()I" } : Jvm.MethodName) prog_21_method_54_code 1 (Option.some Jvm.ClassFile.FieldType.int) :: wAll) ({ frames := 1, cells := 0, slots := 0, locals := 20 } : Room) (va_Pc [.ref (ad 6)] (gPre D ca ad av [] sz)) (Q_String_length_5 D ca  (va_A [] sz)) 0 0 (va_A [] sz) := by
  refine gMet (Qc := Q_String_length_5 D ca ) (lv := [(0, .ref (ad 6))]) (by decide) (Nat.le_of_ble_eq_true rfl) rfl (fun A p e s m below meth c ls hx hb hr hml hown hts hlk hnm hl hP hK hD hS hA hX => ?_)
  have hown : s.vm.findClass "java/lang/String" = some m.cls := hown
  have hnm : meth.name = "length" := hnm
  refine lv_aload_n hx hb d_21_54_0 rfl (lv_at hl 0 rfl) ?_
  refine vk_getf hx hb ((hX.2.2.2.2.1 6 _ rfl).2.1 0 (by decide)).2.2.1 hS hown (hts _ k_15_170) (fun _ h => h) d_21_54_1 ?_
  refine W.eq (g2 := F0 m 4 ls [.ref (av 6)]) rfl ?_
  refine va_tlen (v := 2) hx hb ((hX.2.2.2.2.1 6 _ rfl).2.1 0 (by decide)).2.2.2 hS (by decide) d_21_54_4 ?_
  refine lv_aload_n hx hb d_21_54_5 rfl (lv_at hl 0 rfl) ?_
  have hFc1 := va_free (wc := []) hD hS hA [] rfl
  refine va_calli (va_runV (As := []) (rest := [.int 2]) ⟨hx, hb, hml, hown, hts⟩ (c_String_coder_5 l D ca ad av s.heap.size  ) (cwV 0 hts (gdV k_3_85 k_3_86 k_3_87 k_1_11 k_3_88) rfl rfl rfl (by decide +kernel) ⟨Nat.le_of_ble_eq_true rfl, Nat.le_of_ble_eq_true rfl⟩) ⟨gBlind, vk_recv (i := 0) (hX.2.2.2.2.1 6 _ rfl).2 (by decide) hS, gAt hP hD hK hS hA hX [] (by decide) rfl [.ref (ad 6)]⟩ rfl rfl hl.1 rfl (lv_room (Nat.le_of_ble_eq_true rfl)) d_21_54_6 ⟨Nat.le_of_ble_eq_true rfl, Nat.le_of_ble_eq_true rfl⟩) hS (fun q _ h => hFc1 q h) hFc1 (fun r1 u1 t1 H1 locs1 ht1 hvm1 hw1 hB1 hz1 hk1 hS1 => ?_)
  have hr1 := hw1
  obtain ⟨hP1, hD1⟩ := gJoin (wr := []) (w1 := []) hP hD [] [] rfl rfl (by decide) (by decide) hk1 hFc1 ht1 hB1
  have hP1 : va_P D cls [] H1 := hP1
  have hD1 : va_D A [] := hD1
  refine W.widen (k := 0) (n := 0) (Nat.le_of_ble_eq_true rfl) (Nat.le_of_ble_eq_true rfl) ?_
  subst hr1
  refine lv_ishr hx hb d_21_54_9 ?_
  refine lv_topi (fun y2 ey2 => ?_)
  obtain rfl : y2 = 2 := ey2.trans (by decide)
  have hP9 := hP1.sub (ws' := []) [] rfl
  have hD9 := hD1.sub (ws' := []) [] (by decide) rfl
  refine W.widen (k := 0) (n := 0) (Nat.le_of_ble_eq_true rfl) (Nat.le_of_ble_eq_true rfl) ?_
  exact W.iret (v := 2) hx hb hr (fun t ht hW => ⟨⟨2, (), rfl, rfl, by rw [ht]; exact hP9, va_K.moved hW.alike hK, hD9⟩, hS1.F ht⟩) hS1.2.2 d_21_54_10
abbrev Q_String_isLatin1_5 (D : va_G) (ca : Nat → ClassId)  (A : Nat → Prop) : Array Value → State → Outcome → State → Prop := va_Qi (S := Unit) (fun (r : Int32) (u : Unit) => r = 1) (fun u => gB D ca A []) A
set_option maxHeartbeats 8000000 in
set_option maxRecDepth 100000 in
theorem c_String_isLatin1_5 (l : Launch) (D : va_G) (ca : Nat → ClassId) (ad av : Nat → Nat) (sz : Nat)   : Met l ({ cls := "java/lang/String", name := "isLatin1", desc := "()Z" } : Jvm.MethodName) (Cond.code ({ cls := "java/lang/String", name := "isLatin1", desc := "()Z" } : Jvm.MethodName) prog_21_method_154_code 1 (Option.some Jvm.ClassFile.FieldType.boolean) :: wAll) ({ frames := 0, cells := 0, slots := 0, locals := 0 } : Room) (va_Pc [.ref (ad 6)] (gPre D ca ad av [] sz)) (Q_String_isLatin1_5 D ca  (va_A [] sz)) 0 0 (va_A [] sz) := by
  refine gMet (Qc := Q_String_isLatin1_5 D ca ) (lv := [(0, .ref (ad 6))]) (by decide) (Nat.le_of_ble_eq_true rfl) rfl (fun A p e s m below meth c ls hx hb hr hml hown hts hlk hnm hl hP hK hD hS hA hX => ?_)
  have hown : s.vm.findClass "java/lang/String" = some m.cls := hown
  have hnm : meth.name = "isLatin1" := hnm
  refine va_gets hx hb (hX.2.2.2.1 _ (List.mem_of_getElem? (i := 0) rfl)) hS hown (hts _ k_3_79) (fun _ h => h) d_21_154_0 ?_
  refine lv_if_eq (tgt := 17) hx hb d_21_154_3 (by decide) (fun c => absurd c (by decide)) (fun _ => ?_)
  refine lv_aload_n hx hb d_21_154_6 rfl (lv_at hl 0 rfl) ?_
  refine vk_getf hx hb ((hX.2.2.2.2.1 6 _ rfl).2.1 0 (by decide)).2.1 hS hown (hts _ k_15_171) (fun _ h => h) d_21_154_7 ?_
  refine W.eq (g2 := F0 m 10 ls [.int 0]) rfl ?_
  refine lv_if_ne (tgt := 17) hx hb d_21_154_10 (by decide) (fun c => absurd c (by decide)) (fun _ => ?_)
  refine lv_iconst (v := 1) hx hb d_21_154_13 (by decide) ?_
  refine lv_goto (tgt := 18) hx hb d_21_154_14 (by decide) ?_
  have hP9 := hP.sub (ws' := []) [] rfl
  have hD9 := hD.sub (ws' := []) [] (by decide) rfl
  refine W.widen (k := 0) (n := 0) (Nat.le_of_ble_eq_true rfl) (Nat.le_of_ble_eq_true rfl) ?_
  exact W.zret (v := 1) hx hb hr rfl (fun t ht hW => ⟨⟨1, (), rfl, rfl, by rw [ht]; exact hP9, va_K.moved hW.alike hK, hD9⟩, hS.F ht⟩) hS.2.2 d_21_154_18
abbrev Q_Preconditions_checkIndex_36 (D : va_G) (ca : Nat → ClassId)  (A : Nat → Prop) : Array Value → State → Outcome → State → Prop := va_Qi (S := Unit) (fun (r : Int32) (u : Unit) => r = 0) (fun u => gB D ca A []) A
set_option maxHeartbeats 8000000 in
set_option maxRecDepth 100000 in
theorem c_Preconditions_checkIndex_36 (l : Launch) (D : va_G) (ca : Nat → ClassId) (ad av : Nat → Nat) (sz : Nat)   : Met l ({ cls := "jdk/internal/util/Preconditions", name := "checkIndex", desc := "(IILjava/util/function/BiFunction;)I" } : Jvm.MethodName) (Cond.code ({ cls := "jdk/internal/util/Preconditions", name := "checkIndex", desc := "(IILjava/util/function/BiFunction;)I" } : Jvm.MethodName) prog_24_method_11_code 3 (Option.some Jvm.ClassFile.FieldType.int) :: wAll) ({ frames := 0, cells := 0, slots := 0, locals := 0 } : Room) (va_Pc [.int 0, .int 2, .null] (gPre D ca ad av [] sz)) (Q_Preconditions_checkIndex_36 D ca  (va_A [] sz)) 0 0 (va_A [] sz) := by
  refine gMet (Qc := Q_Preconditions_checkIndex_36 D ca ) (lv := [(0, .int 0), (1, .int 2), (2, .null)]) (by decide) (Nat.le_of_ble_eq_true rfl) rfl (fun A p e s m below meth c ls hx hb hr hml hown hts hlk hnm hl hP hK hD hS hA hX => ?_)
  have hown : s.vm.findClass "jdk/internal/util/Preconditions" = some m.cls := hown
  have hnm : meth.name = "checkIndex" := hnm
  refine lv_iload_n hx hb d_24_11_0 rfl (lv_at hl 0 rfl) ?_
  refine lv_if_lt (tgt := 9) hx hb d_24_11_1 (by decide) (fun c => absurd c (by decide)) (fun _ => ?_)
  refine lv_iload_n hx hb d_24_11_4 rfl (lv_at hl 0 rfl) ?_
  refine lv_iload_n hx hb d_24_11_5 rfl (lv_at hl 1 rfl) ?_
  refine lv_icmp_lt (tgt := 16) hx hb d_24_11_6 (by decide) (fun _ => ?_) (fun c => absurd (by decide) c)
  refine lv_iload_n hx hb d_24_11_16 rfl (lv_at hl 0 rfl) ?_
  have hP9 := hP.sub (ws' := []) [] rfl
  have hD9 := hD.sub (ws' := []) [] (by decide) rfl
  refine W.widen (k := 0) (n := 0) (Nat.le_of_ble_eq_true rfl) (Nat.le_of_ble_eq_true rfl) ?_
  exact W.iret (v := 0) hx hb hr (fun t ht hW => ⟨⟨0, (), rfl, rfl, by rw [ht]; exact hP9, va_K.moved hW.alike hK, hD9⟩, hS.F ht⟩) hS.2.2 d_24_11_17
abbrev Q_Preconditions_checkIndex_37 (D : va_G) (ca : Nat → ClassId) (r0 : Nat) (A : Nat → Prop) : Array Value → State → Outcome → State → Prop := va_Qi (S := Unit) (fun (r : Int32) (u : Unit) => r = 0) (fun u => gB D ca A []) A
set_option maxHeartbeats 8000000 in
set_option maxRecDepth 100000 in
theorem c_Preconditions_checkIndex_37 (l : Launch) (D : va_G) (ca : Nat → ClassId) (ad av : Nat → Nat) (sz : Nat) (r0 : Nat)  : Met l ({ cls := "jdk/internal/util/Preconditions", name := "checkIndex", desc := "(IILjava/util/function/BiFunction;)I" } : Jvm.MethodName) (Cond.code ({ cls := "jdk/internal/util/Preconditions", name := "checkIndex", desc := "(IILjava/util/function/BiFunction;)I" } : Jvm.MethodName) prog_24_method_11_code 3 (Option.some Jvm.ClassFile.FieldType.int) :: wAll) ({ frames := 0, cells := 0, slots := 0, locals := 0 } : Room) (va_Pc [.int 0, .int 2, .ref r0] (gPre D ca ad av [] sz)) (Q_Preconditions_checkIndex_37 D ca r0 (va_A [] sz)) 0 0 (va_A [] sz) := by
  refine gMet (Qc := Q_Preconditions_checkIndex_37 D ca r0) (lv := [(0, .int 0), (1, .int 2), (2, .ref r0)]) (by decide) (Nat.le_of_ble_eq_true rfl) rfl (fun A p e s m below meth c ls hx hb hr hml hown hts hlk hnm hl hP hK hD hS hA hX => ?_)
  have hown : s.vm.findClass "jdk/internal/util/Preconditions" = some m.cls := hown
  have hnm : meth.name = "checkIndex" := hnm
  refine lv_iload_n hx hb d_24_11_0 rfl (lv_at hl 0 rfl) ?_
  refine lv_if_lt (tgt := 9) hx hb d_24_11_1 (by decide) (fun c => absurd c (by decide)) (fun _ => ?_)
  refine lv_iload_n hx hb d_24_11_4 rfl (lv_at hl 0 rfl) ?_
  refine lv_iload_n hx hb d_24_11_5 rfl (lv_at hl 1 rfl) ?_
  refine lv_icmp_lt (tgt := 16) hx hb d_24_11_6 (by decide) (fun _ => ?_) (fun c => absurd (by decide) c)
  refine lv_iload_n hx hb d_24_11_16 rfl (lv_at hl 0 rfl) ?_
  have hP9 := hP.sub (ws' := []) [] rfl
  have hD9 := hD.sub (ws' := []) [] (by decide) rfl
  refine W.widen (k := 0) (n := 0) (Nat.le_of_ble_eq_true rfl) (Nat.le_of_ble_eq_true rfl) ?_
  exact W.iret (v := 0) hx hb hr (fun t ht hW => ⟨⟨0, (), rfl, rfl, by rw [ht]; exact hP9, va_K.moved hW.alike hK, hD9⟩, hS.F ht⟩) hS.2.2 d_24_11_17
abbrev Q_String_checkIndex_18 (D : va_G) (ca : Nat → ClassId)  (A : Nat → Prop) : Array Value → State → Outcome → State → Prop := va_Qv (S := Unit) (fun (u : Unit) => True) (fun u => gB D ca A []) A
set_option maxHeartbeats 8000000 in
set_option maxRecDepth 100000 in
theorem c_String_checkIndex_18 (l : Launch) (D : va_G) (ca : Nat → ClassId) (ad av : Nat → Nat) (sz : Nat)   : Met l ({ cls := "java/lang/String", name := "checkIndex", desc := "(II)V" } : Jvm.MethodName) (Cond.code ({ cls := "java/lang/String", name := "checkIndex", desc := "(II)V" } : Jvm.MethodName) prog_21_method_155_code 2 (Option.none : Option Jvm.ClassFile.FieldType) :: wAll) ({ frames := 1, cells := 0, slots := 0, locals := 22 } : Room) (va_Pc [.int 0, .int 2] (gPre D ca ad av [] sz)) (Q_String_checkIndex_18 D ca  (va_A [] sz)) 0 0 (va_A [] sz) := by
  refine gMet (Qc := Q_String_checkIndex_18 D ca ) (lv := [(0, .int 0), (1, .int 2)]) (by decide) (Nat.le_of_ble_eq_true rfl) rfl (fun A p e s m below meth c ls hx hb hr hml hown hts hlk hnm hl hP hK hD hS hA hX => ?_)
  have hown : s.vm.findClass "java/lang/String" = some m.cls := hown
  have hnm : meth.name = "checkIndex" := hnm
  refine lv_iload_n hx hb d_21_155_0 rfl (lv_at hl 0 rfl) ?_
  refine lv_iload_n hx hb d_21_155_1 rfl (lv_at hl 1 rfl) ?_
  rcases hX.2.2.2.2.2 with hz1 | ⟨tz1, hz1⟩
  · refine va_gets hx hb hz1 hS hown (hts _ k_3_120) (fun _ h => h) d_21_155_2 ?_
    have hFc2 := va_free (wc := []) hD hS hA [] rfl
    refine va_calli (va_runS (As := [.int 0, .int 2, .null]) (rest := []) ⟨hx, hb, hml, hown, hts⟩ (c_Preconditions_checkIndex_36 l D ca ad av s.heap.size  ) (va_cwS 3 hts (gdS k_7_143 k_7_144 k_1_13 k_7_145) rfl rfl rfl (by decide +kernel) ⟨Nat.le_of_ble_eq_true rfl, Nat.le_of_ble_eq_true rfl⟩) (gPS hP hD hK hS hA hX [] (by decide) rfl [.int 0, .int 2, .null]) rfl rfl hl.1 rfl (lv_room (Nat.le_of_ble_eq_true rfl)) d_21_155_5 ⟨Nat.le_of_ble_eq_true rfl, Nat.le_of_ble_eq_true rfl⟩) hS (fun q _ h => hFc2 q h) hFc2 (fun r2 u2 t2 H2 locs2 ht2 hvm2 hw2 hB2 hz2 hk2 hS2 => ?_)
    have hr2 := hw2
    obtain ⟨hP2, hD2⟩ := gJoin (wr := []) (w1 := []) hP hD [] [] rfl rfl (by decide) (by decide) hk2 hFc2 ht2 hB2
    have hP2 : va_P D cls [] H2 := hP2
    have hD2 : va_D A [] := hD2
    refine W.widen (k := 0) (n := 0) (Nat.le_of_ble_eq_true rfl) (Nat.le_of_ble_eq_true rfl) ?_
    subst hr2
    refine lv_pop hx hb d_21_155_8 rfl ?_
    have hP9 := hP2.sub (ws' := []) [] rfl
    have hD9 := hD2.sub (ws' := []) [] (by decide) rfl
    refine W.widen (k := 0) (n := 0) (Nat.le_of_ble_eq_true rfl) (Nat.le_of_ble_eq_true rfl) ?_
    exact W.vret hx hb hr (fun t ht hW => ⟨⟨(), rfl, trivial, by rw [ht]; exact hP9, va_K.moved hW.alike hK, hD9⟩, hS2.F ht⟩) hS2.2.2 d_21_155_9
  · refine va_gets hx hb hz1 hS hown (hts _ k_3_120) (fun _ h => h) d_21_155_2 ?_
    have hFc3 := va_free (wc := []) hD hS hA [] rfl
    refine va_calli (va_runS (As := [.int 0, .int 2, .ref tz1]) (rest := []) ⟨hx, hb, hml, hown, hts⟩ (c_Preconditions_checkIndex_37 l D ca ad av s.heap.size tz1 ) (va_cwS 3 hts (gdS k_7_143 k_7_144 k_1_13 k_7_145) rfl rfl rfl (by decide +kernel) ⟨Nat.le_of_ble_eq_true rfl, Nat.le_of_ble_eq_true rfl⟩) (gPS hP hD hK hS hA hX [] (by decide) rfl [.int 0, .int 2, .ref tz1]) rfl rfl hl.1 rfl (lv_room (Nat.le_of_ble_eq_true rfl)) d_21_155_5 ⟨Nat.le_of_ble_eq_true rfl, Nat.le_of_ble_eq_true rfl⟩) hS (fun q _ h => hFc3 q h) hFc3 (fun r3 u3 t3 H3 locs3 ht3 hvm3 hw3 hB3 hz3 hk3 hS3 => ?_)
    have hr3 := hw3
    obtain ⟨hP3, hD3⟩ := gJoin (wr := []) (w1 := []) hP hD [] [] rfl rfl (by decide) (by decide) hk3 hFc3 ht3 hB3
    have hP3 : va_P D cls [] H3 := hP3
    have hD3 : va_D A [] := hD3
    refine W.widen (k := 0) (n := 0) (Nat.le_of_ble_eq_true rfl) (Nat.le_of_ble_eq_true rfl) ?_
    subst hr3
    refine lv_pop hx hb d_21_155_8 rfl ?_
    have hP9 := hP3.sub (ws' := []) [] rfl
    have hD9 := hD3.sub (ws' := []) [] (by decide) rfl
    refine W.widen (k := 0) (n := 0) (Nat.le_of_ble_eq_true rfl) (Nat.le_of_ble_eq_true rfl) ?_
    exact W.vret hx hb hr (fun t ht hW => ⟨⟨(), rfl, trivial, by rw [ht]; exact hP9, va_K.moved hW.alike hK, hD9⟩, hS3.F ht⟩) hS3.2.2 d_21_155_9
abbrev Q_StringLatin1_charAt_22 (D : va_G) (ca : Nat → ClassId)  (A : Nat → Prop) : Array Value → State → Outcome → State → Prop := va_Qi (S := Unit) (fun (r : Int32) (u : Unit) => r = 112) (fun u => gB D ca A []) A
set_option maxHeartbeats 8000000 in
set_option maxRecDepth 100000 in
theorem c_StringLatin1_charAt_22 (l : Launch) (D : va_G) (ca : Nat → ClassId) (ad av : Nat → Nat) (sz : Nat)   : Met l ({ cls := "java/lang/StringLatin1", name := "charAt", desc := "([BI)C" } : Jvm.MethodName) (Cond.code ({ cls := "java/lang/StringLatin1", name := "charAt", desc := "([BI)C" } : Jvm.MethodName) prog_22_method_2_code 2 (Option.some Jvm.ClassFile.FieldType.char) :: wAll) ({ frames := 2, cells := 0, slots := 0, locals := 43 } : Room) (va_Pc [.ref (av 6), .int 0] (gPre D ca ad av [] sz)) (Q_StringLatin1_charAt_22 D ca  (va_A [] sz)) 0 0 (va_A [] sz) := by
  refine gMet (Qc := Q_StringLatin1_charAt_22 D ca ) (lv := [(0, .ref (av 6)), (1, .int 0)]) (by decide) (Nat.le_of_ble_eq_true rfl) rfl (fun A p e s m below meth c ls hx hb hr hml hown hts hlk hnm hl hP hK hD hS hA hX => ?_)
  have hown : s.vm.findClass "java/lang/StringLatin1" = some m.cls := hown
  have hnm : meth.name = "charAt" := hnm
  refine lv_iload_n hx hb d_22_2_0 rfl (lv_at hl 1 rfl) ?_
  refine lv_aload_n hx hb d_22_2_1 rfl (lv_at hl 0 rfl) ?_
  refine va_tlen (v := 2) hx hb ((hX.2.2.2.2.1 6 _ rfl).2.1 0 (by decide)).2.2.2 hS (by decide) d_22_2_2 ?_
  have hFc1 := va_free (wc := []) hD hS hA [] rfl
  refine va_callv (va_runS (As := [.int 0, .int 2]) (rest := []) ⟨hx, hb, hml, hown, hts⟩ (c_String_checkIndex_18 l D ca ad av s.heap.size  ) (va_cwS 2 hts (gdS k_7_140 k_7_141 k_1_11 k_7_142) rfl rfl rfl (by decide +kernel) ⟨Nat.le_of_ble_eq_true rfl, Nat.le_of_ble_eq_true rfl⟩) (gPS hP hD hK hS hA hX [] (by decide) rfl [.int 0, .int 2]) rfl rfl hl.1 rfl (lv_room (Nat.le_of_ble_eq_true rfl)) d_22_2_3 ⟨Nat.le_of_ble_eq_true rfl, Nat.le_of_ble_eq_true rfl⟩) hS (fun q _ h => hFc1 q h) hFc1 (fun u1 t1 H1 locs1 ht1 hvm1 hw1 hB1 hz1 hk1 hS1 => ?_)
  obtain ⟨hP1, hD1⟩ := gJoin (wr := []) (w1 := []) hP hD [] [] rfl rfl (by decide) (by decide) hk1 hFc1 ht1 hB1
  have hP1 : va_P D cls [] H1 := hP1
  have hD1 : va_D A [] := hD1
  refine W.widen (k := 0) (n := 0) (Nat.le_of_ble_eq_true rfl) (Nat.le_of_ble_eq_true rfl) ?_
  refine lv_aload_n hx hb d_22_2_6 rfl (lv_at hl 0 rfl) ?_
  refine lv_iload_n hx hb d_22_2_7 rfl (lv_at hl 1 rfl) ?_
  refine va_tb (v := .int 112) hx hb ((hX.2.2.2.2.1 6 _ rfl).2.1 0 (by decide)).2.2.2 hS1 (vinC (by decide)) rfl d_22_2_8 ?_
  refine lv_sipush (v := 255) hx hb d_22_2_9 (by decide) ?_
  refine lv_iand hx hb d_22_2_12 ?_
  refine lv_topi (fun y2 ey2 => ?_)
  obtain rfl : y2 = 112 := ey2.trans (by decide)
  refine lv_i2c hx hb d_22_2_13 rfl ?_
  refine lv_topi (fun y3 ey3 => ?_)
  obtain rfl : y3 = 112 := ey3.trans (by decide)
  have hP9 := hP1.sub (ws' := []) [] rfl
  have hD9 := hD1.sub (ws' := []) [] (by decide) rfl
  refine W.widen (k := 0) (n := 0) (Nat.le_of_ble_eq_true rfl) (Nat.le_of_ble_eq_true rfl) ?_
  exact W.zret (v := 112) hx hb hr rfl (fun t ht hW => ⟨⟨112, (), rfl, rfl, by rw [ht]; exact hP9, va_K.moved hW.alike hK, hD9⟩, hS1.F ht⟩) hS1.2.2 d_22_2_14
abbrev Q_String_charAt_22 (D : va_G) (ca : Nat → ClassId)  (A : Nat → Prop) : Array Value → State → Outcome → State → Prop := va_Qi (S := Unit) (fun (r : Int32) (u : Unit) => r = 112) (fun u => gB D ca A []) A
set_option maxHeartbeats 8000000 in
set_option maxRecDepth 100000 in
theorem c_String_charAt_22 (l : Launch) (D : va_G) (ca : Nat → ClassId) (ad av : Nat → Nat) (sz : Nat)   : Met l ({ cls := "java/lang/String", name := "charAt", desc := "(I)C" } : Jvm.MethodName) (Cond.code ({ cls := "java/lang/String", name := "charAt", desc := "(I)C" } : Jvm.MethodName) prog_21_method_56_code 2 (Option.some Jvm.ClassFile.FieldType.char) :: wAll) ({ frames := 3, cells := 0, slots := 0, locals := 64 } : Room) (va_Pc [.ref (ad 6), .int 0] (gPre D ca ad av [] sz)) (Q_String_charAt_22 D ca  (va_A [] sz)) 0 0 (va_A [] sz) := by
  refine gMet (Qc := Q_String_charAt_22 D ca ) (lv := [(0, .ref (ad 6)), (1, .int 0)]) (by decide) (Nat.le_of_ble_eq_true rfl) rfl (fun A p e s m below meth c ls hx hb hr hml hown hts hlk hnm hl hP hK hD hS hA hX => ?_)
  have hown : s.vm.findClass "java/lang/String" = some m.cls := hown
  have hnm : meth.name = "charAt" := hnm
  refine lv_aload_n hx hb d_21_56_0 rfl (lv_at hl 0 rfl) ?_
  have hFc1 := va_free (wc := []) hD hS hA [] rfl
  refine va_calli (va_runV (As := []) (rest := []) ⟨hx, hb, hml, hown, hts⟩ (c_String_isLatin1_5 l D ca ad av s.heap.size  ) (cwV 0 hts (gdV k_3_75 k_3_76 k_3_77 k_1_11 k_3_78) rfl rfl rfl (by decide +kernel) ⟨Nat.le_of_ble_eq_true rfl, Nat.le_of_ble_eq_true rfl⟩) ⟨gBlind, vk_recv (i := 0) (hX.2.2.2.2.1 6 _ rfl).2 (by decide) hS, gAt hP hD hK hS hA hX [] (by decide) rfl [.ref (ad 6)]⟩ rfl rfl hl.1 rfl (lv_room (Nat.le_of_ble_eq_true rfl)) d_21_56_1 ⟨Nat.le_of_ble_eq_true rfl, Nat.le_of_ble_eq_true rfl⟩) hS (fun q _ h => hFc1 q h) hFc1 (fun r1 u1 t1 H1 locs1 ht1 hvm1 hw1 hB1 hz1 hk1 hS1 => ?_)
  have hr1 := hw1
  obtain ⟨hP1, hD1⟩ := gJoin (wr := []) (w1 := []) hP hD [] [] rfl rfl (by decide) (by decide) hk1 hFc1 ht1 hB1
  have hP1 : va_P D cls [] H1 := hP1
  have hD1 : va_D A [] := hD1
  refine W.widen (k := 0) (n := 0) (Nat.le_of_ble_eq_true rfl) (Nat.le_of_ble_eq_true rfl) ?_
  subst hr1
  refine lv_if_eq (tgt := 16) hx hb d_21_56_4 (by decide) (fun c => absurd c (by decide)) (fun _ => ?_)
  refine lv_aload_n hx hb d_21_56_7 rfl (lv_at hl 0 rfl) ?_
  refine vk_getf hx hb ((hX.2.2.2.2.1 6 _ rfl).2.1 0 (by decide)).2.2.1 hS1 hown (hts _ k_15_170) (fun _ h => h) d_21_56_8 ?_
  refine W.eq (g2 := F0 m 11 ls [.ref (av 6)]) rfl ?_
  refine lv_iload_n hx hb d_21_56_11 rfl (lv_at hl 1 rfl) ?_
  have hFc2 := va_free (wc := []) hD1 hS1 hA [] rfl
  refine va_calli (va_runS (As := [.ref (av 6), .int 0]) (rest := []) ⟨hx, hb, hml, hown, hts⟩ (c_StringLatin1_charAt_22 l D ca ad av H1.size  ) (va_cwS 2 hts (gdS k_7_137 k_7_138 k_1_12 k_7_139) rfl rfl rfl (by decide +kernel) ⟨Nat.le_of_ble_eq_true rfl, Nat.le_of_ble_eq_true rfl⟩) (gPS hP1 hD1 hK hS1 hA hX [] (by decide) rfl [.ref (av 6), .int 0]) rfl rfl hl.1 rfl (lv_room (Nat.le_of_ble_eq_true rfl)) d_21_56_12 ⟨Nat.le_of_ble_eq_true rfl, Nat.le_of_ble_eq_true rfl⟩) hS1 (fun q _ h => hFc2 q h) hFc2 (fun r2 u2 t2 H2 locs2 ht2 hvm2 hw2 hB2 hz2 hk2 hS2 => ?_)
  have hr2 := hw2
  obtain ⟨hP2, hD2⟩ := gJoin (wr := []) (w1 := []) hP1 hD1 [] [] rfl rfl (by decide) (by decide) hk2 hFc2 ht2 hB2
  have hP2 : va_P D cls [] H2 := hP2
  have hD2 : va_D A [] := hD2
  refine W.widen (k := 0) (n := 0) (Nat.le_of_ble_eq_true rfl) (Nat.le_of_ble_eq_true rfl) ?_
  subst hr2
  have hP9 := hP2.sub (ws' := []) [] rfl
  have hD9 := hD2.sub (ws' := []) [] (by decide) rfl
  refine W.widen (k := 0) (n := 0) (Nat.le_of_ble_eq_true rfl) (Nat.le_of_ble_eq_true rfl) ?_
  exact W.zret (v := 112) hx hb hr rfl (fun t ht hW => ⟨⟨112, (), rfl, rfl, by rw [ht]; exact hP9, va_K.moved hW.alike hK, hD9⟩, hS2.F ht⟩) hS2.2.2 d_21_56_15
abbrev Q_Preconditions_checkIndex_38 (D : va_G) (ca : Nat → ClassId)  (A : Nat → Prop) : Array Value → State → Outcome → State → Prop := va_Qi (S := Unit) (fun (r : Int32) (u : Unit) => r = 1) (fun u => gB D ca A []) A
set_option maxHeartbeats 8000000 in
set_option maxRecDepth 100000 in
theorem c_Preconditions_checkIndex_38 (l : Launch) (D : va_G) (ca : Nat → ClassId) (ad av : Nat → Nat) (sz : Nat)   : Met l ({ cls := "jdk/internal/util/Preconditions", name := "checkIndex", desc := "(IILjava/util/function/BiFunction;)I" } : Jvm.MethodName) (Cond.code ({ cls := "jdk/internal/util/Preconditions", name := "checkIndex", desc := "(IILjava/util/function/BiFunction;)I" } : Jvm.MethodName) prog_24_method_11_code 3 (Option.some Jvm.ClassFile.FieldType.int) :: wAll) ({ frames := 0, cells := 0, slots := 0, locals := 0 } : Room) (va_Pc [.int 1, .int 2, .null] (gPre D ca ad av [] sz)) (Q_Preconditions_checkIndex_38 D ca  (va_A [] sz)) 0 0 (va_A [] sz) := by
  refine gMet (Qc := Q_Preconditions_checkIndex_38 D ca ) (lv := [(0, .int 1), (1, .int 2), (2, .null)]) (by decide) (Nat.le_of_ble_eq_true rfl) rfl (fun A p e s m below meth c ls hx hb hr hml hown hts hlk hnm hl hP hK hD hS hA hX => ?_)
  have hown : s.vm.findClass "jdk/internal/util/Preconditions" = some m.cls := hown
  have hnm : meth.name = "checkIndex" := hnm
  refine lv_iload_n hx hb d_24_11_0 rfl (lv_at hl 0 rfl) ?_
  refine lv_if_lt (tgt := 9) hx hb d_24_11_1 (by decide) (fun c => absurd c (by decide)) (fun _ => ?_)
  refine lv_iload_n hx hb d_24_11_4 rfl (lv_at hl 0 rfl) ?_
  refine lv_iload_n hx hb d_24_11_5 rfl (lv_at hl 1 rfl) ?_
  refine lv_icmp_lt (tgt := 16) hx hb d_24_11_6 (by decide) (fun _ => ?_) (fun c => absurd (by decide) c)
  refine lv_iload_n hx hb d_24_11_16 rfl (lv_at hl 0 rfl) ?_
  have hP9 := hP.sub (ws' := []) [] rfl
  have hD9 := hD.sub (ws' := []) [] (by decide) rfl
  refine W.widen (k := 0) (n := 0) (Nat.le_of_ble_eq_true rfl) (Nat.le_of_ble_eq_true rfl) ?_
  exact W.iret (v := 1) hx hb hr (fun t ht hW => ⟨⟨1, (), rfl, rfl, by rw [ht]; exact hP9, va_K.moved hW.alike hK, hD9⟩, hS.F ht⟩) hS.2.2 d_24_11_17
abbrev Q_Preconditions_checkIndex_39 (D : va_G) (ca : Nat → ClassId) (r0 : Nat) (A : Nat → Prop) : Array Value → State → Outcome → State → Prop := va_Qi (S := Unit) (fun (r : Int32) (u : Unit) => r = 1) (fun u => gB D ca A []) A
set_option maxHeartbeats 8000000 in
set_option maxRecDepth 100000 in
theorem c_Preconditions_checkIndex_39 (l : Launch) (D : va_G) (ca : Nat → ClassId) (ad av : Nat → Nat) (sz : Nat) (r0 : Nat)  : Met l ({ cls := "jdk/internal/util/Preconditions", name := "checkIndex", desc := "(IILjava/util/function/BiFunction;)I" } : Jvm.MethodName) (Cond.code ({ cls := "jdk/internal/util/Preconditions", name := "checkIndex", desc := "(IILjava/util/function/BiFunction;)I" } : Jvm.MethodName) prog_24_method_11_code 3 (Option.some Jvm.ClassFile.FieldType.int) :: wAll) ({ frames := 0, cells := 0, slots := 0, locals := 0 } : Room) (va_Pc [.int 1, .int 2, .ref r0] (gPre D ca ad av [] sz)) (Q_Preconditions_checkIndex_39 D ca r0 (va_A [] sz)) 0 0 (va_A [] sz) := by
  refine gMet (Qc := Q_Preconditions_checkIndex_39 D ca r0) (lv := [(0, .int 1), (1, .int 2), (2, .ref r0)]) (by decide) (Nat.le_of_ble_eq_true rfl) rfl (fun A p e s m below meth c ls hx hb hr hml hown hts hlk hnm hl hP hK hD hS hA hX => ?_)
  have hown : s.vm.findClass "jdk/internal/util/Preconditions" = some m.cls := hown
  have hnm : meth.name = "checkIndex" := hnm
  refine lv_iload_n hx hb d_24_11_0 rfl (lv_at hl 0 rfl) ?_
  refine lv_if_lt (tgt := 9) hx hb d_24_11_1 (by decide) (fun c => absurd c (by decide)) (fun _ => ?_)
  refine lv_iload_n hx hb d_24_11_4 rfl (lv_at hl 0 rfl) ?_
  refine lv_iload_n hx hb d_24_11_5 rfl (lv_at hl 1 rfl) ?_
  refine lv_icmp_lt (tgt := 16) hx hb d_24_11_6 (by decide) (fun _ => ?_) (fun c => absurd (by decide) c)
  refine lv_iload_n hx hb d_24_11_16 rfl (lv_at hl 0 rfl) ?_
  have hP9 := hP.sub (ws' := []) [] rfl
  have hD9 := hD.sub (ws' := []) [] (by decide) rfl
  refine W.widen (k := 0) (n := 0) (Nat.le_of_ble_eq_true rfl) (Nat.le_of_ble_eq_true rfl) ?_
  exact W.iret (v := 1) hx hb hr (fun t ht hW => ⟨⟨1, (), rfl, rfl, by rw [ht]; exact hP9, va_K.moved hW.alike hK, hD9⟩, hS.F ht⟩) hS.2.2 d_24_11_17
abbrev Q_String_checkIndex_19 (D : va_G) (ca : Nat → ClassId)  (A : Nat → Prop) : Array Value → State → Outcome → State → Prop := va_Qv (S := Unit) (fun (u : Unit) => True) (fun u => gB D ca A []) A
set_option maxHeartbeats 8000000 in
set_option maxRecDepth 100000 in
theorem c_String_checkIndex_19 (l : Launch) (D : va_G) (ca : Nat → ClassId) (ad av : Nat → Nat) (sz : Nat)   : Met l ({ cls := "java/lang/String", name := "checkIndex", desc := "(II)V" } : Jvm.MethodName) (Cond.code ({ cls := "java/lang/String", name := "checkIndex", desc := "(II)V" } : Jvm.MethodName) prog_21_method_155_code 2 (Option.none : Option Jvm.ClassFile.FieldType) :: wAll) ({ frames := 1, cells := 0, slots := 0, locals := 22 } : Room) (va_Pc [.int 1, .int 2] (gPre D ca ad av [] sz)) (Q_String_checkIndex_19 D ca  (va_A [] sz)) 0 0 (va_A [] sz) := by
  refine gMet (Qc := Q_String_checkIndex_19 D ca ) (lv := [(0, .int 1), (1, .int 2)]) (by decide) (Nat.le_of_ble_eq_true rfl) rfl (fun A p e s m below meth c ls hx hb hr hml hown hts hlk hnm hl hP hK hD hS hA hX => ?_)
  have hown : s.vm.findClass "java/lang/String" = some m.cls := hown
  have hnm : meth.name = "checkIndex" := hnm
  refine lv_iload_n hx hb d_21_155_0 rfl (lv_at hl 0 rfl) ?_
  refine lv_iload_n hx hb d_21_155_1 rfl (lv_at hl 1 rfl) ?_
  rcases hX.2.2.2.2.2 with hz1 | ⟨tz1, hz1⟩
  · refine va_gets hx hb hz1 hS hown (hts _ k_3_120) (fun _ h => h) d_21_155_2 ?_
    have hFc2 := va_free (wc := []) hD hS hA [] rfl
    refine va_calli (va_runS (As := [.int 1, .int 2, .null]) (rest := []) ⟨hx, hb, hml, hown, hts⟩ (c_Preconditions_checkIndex_38 l D ca ad av s.heap.size  ) (va_cwS 3 hts (gdS k_7_143 k_7_144 k_1_13 k_7_145) rfl rfl rfl (by decide +kernel) ⟨Nat.le_of_ble_eq_true rfl, Nat.le_of_ble_eq_true rfl⟩) (gPS hP hD hK hS hA hX [] (by decide) rfl [.int 1, .int 2, .null]) rfl rfl hl.1 rfl (lv_room (Nat.le_of_ble_eq_true rfl)) d_21_155_5 ⟨Nat.le_of_ble_eq_true rfl, Nat.le_of_ble_eq_true rfl⟩) hS (fun q _ h => hFc2 q h) hFc2 (fun r2 u2 t2 H2 locs2 ht2 hvm2 hw2 hB2 hz2 hk2 hS2 => ?_)
    have hr2 := hw2
    obtain ⟨hP2, hD2⟩ := gJoin (wr := []) (w1 := []) hP hD [] [] rfl rfl (by decide) (by decide) hk2 hFc2 ht2 hB2
    have hP2 : va_P D cls [] H2 := hP2
    have hD2 : va_D A [] := hD2
    refine W.widen (k := 0) (n := 0) (Nat.le_of_ble_eq_true rfl) (Nat.le_of_ble_eq_true rfl) ?_
    subst hr2
    refine lv_pop hx hb d_21_155_8 rfl ?_
    have hP9 := hP2.sub (ws' := []) [] rfl
    have hD9 := hD2.sub (ws' := []) [] (by decide) rfl
    refine W.widen (k := 0) (n := 0) (Nat.le_of_ble_eq_true rfl) (Nat.le_of_ble_eq_true rfl) ?_
    exact W.vret hx hb hr (fun t ht hW => ⟨⟨(), rfl, trivial, by rw [ht]; exact hP9, va_K.moved hW.alike hK, hD9⟩, hS2.F ht⟩) hS2.2.2 d_21_155_9
  · refine va_gets hx hb hz1 hS hown (hts _ k_3_120) (fun _ h => h) d_21_155_2 ?_
    have hFc3 := va_free (wc := []) hD hS hA [] rfl
    refine va_calli (va_runS (As := [.int 1, .int 2, .ref tz1]) (rest := []) ⟨hx, hb, hml, hown, hts⟩ (c_Preconditions_checkIndex_39 l D ca ad av s.heap.size tz1 ) (va_cwS 3 hts (gdS k_7_143 k_7_144 k_1_13 k_7_145) rfl rfl rfl (by decide +kernel) ⟨Nat.le_of_ble_eq_true rfl, Nat.le_of_ble_eq_true rfl⟩) (gPS hP hD hK hS hA hX [] (by decide) rfl [.int 1, .int 2, .ref tz1]) rfl rfl hl.1 rfl (lv_room (Nat.le_of_ble_eq_true rfl)) d_21_155_5 ⟨Nat.le_of_ble_eq_true rfl, Nat.le_of_ble_eq_true rfl⟩) hS (fun q _ h => hFc3 q h) hFc3 (fun r3 u3 t3 H3 locs3 ht3 hvm3 hw3 hB3 hz3 hk3 hS3 => ?_)
    have hr3 := hw3
    obtain ⟨hP3, hD3⟩ := gJoin (wr := []) (w1 := []) hP hD [] [] rfl rfl (by decide) (by decide) hk3 hFc3 ht3 hB3
    have hP3 : va_P D cls [] H3 := hP3
    have hD3 : va_D A [] := hD3
    refine W.widen (k := 0) (n := 0) (Nat.le_of_ble_eq_true rfl) (Nat.le_of_ble_eq_true rfl) ?_
    subst hr3
    refine lv_pop hx hb d_21_155_8 rfl ?_
    have hP9 := hP3.sub (ws' := []) [] rfl
    have hD9 := hD3.sub (ws' := []) [] (by decide) rfl
    refine W.widen (k := 0) (n := 0) (Nat.le_of_ble_eq_true rfl) (Nat.le_of_ble_eq_true rfl) ?_
    exact W.vret hx hb hr (fun t ht hW => ⟨⟨(), rfl, trivial, by rw [ht]; exact hP9, va_K.moved hW.alike hK, hD9⟩, hS3.F ht⟩) hS3.2.2 d_21_155_9
abbrev Q_StringLatin1_charAt_23 (D : va_G) (ca : Nat → ClassId)  (A : Nat → Prop) : Array Value → State → Outcome → State → Prop := va_Qi (S := Unit) (fun (r : Int32) (u : Unit) => r = 112) (fun u => gB D ca A []) A
set_option maxHeartbeats 8000000 in
set_option maxRecDepth 100000 in
theorem c_StringLatin1_charAt_23 (l : Launch) (D : va_G) (ca : Nat → ClassId) (ad av : Nat → Nat) (sz : Nat)   : Met l ({ cls := "java/lang/StringLatin1", name := "charAt", desc := "([BI)C" } : Jvm.MethodName) (Cond.code ({ cls := "java/lang/StringLatin1", name := "charAt", desc := "([BI)C" } : Jvm.MethodName) prog_22_method_2_code 2 (Option.some Jvm.ClassFile.FieldType.char) :: wAll) ({ frames := 2, cells := 0, slots := 0, locals := 43 } : Room) (va_Pc [.ref (av 6), .int 1] (gPre D ca ad av [] sz)) (Q_StringLatin1_charAt_23 D ca  (va_A [] sz)) 0 0 (va_A [] sz) := by
  refine gMet (Qc := Q_StringLatin1_charAt_23 D ca ) (lv := [(0, .ref (av 6)), (1, .int 1)]) (by decide) (Nat.le_of_ble_eq_true rfl) rfl (fun A p e s m below meth c ls hx hb hr hml hown hts hlk hnm hl hP hK hD hS hA hX => ?_)
  have hown : s.vm.findClass "java/lang/StringLatin1" = some m.cls := hown
  have hnm : meth.name = "charAt" := hnm
  refine lv_iload_n hx hb d_22_2_0 rfl (lv_at hl 1 rfl) ?_
  refine lv_aload_n hx hb d_22_2_1 rfl (lv_at hl 0 rfl) ?_
  refine va_tlen (v := 2) hx hb ((hX.2.2.2.2.1 6 _ rfl).2.1 0 (by decide)).2.2.2 hS (by decide) d_22_2_2 ?_
  have hFc1 := va_free (wc := []) hD hS hA [] rfl
  refine va_callv (va_runS (As := [.int 1, .int 2]) (rest := []) ⟨hx, hb, hml, hown, hts⟩ (c_String_checkIndex_19 l D ca ad av s.heap.size  ) (va_cwS 2 hts (gdS k_7_140 k_7_141 k_1_11 k_7_142) rfl rfl rfl (by decide +kernel) ⟨Nat.le_of_ble_eq_true rfl, Nat.le_of_ble_eq_true rfl⟩) (gPS hP hD hK hS hA hX [] (by decide) rfl [.int 1, .int 2]) rfl rfl hl.1 rfl (lv_room (Nat.le_of_ble_eq_true rfl)) d_22_2_3 ⟨Nat.le_of_ble_eq_true rfl, Nat.le_of_ble_eq_true rfl⟩) hS (fun q _ h => hFc1 q h) hFc1 (fun u1 t1 H1 locs1 ht1 hvm1 hw1 hB1 hz1 hk1 hS1 => ?_)
  obtain ⟨hP1, hD1⟩ := gJoin (wr := []) (w1 := []) hP hD [] [] rfl rfl (by decide) (by decide) hk1 hFc1 ht1 hB1
  have hP1 : va_P D cls [] H1 := hP1
  have hD1 : va_D A [] := hD1
  refine W.widen (k := 0) (n := 0) (Nat.le_of_ble_eq_true rfl) (Nat.le_of_ble_eq_true rfl) ?_
  refine lv_aload_n hx hb d_22_2_6 rfl (lv_at hl 0 rfl) ?_
  refine lv_iload_n hx hb d_22_2_7 rfl (lv_at hl 1 rfl) ?_
  refine va_tb (v := .int 112) hx hb ((hX.2.2.2.2.1 6 _ rfl).2.1 0 (by decide)).2.2.2 hS1 (vinC (by decide)) rfl d_22_2_8 ?_
  refine lv_sipush (v := 255) hx hb d_22_2_9 (by decide) ?_
  refine lv_iand hx hb d_22_2_12 ?_
  refine lv_topi (fun y2 ey2 => ?_)
  obtain rfl : y2 = 112 := ey2.trans (by decide)
  refine lv_i2c hx hb d_22_2_13 rfl ?_
  refine lv_topi (fun y3 ey3 => ?_)
  obtain rfl : y3 = 112 := ey3.trans (by decide)
  have hP9 := hP1.sub (ws' := []) [] rfl
  have hD9 := hD1.sub (ws' := []) [] (by decide) rfl
  refine W.widen (k := 0) (n := 0) (Nat.le_of_ble_eq_true rfl) (Nat.le_of_ble_eq_true rfl) ?_
  exact W.zret (v := 112) hx hb hr rfl (fun t ht hW => ⟨⟨112, (), rfl, rfl, by rw [ht]; exact hP9, va_K.moved hW.alike hK, hD9⟩, hS1.F ht⟩) hS1.2.2 d_22_2_14
abbrev Q_String_charAt_23 (D : va_G) (ca : Nat → ClassId)  (A : Nat → Prop) : Array Value → State → Outcome → State → Prop := va_Qi (S := Unit) (fun (r : Int32) (u : Unit) => r = 112) (fun u => gB D ca A []) A
set_option maxHeartbeats 8000000 in
set_option maxRecDepth 100000 in
theorem c_String_charAt_23 (l : Launch) (D : va_G) (ca : Nat → ClassId) (ad av : Nat → Nat) (sz : Nat)   : Met l ({ cls := "java/lang/String", name := "charAt", desc := "(I)C" } : Jvm.MethodName) (Cond.code ({ cls := "java/lang/String", name := "charAt", desc := "(I)C" } : Jvm.MethodName) prog_21_method_56_code 2 (Option.some Jvm.ClassFile.FieldType.char) :: wAll) ({ frames := 3, cells := 0, slots := 0, locals := 64 } : Room) (va_Pc [.ref (ad 6), .int 1] (gPre D ca ad av [] sz)) (Q_String_charAt_23 D ca  (va_A [] sz)) 0 0 (va_A [] sz) := by
  refine gMet (Qc := Q_String_charAt_23 D ca ) (lv := [(0, .ref (ad 6)), (1, .int 1)]) (by decide) (Nat.le_of_ble_eq_true rfl) rfl (fun A p e s m below meth c ls hx hb hr hml hown hts hlk hnm hl hP hK hD hS hA hX => ?_)
  have hown : s.vm.findClass "java/lang/String" = some m.cls := hown
  have hnm : meth.name = "charAt" := hnm
  refine lv_aload_n hx hb d_21_56_0 rfl (lv_at hl 0 rfl) ?_
  have hFc1 := va_free (wc := []) hD hS hA [] rfl
  refine va_calli (va_runV (As := []) (rest := []) ⟨hx, hb, hml, hown, hts⟩ (c_String_isLatin1_5 l D ca ad av s.heap.size  ) (cwV 0 hts (gdV k_3_75 k_3_76 k_3_77 k_1_11 k_3_78) rfl rfl rfl (by decide +kernel) ⟨Nat.le_of_ble_eq_true rfl, Nat.le_of_ble_eq_true rfl⟩) ⟨gBlind, vk_recv (i := 0) (hX.2.2.2.2.1 6 _ rfl).2 (by decide) hS, gAt hP hD hK hS hA hX [] (by decide) rfl [.ref (ad 6)]⟩ rfl rfl hl.1 rfl (lv_room (Nat.le_of_ble_eq_true rfl)) d_21_56_1 ⟨Nat.le_of_ble_eq_true rfl, Nat.le_of_ble_eq_true rfl⟩) hS (fun q _ h => hFc1 q h) hFc1 (fun r1 u1 t1 H1 locs1 ht1 hvm1 hw1 hB1 hz1 hk1 hS1 => ?_)
  have hr1 := hw1
  obtain ⟨hP1, hD1⟩ := gJoin (wr := []) (w1 := []) hP hD [] [] rfl rfl (by decide) (by decide) hk1 hFc1 ht1 hB1
  have hP1 : va_P D cls [] H1 := hP1
  have hD1 : va_D A [] := hD1
  refine W.widen (k := 0) (n := 0) (Nat.le_of_ble_eq_true rfl) (Nat.le_of_ble_eq_true rfl) ?_
  subst hr1
  refine lv_if_eq (tgt := 16) hx hb d_21_56_4 (by decide) (fun c => absurd c (by decide)) (fun _ => ?_)
  refine lv_aload_n hx hb d_21_56_7 rfl (lv_at hl 0 rfl) ?_
  refine vk_getf hx hb ((hX.2.2.2.2.1 6 _ rfl).2.1 0 (by decide)).2.2.1 hS1 hown (hts _ k_15_170) (fun _ h => h) d_21_56_8 ?_
  refine W.eq (g2 := F0 m 11 ls [.ref (av 6)]) rfl ?_
  refine lv_iload_n hx hb d_21_56_11 rfl (lv_at hl 1 rfl) ?_
  have hFc2 := va_free (wc := []) hD1 hS1 hA [] rfl
  refine va_calli (va_runS (As := [.ref (av 6), .int 1]) (rest := []) ⟨hx, hb, hml, hown, hts⟩ (c_StringLatin1_charAt_23 l D ca ad av H1.size  ) (va_cwS 2 hts (gdS k_7_137 k_7_138 k_1_12 k_7_139) rfl rfl rfl (by decide +kernel) ⟨Nat.le_of_ble_eq_true rfl, Nat.le_of_ble_eq_true rfl⟩) (gPS hP1 hD1 hK hS1 hA hX [] (by decide) rfl [.ref (av 6), .int 1]) rfl rfl hl.1 rfl (lv_room (Nat.le_of_ble_eq_true rfl)) d_21_56_12 ⟨Nat.le_of_ble_eq_true rfl, Nat.le_of_ble_eq_true rfl⟩) hS1 (fun q _ h => hFc2 q h) hFc2 (fun r2 u2 t2 H2 locs2 ht2 hvm2 hw2 hB2 hz2 hk2 hS2 => ?_)
  have hr2 := hw2
  obtain ⟨hP2, hD2⟩ := gJoin (wr := []) (w1 := []) hP1 hD1 [] [] rfl rfl (by decide) (by decide) hk2 hFc2 ht2 hB2
  have hP2 : va_P D cls [] H2 := hP2
  have hD2 : va_D A [] := hD2
  refine W.widen (k := 0) (n := 0) (Nat.le_of_ble_eq_true rfl) (Nat.le_of_ble_eq_true rfl) ?_
  subst hr2
  have hP9 := hP2.sub (ws' := []) [] rfl
  have hD9 := hD2.sub (ws' := []) [] (by decide) rfl
  refine W.widen (k := 0) (n := 0) (Nat.le_of_ble_eq_true rfl) (Nat.le_of_ble_eq_true rfl) ?_
  exact W.zret (v := 112) hx hb hr rfl (fun t ht hW => ⟨⟨112, (), rfl, rfl, by rw [ht]; exact hP9, va_K.moved hW.alike hK, hD9⟩, hS2.F ht⟩) hS2.2.2 d_21_56_15
abbrev Q_M_code_5 (D : va_G) (ca : Nat → ClassId)  (A : Nat → Prop) : Array Value → State → Outcome → State → Prop := va_Ql (S := Unit) (fun (r : Int64) (u : Unit) => r = 28784) (fun u => gB D ca A []) A
set_option maxHeartbeats 8000000 in
set_option maxRecDepth 100000 in
theorem c_M_code_5 (l : Launch) (D : va_G) (ca : Nat → ClassId) (ad av : Nat → Nat) (sz : Nat)   : Met l ({ cls := "StaveHouseModel", name := "code", desc := "(Ljava/lang/String;)J" } : Jvm.MethodName) (Cond.code ({ cls := "StaveHouseModel", name := "code", desc := "(Ljava/lang/String;)J" } : Jvm.MethodName) prog_15_method_24_code 4 (Option.some Jvm.ClassFile.FieldType.long) :: wAll) ({ frames := 4, cells := 0, slots := 0, locals := 85 } : Room) (va_Pc [.ref (ad 6)] (gPre D ca ad av [] sz)) (Q_M_code_5 D ca  (va_A [] sz)) 0 0 (va_A [] sz) := by
  refine gMet (Qc := Q_M_code_5 D ca ) (lv := [(0, .ref (ad 6))]) (by decide) (Nat.le_of_ble_eq_true rfl) rfl (fun A p e s m below meth c ls hx hb hr hml hown hts hlk hnm hl hP hK hD hS hA hX => ?_)
  have hown : s.vm.findClass "StaveHouseModel" = some m.cls := hown
  have hnm : meth.name = "code" := hnm
  refine lv_lconst (v := 0) hx hb d_15_24_0 (by decide) ?_
  refine lv_lstore_n (lv' := [(1, .long 0), (0, .ref (ad 6))]) hx hb d_15_24_1 rfl hl (by decide) rfl (fun ls hl => ?_)
  refine lv_iconst (v := 0) hx hb d_15_24_2 (by decide) ?_
  refine lv_istore_n (lv' := [(3, .int 0), (1, .long 0), (0, .ref (ad 6))]) hx hb d_15_24_3 rfl hl (by decide) rfl (fun ls hl => ?_)
  refine lv_iload_n hx hb d_15_24_4 rfl (lv_at hl 0 rfl) ?_
  refine lv_aload_n hx hb d_15_24_5 rfl (lv_at hl 2 rfl) ?_
  have hFc1 := va_free (wc := []) hD hS hA [] rfl
  refine va_calli (va_runV (As := []) (rest := [.int 0]) ⟨hx, hb, hml, hown, hts⟩ (c_String_length_5 l D ca ad av s.heap.size  ) (cwV 0 hts (gdV k_10_194 k_3_82 k_3_83 k_1_11 k_3_84) rfl rfl rfl (by decide +kernel) ⟨Nat.le_of_ble_eq_true rfl, Nat.le_of_ble_eq_true rfl⟩) ⟨gBlind, vk_recv (i := 0) (hX.2.2.2.2.1 6 _ rfl).2 (by decide) hS, gAt hP hD hK hS hA hX [] (by decide) rfl [.ref (ad 6)]⟩ rfl rfl hl.1 rfl (lv_room (Nat.le_of_ble_eq_true rfl)) d_15_24_6 ⟨Nat.le_of_ble_eq_true rfl, Nat.le_of_ble_eq_true rfl⟩) hS (fun q _ h => hFc1 q h) hFc1 (fun r1 u1 t1 H1 locs1 ht1 hvm1 hw1 hB1 hz1 hk1 hS1 => ?_)
  have hr1 := hw1
  obtain ⟨hP1, hD1⟩ := gJoin (wr := []) (w1 := []) hP hD [] [] rfl rfl (by decide) (by decide) hk1 hFc1 ht1 hB1
  have hP1 : va_P D cls [] H1 := hP1
  have hD1 : va_D A [] := hD1
  refine W.widen (k := 0) (n := 0) (Nat.le_of_ble_eq_true rfl) (Nat.le_of_ble_eq_true rfl) ?_
  subst hr1
  refine lv_icmp_ge (tgt := 30) hx hb d_15_24_9 (by decide) (fun c => absurd c (by decide)) (fun _ => ?_)
  refine lv_lload_n hx hb d_15_24_12 rfl (lv_at hl 1 rfl) ?_
  refine lv_bipush (v := 8) hx hb d_15_24_13 (by decide) ?_
  refine lv_lshl hx hb d_15_24_15 rfl ?_
  refine lv_topl (fun y2 ey2 => ?_)
  obtain rfl : y2 = 0 := ey2.trans (by decide)
  refine lv_aload_n hx hb d_15_24_16 rfl (lv_at hl 2 rfl) ?_
  refine lv_iload_n hx hb d_15_24_17 rfl (lv_at hl 0 rfl) ?_
  have hFc3 := va_free (wc := []) hD1 hS1 hA [] rfl
  refine va_calli (va_runV (As := [.int 0]) (rest := [.long 0]) ⟨hx, hb, hml, hown, hts⟩ (c_String_charAt_22 l D ca ad av H1.size  ) (cwV 1 hts (gdV k_10_195 k_7_134 k_7_135 k_1_11 k_7_136) rfl rfl rfl (by decide +kernel) ⟨Nat.le_of_ble_eq_true rfl, Nat.le_of_ble_eq_true rfl⟩) ⟨gBlind, vk_recv (i := 0) (hX.2.2.2.2.1 6 _ rfl).2 (by decide) hS1, gAt hP1 hD1 hK hS1 hA hX [] (by decide) rfl [.ref (ad 6), .int 0]⟩ rfl rfl hl.1 rfl (lv_room (Nat.le_of_ble_eq_true rfl)) d_15_24_18 ⟨Nat.le_of_ble_eq_true rfl, Nat.le_of_ble_eq_true rfl⟩) hS1 (fun q _ h => hFc3 q h) hFc3 (fun r3 u3 t3 H3 locs3 ht3 hvm3 hw3 hB3 hz3 hk3 hS3 => ?_)
  have hr3 := hw3
  obtain ⟨hP3, hD3⟩ := gJoin (wr := []) (w1 := []) hP1 hD1 [] [] rfl rfl (by decide) (by decide) hk3 hFc3 ht3 hB3
  have hP3 : va_P D cls [] H3 := hP3
  have hD3 : va_D A [] := hD3
  refine W.widen (k := 0) (n := 0) (Nat.le_of_ble_eq_true rfl) (Nat.le_of_ble_eq_true rfl) ?_
  subst hr3
  refine lv_i2l hx hb d_15_24_21 rfl ?_
  refine lv_topl (fun y4 ey4 => ?_)
  obtain rfl : y4 = 112 := ey4.trans (by decide)
  refine lv_lor hx hb d_15_24_22 ?_
  refine lv_topl (fun y5 ey5 => ?_)
  obtain rfl : y5 = 112 := ey5.trans (by decide)
  refine lv_lstore_n (lv' := [(1, .long 112), (3, .int 0), (0, .ref (ad 6))]) hx hb d_15_24_23 rfl hl (by decide) rfl (fun ls hl => ?_)
  refine lv_iinc (v := 1) (lv' := [(3, .int 1), (1, .long 112), (0, .ref (ad 6))]) hx hb d_15_24_24 hl (k := 1) rfl (by decide) (by decide) rfl (fun ls hl => ?_)
  refine lv_goto (tgt := 4) hx hb d_15_24_27 (by decide) ?_
  refine lv_iload_n hx hb d_15_24_4 rfl (lv_at hl 0 rfl) ?_
  refine lv_aload_n hx hb d_15_24_5 rfl (lv_at hl 2 rfl) ?_
  have hFc6 := va_free (wc := []) hD3 hS3 hA [] rfl
  refine va_calli (va_runV (As := []) (rest := [.int 1]) ⟨hx, hb, hml, hown, hts⟩ (c_String_length_5 l D ca ad av H3.size  ) (cwV 0 hts (gdV k_10_194 k_3_82 k_3_83 k_1_11 k_3_84) rfl rfl rfl (by decide +kernel) ⟨Nat.le_of_ble_eq_true rfl, Nat.le_of_ble_eq_true rfl⟩) ⟨gBlind, vk_recv (i := 0) (hX.2.2.2.2.1 6 _ rfl).2 (by decide) hS3, gAt hP3 hD3 hK hS3 hA hX [] (by decide) rfl [.ref (ad 6)]⟩ rfl rfl hl.1 rfl (lv_room (Nat.le_of_ble_eq_true rfl)) d_15_24_6 ⟨Nat.le_of_ble_eq_true rfl, Nat.le_of_ble_eq_true rfl⟩) hS3 (fun q _ h => hFc6 q h) hFc6 (fun r6 u6 t6 H6 locs6 ht6 hvm6 hw6 hB6 hz6 hk6 hS6 => ?_)
  have hr6 := hw6
  obtain ⟨hP6, hD6⟩ := gJoin (wr := []) (w1 := []) hP3 hD3 [] [] rfl rfl (by decide) (by decide) hk6 hFc6 ht6 hB6
  have hP6 : va_P D cls [] H6 := hP6
  have hD6 : va_D A [] := hD6
  refine W.widen (k := 0) (n := 0) (Nat.le_of_ble_eq_true rfl) (Nat.le_of_ble_eq_true rfl) ?_
  subst hr6
  refine lv_icmp_ge (tgt := 30) hx hb d_15_24_9 (by decide) (fun c => absurd c (by decide)) (fun _ => ?_)
  refine lv_lload_n hx hb d_15_24_12 rfl (lv_at hl 1 rfl) ?_
  refine lv_bipush (v := 8) hx hb d_15_24_13 (by decide) ?_
  refine lv_lshl hx hb d_15_24_15 rfl ?_
  refine lv_topl (fun y7 ey7 => ?_)
  obtain rfl : y7 = 28672 := ey7.trans (by decide)
  refine lv_aload_n hx hb d_15_24_16 rfl (lv_at hl 2 rfl) ?_
  refine lv_iload_n hx hb d_15_24_17 rfl (lv_at hl 0 rfl) ?_
  have hFc8 := va_free (wc := []) hD6 hS6 hA [] rfl
  refine va_calli (va_runV (As := [.int 1]) (rest := [.long 28672]) ⟨hx, hb, hml, hown, hts⟩ (c_String_charAt_23 l D ca ad av H6.size  ) (cwV 1 hts (gdV k_10_195 k_7_134 k_7_135 k_1_11 k_7_136) rfl rfl rfl (by decide +kernel) ⟨Nat.le_of_ble_eq_true rfl, Nat.le_of_ble_eq_true rfl⟩) ⟨gBlind, vk_recv (i := 0) (hX.2.2.2.2.1 6 _ rfl).2 (by decide) hS6, gAt hP6 hD6 hK hS6 hA hX [] (by decide) rfl [.ref (ad 6), .int 1]⟩ rfl rfl hl.1 rfl (lv_room (Nat.le_of_ble_eq_true rfl)) d_15_24_18 ⟨Nat.le_of_ble_eq_true rfl, Nat.le_of_ble_eq_true rfl⟩) hS6 (fun q _ h => hFc8 q h) hFc8 (fun r8 u8 t8 H8 locs8 ht8 hvm8 hw8 hB8 hz8 hk8 hS8 => ?_)
  have hr8 := hw8
  obtain ⟨hP8, hD8⟩ := gJoin (wr := []) (w1 := []) hP6 hD6 [] [] rfl rfl (by decide) (by decide) hk8 hFc8 ht8 hB8
  have hP8 : va_P D cls [] H8 := hP8
  have hD8 : va_D A [] := hD8
  refine W.widen (k := 0) (n := 0) (Nat.le_of_ble_eq_true rfl) (Nat.le_of_ble_eq_true rfl) ?_
  subst hr8
  refine lv_i2l hx hb d_15_24_21 rfl ?_
  refine lv_topl (fun y9 ey9 => ?_)
  obtain rfl : y9 = 112 := ey9.trans (by decide)
  refine lv_lor hx hb d_15_24_22 ?_
  refine lv_topl (fun y10 ey10 => ?_)
  obtain rfl : y10 = 28784 := ey10.trans (by decide)
  refine lv_lstore_n (lv' := [(1, .long 28784), (3, .int 1), (0, .ref (ad 6))]) hx hb d_15_24_23 rfl hl (by decide) rfl (fun ls hl => ?_)
  refine lv_iinc (v := 2) (lv' := [(3, .int 2), (1, .long 28784), (0, .ref (ad 6))]) hx hb d_15_24_24 hl (k := 1) rfl (by decide) (by decide) rfl (fun ls hl => ?_)
  refine lv_goto (tgt := 4) hx hb d_15_24_27 (by decide) ?_
  refine lv_iload_n hx hb d_15_24_4 rfl (lv_at hl 0 rfl) ?_
  refine lv_aload_n hx hb d_15_24_5 rfl (lv_at hl 2 rfl) ?_
  have hFc11 := va_free (wc := []) hD8 hS8 hA [] rfl
  refine va_calli (va_runV (As := []) (rest := [.int 2]) ⟨hx, hb, hml, hown, hts⟩ (c_String_length_5 l D ca ad av H8.size  ) (cwV 0 hts (gdV k_10_194 k_3_82 k_3_83 k_1_11 k_3_84) rfl rfl rfl (by decide +kernel) ⟨Nat.le_of_ble_eq_true rfl, Nat.le_of_ble_eq_true rfl⟩) ⟨gBlind, vk_recv (i := 0) (hX.2.2.2.2.1 6 _ rfl).2 (by decide) hS8, gAt hP8 hD8 hK hS8 hA hX [] (by decide) rfl [.ref (ad 6)]⟩ rfl rfl hl.1 rfl (lv_room (Nat.le_of_ble_eq_true rfl)) d_15_24_6 ⟨Nat.le_of_ble_eq_true rfl, Nat.le_of_ble_eq_true rfl⟩) hS8 (fun q _ h => hFc11 q h) hFc11 (fun r11 u11 t11 H11 locs11 ht11 hvm11 hw11 hB11 hz11 hk11 hS11 => ?_)
  have hr11 := hw11
  obtain ⟨hP11, hD11⟩ := gJoin (wr := []) (w1 := []) hP8 hD8 [] [] rfl rfl (by decide) (by decide) hk11 hFc11 ht11 hB11
  have hP11 : va_P D cls [] H11 := hP11
  have hD11 : va_D A [] := hD11
  refine W.widen (k := 0) (n := 0) (Nat.le_of_ble_eq_true rfl) (Nat.le_of_ble_eq_true rfl) ?_
  subst hr11
  refine lv_icmp_ge (tgt := 30) hx hb d_15_24_9 (by decide) (fun _ => ?_) (fun c => absurd (by decide) c)
  refine lv_lload_n hx hb d_15_24_30 rfl (lv_at hl 1 rfl) ?_
  have hP9 := hP11.sub (ws' := []) [] rfl
  have hD9 := hD11.sub (ws' := []) [] (by decide) rfl
  refine W.widen (k := 0) (n := 0) (Nat.le_of_ble_eq_true rfl) (Nat.le_of_ble_eq_true rfl) ?_
  exact W.lret (v := 28784) hx hb hr (fun t ht hW => ⟨⟨28784, (), rfl, rfl, by rw [ht]; exact hP9, va_K.moved hW.alike hK, hD9⟩, hS11.F ht⟩) hS11.2.2 d_15_24_31
abbrev Q_String_coder_6 (D : va_G) (ca : Nat → ClassId)  (A : Nat → Prop) : Array Value → State → Outcome → State → Prop := va_Qi (S := Unit) (fun (r : Int32) (u : Unit) => r = 0) (fun u => gB D ca A []) A
set_option maxHeartbeats 8000000 in
set_option maxRecDepth 100000 in
theorem c_String_coder_6 (l : Launch) (D : va_G) (ca : Nat → ClassId) (ad av : Nat → Nat) (sz : Nat)   : Met l ({ cls := "java/lang/String", name := "coder", desc := "()B" } : Jvm.MethodName) (Cond.code ({ cls := "java/lang/String", name := "coder", desc := "()B" } : Jvm.MethodName) prog_21_method_152_code 1 (Option.some Jvm.ClassFile.FieldType.byte) :: wAll) ({ frames := 0, cells := 0, slots := 0, locals := 0 } : Room) (va_Pc [.ref (ad 7)] (gPre D ca ad av [] sz)) (Q_String_coder_6 D ca  (va_A [] sz)) 0 0 (va_A [] sz) := by
  refine gMet (Qc := Q_String_coder_6 D ca ) (lv := [(0, .ref (ad 7))]) (by decide) (Nat.le_of_ble_eq_true rfl) rfl (fun A p e s m below meth c ls hx hb hr hml hown hts hlk hnm hl hP hK hD hS hA hX => ?_)
  have hown : s.vm.findClass "java/lang/String" = some m.cls := hown
  have hnm : meth.name = "coder" := hnm
  refine va_gets hx hb (hX.2.2.2.1 _ (List.mem_of_getElem? (i := 0) rfl)) hS hown (hts _ k_3_79) (fun _ h => h) d_21_152_0 ?_
  refine lv_if_eq (tgt := 13) hx hb d_21_152_3 (by decide) (fun c => absurd c (by decide)) (fun _ => ?_)
  refine lv_aload_n hx hb d_21_152_6 rfl (lv_at hl 0 rfl) ?_
  refine vk_getf hx hb ((hX.2.2.2.2.1 7 _ rfl).2.1 0 (by decide)).2.1 hS hown (hts _ k_15_171) (fun _ h => h) d_21_152_7 ?_
  refine W.eq (g2 := F0 m 10 ls [.int 0]) rfl ?_
  refine lv_goto (tgt := 14) hx hb d_21_152_10 (by decide) ?_
  have hP9 := hP.sub (ws' := []) [] rfl
  have hD9 := hD.sub (ws' := []) [] (by decide) rfl
  refine W.widen (k := 0) (n := 0) (Nat.le_of_ble_eq_true rfl) (Nat.le_of_ble_eq_true rfl) ?_
  exact W.zret (v := 0) hx hb hr rfl (fun t ht hW => ⟨⟨0, (), rfl, rfl, by rw [ht]; exact hP9, va_K.moved hW.alike hK, hD9⟩, hS.F ht⟩) hS.2.2 d_21_152_14
abbrev Q_String_length_6 (D : va_G) (ca : Nat → ClassId)  (A : Nat → Prop) : Array Value → State → Outcome → State → Prop := va_Qi (S := Unit) (fun (r : Int32) (u : Unit) => r = 1) (fun u => gB D ca A []) A
set_option maxHeartbeats 8000000 in
set_option maxRecDepth 100000 in
theorem c_String_length_6 (l : Launch) (D : va_G) (ca : Nat → ClassId) (ad av : Nat → Nat) (sz : Nat)   : Met l ({ cls := "java/lang/String", name := "length", desc := "()I" } : Jvm.MethodName) (Cond.code ({ cls := "java/lang/String", name := "length", desc := "()I" } : Jvm.MethodName) prog_21_method_54_code 1 (Option.some Jvm.ClassFile.FieldType.int) :: wAll) ({ frames := 1, cells := 0, slots := 0, locals := 20 } : Room) (va_Pc [.ref (ad 7)] (gPre D ca ad av [] sz)) (Q_String_length_6 D ca  (va_A [] sz)) 0 0 (va_A [] sz) := by
  refine gMet (Qc := Q_String_length_6 D ca ) (lv := [(0, .ref (ad 7))]) (by decide) (Nat.le_of_ble_eq_true rfl) rfl (fun A p e s m below meth c ls hx hb hr hml hown hts hlk hnm hl hP hK hD hS hA hX => ?_)
  have hown : s.vm.findClass "java/lang/String" = some m.cls := hown
  have hnm : meth.name = "length" := hnm
  refine lv_aload_n hx hb d_21_54_0 rfl (lv_at hl 0 rfl) ?_
  refine vk_getf hx hb ((hX.2.2.2.2.1 7 _ rfl).2.1 0 (by decide)).2.2.1 hS hown (hts _ k_15_170) (fun _ h => h) d_21_54_1 ?_
  refine W.eq (g2 := F0 m 4 ls [.ref (av 7)]) rfl ?_
  refine va_tlen (v := 1) hx hb ((hX.2.2.2.2.1 7 _ rfl).2.1 0 (by decide)).2.2.2 hS (by decide) d_21_54_4 ?_
  refine lv_aload_n hx hb d_21_54_5 rfl (lv_at hl 0 rfl) ?_
  have hFc1 := va_free (wc := []) hD hS hA [] rfl
  refine va_calli (va_runV (As := []) (rest := [.int 1]) ⟨hx, hb, hml, hown, hts⟩ (c_String_coder_6 l D ca ad av s.heap.size  ) (cwV 0 hts (gdV k_3_85 k_3_86 k_3_87 k_1_11 k_3_88) rfl rfl rfl (by decide +kernel) ⟨Nat.le_of_ble_eq_true rfl, Nat.le_of_ble_eq_true rfl⟩) ⟨gBlind, vk_recv (i := 0) (hX.2.2.2.2.1 7 _ rfl).2 (by decide) hS, gAt hP hD hK hS hA hX [] (by decide) rfl [.ref (ad 7)]⟩ rfl rfl hl.1 rfl (lv_room (Nat.le_of_ble_eq_true rfl)) d_21_54_6 ⟨Nat.le_of_ble_eq_true rfl, Nat.le_of_ble_eq_true rfl⟩) hS (fun q _ h => hFc1 q h) hFc1 (fun r1 u1 t1 H1 locs1 ht1 hvm1 hw1 hB1 hz1 hk1 hS1 => ?_)
  have hr1 := hw1
  obtain ⟨hP1, hD1⟩ := gJoin (wr := []) (w1 := []) hP hD [] [] rfl rfl (by decide) (by decide) hk1 hFc1 ht1 hB1
  have hP1 : va_P D cls [] H1 := hP1
  have hD1 : va_D A [] := hD1
  refine W.widen (k := 0) (n := 0) (Nat.le_of_ble_eq_true rfl) (Nat.le_of_ble_eq_true rfl) ?_
  subst hr1
  refine lv_ishr hx hb d_21_54_9 ?_
  refine lv_topi (fun y2 ey2 => ?_)
  obtain rfl : y2 = 1 := ey2.trans (by decide)
  have hP9 := hP1.sub (ws' := []) [] rfl
  have hD9 := hD1.sub (ws' := []) [] (by decide) rfl
  refine W.widen (k := 0) (n := 0) (Nat.le_of_ble_eq_true rfl) (Nat.le_of_ble_eq_true rfl) ?_
  exact W.iret (v := 1) hx hb hr (fun t ht hW => ⟨⟨1, (), rfl, rfl, by rw [ht]; exact hP9, va_K.moved hW.alike hK, hD9⟩, hS1.F ht⟩) hS1.2.2 d_21_54_10
abbrev Q_String_isLatin1_6 (D : va_G) (ca : Nat → ClassId)  (A : Nat → Prop) : Array Value → State → Outcome → State → Prop := va_Qi (S := Unit) (fun (r : Int32) (u : Unit) => r = 1) (fun u => gB D ca A []) A
set_option maxHeartbeats 8000000 in
set_option maxRecDepth 100000 in
theorem c_String_isLatin1_6 (l : Launch) (D : va_G) (ca : Nat → ClassId) (ad av : Nat → Nat) (sz : Nat)   : Met l ({ cls := "java/lang/String", name := "isLatin1", desc := "()Z" } : Jvm.MethodName) (Cond.code ({ cls := "java/lang/String", name := "isLatin1", desc := "()Z" } : Jvm.MethodName) prog_21_method_154_code 1 (Option.some Jvm.ClassFile.FieldType.boolean) :: wAll) ({ frames := 0, cells := 0, slots := 0, locals := 0 } : Room) (va_Pc [.ref (ad 7)] (gPre D ca ad av [] sz)) (Q_String_isLatin1_6 D ca  (va_A [] sz)) 0 0 (va_A [] sz) := by
  refine gMet (Qc := Q_String_isLatin1_6 D ca ) (lv := [(0, .ref (ad 7))]) (by decide) (Nat.le_of_ble_eq_true rfl) rfl (fun A p e s m below meth c ls hx hb hr hml hown hts hlk hnm hl hP hK hD hS hA hX => ?_)
  have hown : s.vm.findClass "java/lang/String" = some m.cls := hown
  have hnm : meth.name = "isLatin1" := hnm
  refine va_gets hx hb (hX.2.2.2.1 _ (List.mem_of_getElem? (i := 0) rfl)) hS hown (hts _ k_3_79) (fun _ h => h) d_21_154_0 ?_
  refine lv_if_eq (tgt := 17) hx hb d_21_154_3 (by decide) (fun c => absurd c (by decide)) (fun _ => ?_)
  refine lv_aload_n hx hb d_21_154_6 rfl (lv_at hl 0 rfl) ?_
  refine vk_getf hx hb ((hX.2.2.2.2.1 7 _ rfl).2.1 0 (by decide)).2.1 hS hown (hts _ k_15_171) (fun _ h => h) d_21_154_7 ?_
  refine W.eq (g2 := F0 m 10 ls [.int 0]) rfl ?_
  refine lv_if_ne (tgt := 17) hx hb d_21_154_10 (by decide) (fun c => absurd c (by decide)) (fun _ => ?_)
  refine lv_iconst (v := 1) hx hb d_21_154_13 (by decide) ?_
  refine lv_goto (tgt := 18) hx hb d_21_154_14 (by decide) ?_
  have hP9 := hP.sub (ws' := []) [] rfl
  have hD9 := hD.sub (ws' := []) [] (by decide) rfl
  refine W.widen (k := 0) (n := 0) (Nat.le_of_ble_eq_true rfl) (Nat.le_of_ble_eq_true rfl) ?_
  exact W.zret (v := 1) hx hb hr rfl (fun t ht hW => ⟨⟨1, (), rfl, rfl, by rw [ht]; exact hP9, va_K.moved hW.alike hK, hD9⟩, hS.F ht⟩) hS.2.2 d_21_154_18
abbrev Q_Preconditions_checkIndex_40 (D : va_G) (ca : Nat → ClassId)  (A : Nat → Prop) : Array Value → State → Outcome → State → Prop := va_Qi (S := Unit) (fun (r : Int32) (u : Unit) => r = 0) (fun u => gB D ca A []) A
set_option maxHeartbeats 8000000 in
set_option maxRecDepth 100000 in
theorem c_Preconditions_checkIndex_40 (l : Launch) (D : va_G) (ca : Nat → ClassId) (ad av : Nat → Nat) (sz : Nat)   : Met l ({ cls := "jdk/internal/util/Preconditions", name := "checkIndex", desc := "(IILjava/util/function/BiFunction;)I" } : Jvm.MethodName) (Cond.code ({ cls := "jdk/internal/util/Preconditions", name := "checkIndex", desc := "(IILjava/util/function/BiFunction;)I" } : Jvm.MethodName) prog_24_method_11_code 3 (Option.some Jvm.ClassFile.FieldType.int) :: wAll) ({ frames := 0, cells := 0, slots := 0, locals := 0 } : Room) (va_Pc [.int 0, .int 1, .null] (gPre D ca ad av [] sz)) (Q_Preconditions_checkIndex_40 D ca  (va_A [] sz)) 0 0 (va_A [] sz) := by
  refine gMet (Qc := Q_Preconditions_checkIndex_40 D ca ) (lv := [(0, .int 0), (1, .int 1), (2, .null)]) (by decide) (Nat.le_of_ble_eq_true rfl) rfl (fun A p e s m below meth c ls hx hb hr hml hown hts hlk hnm hl hP hK hD hS hA hX => ?_)
  have hown : s.vm.findClass "jdk/internal/util/Preconditions" = some m.cls := hown
  have hnm : meth.name = "checkIndex" := hnm
  refine lv_iload_n hx hb d_24_11_0 rfl (lv_at hl 0 rfl) ?_
  refine lv_if_lt (tgt := 9) hx hb d_24_11_1 (by decide) (fun c => absurd c (by decide)) (fun _ => ?_)
  refine lv_iload_n hx hb d_24_11_4 rfl (lv_at hl 0 rfl) ?_
  refine lv_iload_n hx hb d_24_11_5 rfl (lv_at hl 1 rfl) ?_
  refine lv_icmp_lt (tgt := 16) hx hb d_24_11_6 (by decide) (fun _ => ?_) (fun c => absurd (by decide) c)
  refine lv_iload_n hx hb d_24_11_16 rfl (lv_at hl 0 rfl) ?_
  have hP9 := hP.sub (ws' := []) [] rfl
  have hD9 := hD.sub (ws' := []) [] (by decide) rfl
  refine W.widen (k := 0) (n := 0) (Nat.le_of_ble_eq_true rfl) (Nat.le_of_ble_eq_true rfl) ?_
  exact W.iret (v := 0) hx hb hr (fun t ht hW => ⟨⟨0, (), rfl, rfl, by rw [ht]; exact hP9, va_K.moved hW.alike hK, hD9⟩, hS.F ht⟩) hS.2.2 d_24_11_17
abbrev Q_Preconditions_checkIndex_41 (D : va_G) (ca : Nat → ClassId) (r0 : Nat) (A : Nat → Prop) : Array Value → State → Outcome → State → Prop := va_Qi (S := Unit) (fun (r : Int32) (u : Unit) => r = 0) (fun u => gB D ca A []) A
set_option maxHeartbeats 8000000 in
set_option maxRecDepth 100000 in
theorem c_Preconditions_checkIndex_41 (l : Launch) (D : va_G) (ca : Nat → ClassId) (ad av : Nat → Nat) (sz : Nat) (r0 : Nat)  : Met l ({ cls := "jdk/internal/util/Preconditions", name := "checkIndex", desc := "(IILjava/util/function/BiFunction;)I" } : Jvm.MethodName) (Cond.code ({ cls := "jdk/internal/util/Preconditions", name := "checkIndex", desc := "(IILjava/util/function/BiFunction;)I" } : Jvm.MethodName) prog_24_method_11_code 3 (Option.some Jvm.ClassFile.FieldType.int) :: wAll) ({ frames := 0, cells := 0, slots := 0, locals := 0 } : Room) (va_Pc [.int 0, .int 1, .ref r0] (gPre D ca ad av [] sz)) (Q_Preconditions_checkIndex_41 D ca r0 (va_A [] sz)) 0 0 (va_A [] sz) := by
  refine gMet (Qc := Q_Preconditions_checkIndex_41 D ca r0) (lv := [(0, .int 0), (1, .int 1), (2, .ref r0)]) (by decide) (Nat.le_of_ble_eq_true rfl) rfl (fun A p e s m below meth c ls hx hb hr hml hown hts hlk hnm hl hP hK hD hS hA hX => ?_)
  have hown : s.vm.findClass "jdk/internal/util/Preconditions" = some m.cls := hown
  have hnm : meth.name = "checkIndex" := hnm
  refine lv_iload_n hx hb d_24_11_0 rfl (lv_at hl 0 rfl) ?_
  refine lv_if_lt (tgt := 9) hx hb d_24_11_1 (by decide) (fun c => absurd c (by decide)) (fun _ => ?_)
  refine lv_iload_n hx hb d_24_11_4 rfl (lv_at hl 0 rfl) ?_
  refine lv_iload_n hx hb d_24_11_5 rfl (lv_at hl 1 rfl) ?_
  refine lv_icmp_lt (tgt := 16) hx hb d_24_11_6 (by decide) (fun _ => ?_) (fun c => absurd (by decide) c)
  refine lv_iload_n hx hb d_24_11_16 rfl (lv_at hl 0 rfl) ?_
  have hP9 := hP.sub (ws' := []) [] rfl
  have hD9 := hD.sub (ws' := []) [] (by decide) rfl
  refine W.widen (k := 0) (n := 0) (Nat.le_of_ble_eq_true rfl) (Nat.le_of_ble_eq_true rfl) ?_
  exact W.iret (v := 0) hx hb hr (fun t ht hW => ⟨⟨0, (), rfl, rfl, by rw [ht]; exact hP9, va_K.moved hW.alike hK, hD9⟩, hS.F ht⟩) hS.2.2 d_24_11_17
abbrev Q_String_checkIndex_20 (D : va_G) (ca : Nat → ClassId)  (A : Nat → Prop) : Array Value → State → Outcome → State → Prop := va_Qv (S := Unit) (fun (u : Unit) => True) (fun u => gB D ca A []) A
set_option maxHeartbeats 8000000 in
set_option maxRecDepth 100000 in
theorem c_String_checkIndex_20 (l : Launch) (D : va_G) (ca : Nat → ClassId) (ad av : Nat → Nat) (sz : Nat)   : Met l ({ cls := "java/lang/String", name := "checkIndex", desc := "(II)V" } : Jvm.MethodName) (Cond.code ({ cls := "java/lang/String", name := "checkIndex", desc := "(II)V" } : Jvm.MethodName) prog_21_method_155_code 2 (Option.none : Option Jvm.ClassFile.FieldType) :: wAll) ({ frames := 1, cells := 0, slots := 0, locals := 22 } : Room) (va_Pc [.int 0, .int 1] (gPre D ca ad av [] sz)) (Q_String_checkIndex_20 D ca  (va_A [] sz)) 0 0 (va_A [] sz) := by
  refine gMet (Qc := Q_String_checkIndex_20 D ca ) (lv := [(0, .int 0), (1, .int 1)]) (by decide) (Nat.le_of_ble_eq_true rfl) rfl (fun A p e s m below meth c ls hx hb hr hml hown hts hlk hnm hl hP hK hD hS hA hX => ?_)
  have hown : s.vm.findClass "java/lang/String" = some m.cls := hown
  have hnm : meth.name = "checkIndex" := hnm
  refine lv_iload_n hx hb d_21_155_0 rfl (lv_at hl 0 rfl) ?_
  refine lv_iload_n hx hb d_21_155_1 rfl (lv_at hl 1 rfl) ?_
  rcases hX.2.2.2.2.2 with hz1 | ⟨tz1, hz1⟩
  · refine va_gets hx hb hz1 hS hown (hts _ k_3_120) (fun _ h => h) d_21_155_2 ?_
    have hFc2 := va_free (wc := []) hD hS hA [] rfl
    refine va_calli (va_runS (As := [.int 0, .int 1, .null]) (rest := []) ⟨hx, hb, hml, hown, hts⟩ (c_Preconditions_checkIndex_40 l D ca ad av s.heap.size  ) (va_cwS 3 hts (gdS k_7_143 k_7_144 k_1_13 k_7_145) rfl rfl rfl (by decide +kernel) ⟨Nat.le_of_ble_eq_true rfl, Nat.le_of_ble_eq_true rfl⟩) (gPS hP hD hK hS hA hX [] (by decide) rfl [.int 0, .int 1, .null]) rfl rfl hl.1 rfl (lv_room (Nat.le_of_ble_eq_true rfl)) d_21_155_5 ⟨Nat.le_of_ble_eq_true rfl, Nat.le_of_ble_eq_true rfl⟩) hS (fun q _ h => hFc2 q h) hFc2 (fun r2 u2 t2 H2 locs2 ht2 hvm2 hw2 hB2 hz2 hk2 hS2 => ?_)
    have hr2 := hw2
    obtain ⟨hP2, hD2⟩ := gJoin (wr := []) (w1 := []) hP hD [] [] rfl rfl (by decide) (by decide) hk2 hFc2 ht2 hB2
    have hP2 : va_P D cls [] H2 := hP2
    have hD2 : va_D A [] := hD2
    refine W.widen (k := 0) (n := 0) (Nat.le_of_ble_eq_true rfl) (Nat.le_of_ble_eq_true rfl) ?_
    subst hr2
    refine lv_pop hx hb d_21_155_8 rfl ?_
    have hP9 := hP2.sub (ws' := []) [] rfl
    have hD9 := hD2.sub (ws' := []) [] (by decide) rfl
    refine W.widen (k := 0) (n := 0) (Nat.le_of_ble_eq_true rfl) (Nat.le_of_ble_eq_true rfl) ?_
    exact W.vret hx hb hr (fun t ht hW => ⟨⟨(), rfl, trivial, by rw [ht]; exact hP9, va_K.moved hW.alike hK, hD9⟩, hS2.F ht⟩) hS2.2.2 d_21_155_9
  · refine va_gets hx hb hz1 hS hown (hts _ k_3_120) (fun _ h => h) d_21_155_2 ?_
    have hFc3 := va_free (wc := []) hD hS hA [] rfl
    refine va_calli (va_runS (As := [.int 0, .int 1, .ref tz1]) (rest := []) ⟨hx, hb, hml, hown, hts⟩ (c_Preconditions_checkIndex_41 l D ca ad av s.heap.size tz1 ) (va_cwS 3 hts (gdS k_7_143 k_7_144 k_1_13 k_7_145) rfl rfl rfl (by decide +kernel) ⟨Nat.le_of_ble_eq_true rfl, Nat.le_of_ble_eq_true rfl⟩) (gPS hP hD hK hS hA hX [] (by decide) rfl [.int 0, .int 1, .ref tz1]) rfl rfl hl.1 rfl (lv_room (Nat.le_of_ble_eq_true rfl)) d_21_155_5 ⟨Nat.le_of_ble_eq_true rfl, Nat.le_of_ble_eq_true rfl⟩) hS (fun q _ h => hFc3 q h) hFc3 (fun r3 u3 t3 H3 locs3 ht3 hvm3 hw3 hB3 hz3 hk3 hS3 => ?_)
    have hr3 := hw3
    obtain ⟨hP3, hD3⟩ := gJoin (wr := []) (w1 := []) hP hD [] [] rfl rfl (by decide) (by decide) hk3 hFc3 ht3 hB3
    have hP3 : va_P D cls [] H3 := hP3
    have hD3 : va_D A [] := hD3
    refine W.widen (k := 0) (n := 0) (Nat.le_of_ble_eq_true rfl) (Nat.le_of_ble_eq_true rfl) ?_
    subst hr3
    refine lv_pop hx hb d_21_155_8 rfl ?_
    have hP9 := hP3.sub (ws' := []) [] rfl
    have hD9 := hD3.sub (ws' := []) [] (by decide) rfl
    refine W.widen (k := 0) (n := 0) (Nat.le_of_ble_eq_true rfl) (Nat.le_of_ble_eq_true rfl) ?_
    exact W.vret hx hb hr (fun t ht hW => ⟨⟨(), rfl, trivial, by rw [ht]; exact hP9, va_K.moved hW.alike hK, hD9⟩, hS3.F ht⟩) hS3.2.2 d_21_155_9
abbrev Q_StringLatin1_charAt_24 (D : va_G) (ca : Nat → ClassId)  (A : Nat → Prop) : Array Value → State → Outcome → State → Prop := va_Qi (S := Unit) (fun (r : Int32) (u : Unit) => r = 112) (fun u => gB D ca A []) A
set_option maxHeartbeats 8000000 in
set_option maxRecDepth 100000 in
theorem c_StringLatin1_charAt_24 (l : Launch) (D : va_G) (ca : Nat → ClassId) (ad av : Nat → Nat) (sz : Nat)   : Met l ({ cls := "java/lang/StringLatin1", name := "charAt", desc := "([BI)C" } : Jvm.MethodName) (Cond.code ({ cls := "java/lang/StringLatin1", name := "charAt", desc := "([BI)C" } : Jvm.MethodName) prog_22_method_2_code 2 (Option.some Jvm.ClassFile.FieldType.char) :: wAll) ({ frames := 2, cells := 0, slots := 0, locals := 43 } : Room) (va_Pc [.ref (av 7), .int 0] (gPre D ca ad av [] sz)) (Q_StringLatin1_charAt_24 D ca  (va_A [] sz)) 0 0 (va_A [] sz) := by
  refine gMet (Qc := Q_StringLatin1_charAt_24 D ca ) (lv := [(0, .ref (av 7)), (1, .int 0)]) (by decide) (Nat.le_of_ble_eq_true rfl) rfl (fun A p e s m below meth c ls hx hb hr hml hown hts hlk hnm hl hP hK hD hS hA hX => ?_)
  have hown : s.vm.findClass "java/lang/StringLatin1" = some m.cls := hown
  have hnm : meth.name = "charAt" := hnm
  refine lv_iload_n hx hb d_22_2_0 rfl (lv_at hl 1 rfl) ?_
  refine lv_aload_n hx hb d_22_2_1 rfl (lv_at hl 0 rfl) ?_
  refine va_tlen (v := 1) hx hb ((hX.2.2.2.2.1 7 _ rfl).2.1 0 (by decide)).2.2.2 hS (by decide) d_22_2_2 ?_
  have hFc1 := va_free (wc := []) hD hS hA [] rfl
  refine va_callv (va_runS (As := [.int 0, .int 1]) (rest := []) ⟨hx, hb, hml, hown, hts⟩ (c_String_checkIndex_20 l D ca ad av s.heap.size  ) (va_cwS 2 hts (gdS k_7_140 k_7_141 k_1_11 k_7_142) rfl rfl rfl (by decide +kernel) ⟨Nat.le_of_ble_eq_true rfl, Nat.le_of_ble_eq_true rfl⟩) (gPS hP hD hK hS hA hX [] (by decide) rfl [.int 0, .int 1]) rfl rfl hl.1 rfl (lv_room (Nat.le_of_ble_eq_true rfl)) d_22_2_3 ⟨Nat.le_of_ble_eq_true rfl, Nat.le_of_ble_eq_true rfl⟩) hS (fun q _ h => hFc1 q h) hFc1 (fun u1 t1 H1 locs1 ht1 hvm1 hw1 hB1 hz1 hk1 hS1 => ?_)
  obtain ⟨hP1, hD1⟩ := gJoin (wr := []) (w1 := []) hP hD [] [] rfl rfl (by decide) (by decide) hk1 hFc1 ht1 hB1
  have hP1 : va_P D cls [] H1 := hP1
  have hD1 : va_D A [] := hD1
  refine W.widen (k := 0) (n := 0) (Nat.le_of_ble_eq_true rfl) (Nat.le_of_ble_eq_true rfl) ?_
  refine lv_aload_n hx hb d_22_2_6 rfl (lv_at hl 0 rfl) ?_
  refine lv_iload_n hx hb d_22_2_7 rfl (lv_at hl 1 rfl) ?_
  refine va_tb (v := .int 112) hx hb ((hX.2.2.2.2.1 7 _ rfl).2.1 0 (by decide)).2.2.2 hS1 (vinC (by decide)) rfl d_22_2_8 ?_
  refine lv_sipush (v := 255) hx hb d_22_2_9 (by decide) ?_
  refine lv_iand hx hb d_22_2_12 ?_
  refine lv_topi (fun y2 ey2 => ?_)
  obtain rfl : y2 = 112 := ey2.trans (by decide)
  refine lv_i2c hx hb d_22_2_13 rfl ?_
  refine lv_topi (fun y3 ey3 => ?_)
  obtain rfl : y3 = 112 := ey3.trans (by decide)
  have hP9 := hP1.sub (ws' := []) [] rfl
  have hD9 := hD1.sub (ws' := []) [] (by decide) rfl
  refine W.widen (k := 0) (n := 0) (Nat.le_of_ble_eq_true rfl) (Nat.le_of_ble_eq_true rfl) ?_
  exact W.zret (v := 112) hx hb hr rfl (fun t ht hW => ⟨⟨112, (), rfl, rfl, by rw [ht]; exact hP9, va_K.moved hW.alike hK, hD9⟩, hS1.F ht⟩) hS1.2.2 d_22_2_14
abbrev Q_String_charAt_24 (D : va_G) (ca : Nat → ClassId)  (A : Nat → Prop) : Array Value → State → Outcome → State → Prop := va_Qi (S := Unit) (fun (r : Int32) (u : Unit) => r = 112) (fun u => gB D ca A []) A
set_option maxHeartbeats 8000000 in
set_option maxRecDepth 100000 in
theorem c_String_charAt_24 (l : Launch) (D : va_G) (ca : Nat → ClassId) (ad av : Nat → Nat) (sz : Nat)   : Met l ({ cls := "java/lang/String", name := "charAt", desc := "(I)C" } : Jvm.MethodName) (Cond.code ({ cls := "java/lang/String", name := "charAt", desc := "(I)C" } : Jvm.MethodName) prog_21_method_56_code 2 (Option.some Jvm.ClassFile.FieldType.char) :: wAll) ({ frames := 3, cells := 0, slots := 0, locals := 64 } : Room) (va_Pc [.ref (ad 7), .int 0] (gPre D ca ad av [] sz)) (Q_String_charAt_24 D ca  (va_A [] sz)) 0 0 (va_A [] sz) := by
  refine gMet (Qc := Q_String_charAt_24 D ca ) (lv := [(0, .ref (ad 7)), (1, .int 0)]) (by decide) (Nat.le_of_ble_eq_true rfl) rfl (fun A p e s m below meth c ls hx hb hr hml hown hts hlk hnm hl hP hK hD hS hA hX => ?_)
  have hown : s.vm.findClass "java/lang/String" = some m.cls := hown
  have hnm : meth.name = "charAt" := hnm
  refine lv_aload_n hx hb d_21_56_0 rfl (lv_at hl 0 rfl) ?_
  have hFc1 := va_free (wc := []) hD hS hA [] rfl
  refine va_calli (va_runV (As := []) (rest := []) ⟨hx, hb, hml, hown, hts⟩ (c_String_isLatin1_6 l D ca ad av s.heap.size  ) (cwV 0 hts (gdV k_3_75 k_3_76 k_3_77 k_1_11 k_3_78) rfl rfl rfl (by decide +kernel) ⟨Nat.le_of_ble_eq_true rfl, Nat.le_of_ble_eq_true rfl⟩) ⟨gBlind, vk_recv (i := 0) (hX.2.2.2.2.1 7 _ rfl).2 (by decide) hS, gAt hP hD hK hS hA hX [] (by decide) rfl [.ref (ad 7)]⟩ rfl rfl hl.1 rfl (lv_room (Nat.le_of_ble_eq_true rfl)) d_21_56_1 ⟨Nat.le_of_ble_eq_true rfl, Nat.le_of_ble_eq_true rfl⟩) hS (fun q _ h => hFc1 q h) hFc1 (fun r1 u1 t1 H1 locs1 ht1 hvm1 hw1 hB1 hz1 hk1 hS1 => ?_)
  have hr1 := hw1
  obtain ⟨hP1, hD1⟩ := gJoin (wr := []) (w1 := []) hP hD [] [] rfl rfl (by decide) (by decide) hk1 hFc1 ht1 hB1
  have hP1 : va_P D cls [] H1 := hP1
  have hD1 : va_D A [] := hD1
  refine W.widen (k := 0) (n := 0) (Nat.le_of_ble_eq_true rfl) (Nat.le_of_ble_eq_true rfl) ?_
  subst hr1
  refine lv_if_eq (tgt := 16) hx hb d_21_56_4 (by decide) (fun c => absurd c (by decide)) (fun _ => ?_)
  refine lv_aload_n hx hb d_21_56_7 rfl (lv_at hl 0 rfl) ?_
  refine vk_getf hx hb ((hX.2.2.2.2.1 7 _ rfl).2.1 0 (by decide)).2.2.1 hS1 hown (hts _ k_15_170) (fun _ h => h) d_21_56_8 ?_
  refine W.eq (g2 := F0 m 11 ls [.ref (av 7)]) rfl ?_
  refine lv_iload_n hx hb d_21_56_11 rfl (lv_at hl 1 rfl) ?_
  have hFc2 := va_free (wc := []) hD1 hS1 hA [] rfl
  refine va_calli (va_runS (As := [.ref (av 7), .int 0]) (rest := []) ⟨hx, hb, hml, hown, hts⟩ (c_StringLatin1_charAt_24 l D ca ad av H1.size  ) (va_cwS 2 hts (gdS k_7_137 k_7_138 k_1_12 k_7_139) rfl rfl rfl (by decide +kernel) ⟨Nat.le_of_ble_eq_true rfl, Nat.le_of_ble_eq_true rfl⟩) (gPS hP1 hD1 hK hS1 hA hX [] (by decide) rfl [.ref (av 7), .int 0]) rfl rfl hl.1 rfl (lv_room (Nat.le_of_ble_eq_true rfl)) d_21_56_12 ⟨Nat.le_of_ble_eq_true rfl, Nat.le_of_ble_eq_true rfl⟩) hS1 (fun q _ h => hFc2 q h) hFc2 (fun r2 u2 t2 H2 locs2 ht2 hvm2 hw2 hB2 hz2 hk2 hS2 => ?_)
  have hr2 := hw2
  obtain ⟨hP2, hD2⟩ := gJoin (wr := []) (w1 := []) hP1 hD1 [] [] rfl rfl (by decide) (by decide) hk2 hFc2 ht2 hB2
  have hP2 : va_P D cls [] H2 := hP2
  have hD2 : va_D A [] := hD2
  refine W.widen (k := 0) (n := 0) (Nat.le_of_ble_eq_true rfl) (Nat.le_of_ble_eq_true rfl) ?_
  subst hr2
  have hP9 := hP2.sub (ws' := []) [] rfl
  have hD9 := hD2.sub (ws' := []) [] (by decide) rfl
  refine W.widen (k := 0) (n := 0) (Nat.le_of_ble_eq_true rfl) (Nat.le_of_ble_eq_true rfl) ?_
  exact W.zret (v := 112) hx hb hr rfl (fun t ht hW => ⟨⟨112, (), rfl, rfl, by rw [ht]; exact hP9, va_K.moved hW.alike hK, hD9⟩, hS2.F ht⟩) hS2.2.2 d_21_56_15
abbrev Q_M_code_6 (D : va_G) (ca : Nat → ClassId)  (A : Nat → Prop) : Array Value → State → Outcome → State → Prop := va_Ql (S := Unit) (fun (r : Int64) (u : Unit) => r = 112) (fun u => gB D ca A []) A
set_option maxHeartbeats 8000000 in
set_option maxRecDepth 100000 in
theorem c_M_code_6 (l : Launch) (D : va_G) (ca : Nat → ClassId) (ad av : Nat → Nat) (sz : Nat)   : Met l ({ cls := "StaveHouseModel", name := "code", desc := "(Ljava/lang/String;)J" } : Jvm.MethodName) (Cond.code ({ cls := "StaveHouseModel", name := "code", desc := "(Ljava/lang/String;)J" } : Jvm.MethodName) prog_15_method_24_code 4 (Option.some Jvm.ClassFile.FieldType.long) :: wAll) ({ frames := 4, cells := 0, slots := 0, locals := 85 } : Room) (va_Pc [.ref (ad 7)] (gPre D ca ad av [] sz)) (Q_M_code_6 D ca  (va_A [] sz)) 0 0 (va_A [] sz) := by
  refine gMet (Qc := Q_M_code_6 D ca ) (lv := [(0, .ref (ad 7))]) (by decide) (Nat.le_of_ble_eq_true rfl) rfl (fun A p e s m below meth c ls hx hb hr hml hown hts hlk hnm hl hP hK hD hS hA hX => ?_)
  have hown : s.vm.findClass "StaveHouseModel" = some m.cls := hown
  have hnm : meth.name = "code" := hnm
  refine lv_lconst (v := 0) hx hb d_15_24_0 (by decide) ?_
  refine lv_lstore_n (lv' := [(1, .long 0), (0, .ref (ad 7))]) hx hb d_15_24_1 rfl hl (by decide) rfl (fun ls hl => ?_)
  refine lv_iconst (v := 0) hx hb d_15_24_2 (by decide) ?_
  refine lv_istore_n (lv' := [(3, .int 0), (1, .long 0), (0, .ref (ad 7))]) hx hb d_15_24_3 rfl hl (by decide) rfl (fun ls hl => ?_)
  refine lv_iload_n hx hb d_15_24_4 rfl (lv_at hl 0 rfl) ?_
  refine lv_aload_n hx hb d_15_24_5 rfl (lv_at hl 2 rfl) ?_
  have hFc1 := va_free (wc := []) hD hS hA [] rfl
  refine va_calli (va_runV (As := []) (rest := [.int 0]) ⟨hx, hb, hml, hown, hts⟩ (c_String_length_6 l D ca ad av s.heap.size  ) (cwV 0 hts (gdV k_10_194 k_3_82 k_3_83 k_1_11 k_3_84) rfl rfl rfl (by decide +kernel) ⟨Nat.le_of_ble_eq_true rfl, Nat.le_of_ble_eq_true rfl⟩) ⟨gBlind, vk_recv (i := 0) (hX.2.2.2.2.1 7 _ rfl).2 (by decide) hS, gAt hP hD hK hS hA hX [] (by decide) rfl [.ref (ad 7)]⟩ rfl rfl hl.1 rfl (lv_room (Nat.le_of_ble_eq_true rfl)) d_15_24_6 ⟨Nat.le_of_ble_eq_true rfl, Nat.le_of_ble_eq_true rfl⟩) hS (fun q _ h => hFc1 q h) hFc1 (fun r1 u1 t1 H1 locs1 ht1 hvm1 hw1 hB1 hz1 hk1 hS1 => ?_)
  have hr1 := hw1
  obtain ⟨hP1, hD1⟩ := gJoin (wr := []) (w1 := []) hP hD [] [] rfl rfl (by decide) (by decide) hk1 hFc1 ht1 hB1
  have hP1 : va_P D cls [] H1 := hP1
  have hD1 : va_D A [] := hD1
  refine W.widen (k := 0) (n := 0) (Nat.le_of_ble_eq_true rfl) (Nat.le_of_ble_eq_true rfl) ?_
  subst hr1
  refine lv_icmp_ge (tgt := 30) hx hb d_15_24_9 (by decide) (fun c => absurd c (by decide)) (fun _ => ?_)
  refine lv_lload_n hx hb d_15_24_12 rfl (lv_at hl 1 rfl) ?_
  refine lv_bipush (v := 8) hx hb d_15_24_13 (by decide) ?_
  refine lv_lshl hx hb d_15_24_15 rfl ?_
  refine lv_topl (fun y2 ey2 => ?_)
  obtain rfl : y2 = 0 := ey2.trans (by decide)
  refine lv_aload_n hx hb d_15_24_16 rfl (lv_at hl 2 rfl) ?_
  refine lv_iload_n hx hb d_15_24_17 rfl (lv_at hl 0 rfl) ?_
  have hFc3 := va_free (wc := []) hD1 hS1 hA [] rfl
  refine va_calli (va_runV (As := [.int 0]) (rest := [.long 0]) ⟨hx, hb, hml, hown, hts⟩ (c_String_charAt_24 l D ca ad av H1.size  ) (cwV 1 hts (gdV k_10_195 k_7_134 k_7_135 k_1_11 k_7_136) rfl rfl rfl (by decide +kernel) ⟨Nat.le_of_ble_eq_true rfl, Nat.le_of_ble_eq_true rfl⟩) ⟨gBlind, vk_recv (i := 0) (hX.2.2.2.2.1 7 _ rfl).2 (by decide) hS1, gAt hP1 hD1 hK hS1 hA hX [] (by decide) rfl [.ref (ad 7), .int 0]⟩ rfl rfl hl.1 rfl (lv_room (Nat.le_of_ble_eq_true rfl)) d_15_24_18 ⟨Nat.le_of_ble_eq_true rfl, Nat.le_of_ble_eq_true rfl⟩) hS1 (fun q _ h => hFc3 q h) hFc3 (fun r3 u3 t3 H3 locs3 ht3 hvm3 hw3 hB3 hz3 hk3 hS3 => ?_)
  have hr3 := hw3
  obtain ⟨hP3, hD3⟩ := gJoin (wr := []) (w1 := []) hP1 hD1 [] [] rfl rfl (by decide) (by decide) hk3 hFc3 ht3 hB3
  have hP3 : va_P D cls [] H3 := hP3
  have hD3 : va_D A [] := hD3
  refine W.widen (k := 0) (n := 0) (Nat.le_of_ble_eq_true rfl) (Nat.le_of_ble_eq_true rfl) ?_
  subst hr3
  refine lv_i2l hx hb d_15_24_21 rfl ?_
  refine lv_topl (fun y4 ey4 => ?_)
  obtain rfl : y4 = 112 := ey4.trans (by decide)
  refine lv_lor hx hb d_15_24_22 ?_
  refine lv_topl (fun y5 ey5 => ?_)
  obtain rfl : y5 = 112 := ey5.trans (by decide)
  refine lv_lstore_n (lv' := [(1, .long 112), (3, .int 0), (0, .ref (ad 7))]) hx hb d_15_24_23 rfl hl (by decide) rfl (fun ls hl => ?_)
  refine lv_iinc (v := 1) (lv' := [(3, .int 1), (1, .long 112), (0, .ref (ad 7))]) hx hb d_15_24_24 hl (k := 1) rfl (by decide) (by decide) rfl (fun ls hl => ?_)
  refine lv_goto (tgt := 4) hx hb d_15_24_27 (by decide) ?_
  refine lv_iload_n hx hb d_15_24_4 rfl (lv_at hl 0 rfl) ?_
  refine lv_aload_n hx hb d_15_24_5 rfl (lv_at hl 2 rfl) ?_
  have hFc6 := va_free (wc := []) hD3 hS3 hA [] rfl
  refine va_calli (va_runV (As := []) (rest := [.int 1]) ⟨hx, hb, hml, hown, hts⟩ (c_String_length_6 l D ca ad av H3.size  ) (cwV 0 hts (gdV k_10_194 k_3_82 k_3_83 k_1_11 k_3_84) rfl rfl rfl (by decide +kernel) ⟨Nat.le_of_ble_eq_true rfl, Nat.le_of_ble_eq_true rfl⟩) ⟨gBlind, vk_recv (i := 0) (hX.2.2.2.2.1 7 _ rfl).2 (by decide) hS3, gAt hP3 hD3 hK hS3 hA hX [] (by decide) rfl [.ref (ad 7)]⟩ rfl rfl hl.1 rfl (lv_room (Nat.le_of_ble_eq_true rfl)) d_15_24_6 ⟨Nat.le_of_ble_eq_true rfl, Nat.le_of_ble_eq_true rfl⟩) hS3 (fun q _ h => hFc6 q h) hFc6 (fun r6 u6 t6 H6 locs6 ht6 hvm6 hw6 hB6 hz6 hk6 hS6 => ?_)
  have hr6 := hw6
  obtain ⟨hP6, hD6⟩ := gJoin (wr := []) (w1 := []) hP3 hD3 [] [] rfl rfl (by decide) (by decide) hk6 hFc6 ht6 hB6
  have hP6 : va_P D cls [] H6 := hP6
  have hD6 : va_D A [] := hD6
  refine W.widen (k := 0) (n := 0) (Nat.le_of_ble_eq_true rfl) (Nat.le_of_ble_eq_true rfl) ?_
  subst hr6
  refine lv_icmp_ge (tgt := 30) hx hb d_15_24_9 (by decide) (fun _ => ?_) (fun c => absurd (by decide) c)
  refine lv_lload_n hx hb d_15_24_30 rfl (lv_at hl 1 rfl) ?_
  have hP9 := hP6.sub (ws' := []) [] rfl
  have hD9 := hD6.sub (ws' := []) [] (by decide) rfl
  refine W.widen (k := 0) (n := 0) (Nat.le_of_ble_eq_true rfl) (Nat.le_of_ble_eq_true rfl) ?_
  exact W.lret (v := 112) hx hb hr (fun t ht hW => ⟨⟨112, (), rfl, rfl, by rw [ht]; exact hP9, va_K.moved hW.alike hK, hD9⟩, hS6.F ht⟩) hS6.2.2 d_15_24_31
abbrev Q_String_coder_7 (D : va_G) (ca : Nat → ClassId)  (A : Nat → Prop) : Array Value → State → Outcome → State → Prop := va_Qi (S := Unit) (fun (r : Int32) (u : Unit) => r = 0) (fun u => gB D ca A []) A
set_option maxHeartbeats 8000000 in
set_option maxRecDepth 100000 in
theorem c_String_coder_7 (l : Launch) (D : va_G) (ca : Nat → ClassId) (ad av : Nat → Nat) (sz : Nat)   : Met l ({ cls := "java/lang/String", name := "coder", desc := "()B" } : Jvm.MethodName) (Cond.code ({ cls := "java/lang/String", name := "coder", desc := "()B" } : Jvm.MethodName) prog_21_method_152_code 1 (Option.some Jvm.ClassFile.FieldType.byte) :: wAll) ({ frames := 0, cells := 0, slots := 0, locals := 0 } : Room) (va_Pc [.ref (ad 8)] (gPre D ca ad av [] sz)) (Q_String_coder_7 D ca  (va_A [] sz)) 0 0 (va_A [] sz) := by
  refine gMet (Qc := Q_String_coder_7 D ca ) (lv := [(0, .ref (ad 8))]) (by decide) (Nat.le_of_ble_eq_true rfl) rfl (fun A p e s m below meth c ls hx hb hr hml hown hts hlk hnm hl hP hK hD hS hA hX => ?_)
  have hown : s.vm.findClass "java/lang/String" = some m.cls := hown
  have hnm : meth.name = "coder" := hnm
  refine va_gets hx hb (hX.2.2.2.1 _ (List.mem_of_getElem? (i := 0) rfl)) hS hown (hts _ k_3_79) (fun _ h => h) d_21_152_0 ?_
  refine lv_if_eq (tgt := 13) hx hb d_21_152_3 (by decide) (fun c => absurd c (by decide)) (fun _ => ?_)
  refine lv_aload_n hx hb d_21_152_6 rfl (lv_at hl 0 rfl) ?_
  refine vk_getf hx hb ((hX.2.2.2.2.1 8 _ rfl).2.1 0 (by decide)).2.1 hS hown (hts _ k_15_171) (fun _ h => h) d_21_152_7 ?_
  refine W.eq (g2 := F0 m 10 ls [.int 0]) rfl ?_
  refine lv_goto (tgt := 14) hx hb d_21_152_10 (by decide) ?_
  have hP9 := hP.sub (ws' := []) [] rfl
  have hD9 := hD.sub (ws' := []) [] (by decide) rfl
  refine W.widen (k := 0) (n := 0) (Nat.le_of_ble_eq_true rfl) (Nat.le_of_ble_eq_true rfl) ?_
  exact W.zret (v := 0) hx hb hr rfl (fun t ht hW => ⟨⟨0, (), rfl, rfl, by rw [ht]; exact hP9, va_K.moved hW.alike hK, hD9⟩, hS.F ht⟩) hS.2.2 d_21_152_14
abbrev Q_String_length_7 (D : va_G) (ca : Nat → ClassId)  (A : Nat → Prop) : Array Value → State → Outcome → State → Prop := va_Qi (S := Unit) (fun (r : Int32) (u : Unit) => r = 2) (fun u => gB D ca A []) A
set_option maxHeartbeats 8000000 in
set_option maxRecDepth 100000 in
theorem c_String_length_7 (l : Launch) (D : va_G) (ca : Nat → ClassId) (ad av : Nat → Nat) (sz : Nat)   : Met l ({ cls := "java/lang/String", name := "length", desc := "()I" } : Jvm.MethodName) (Cond.code ({ cls := "java/lang/String", name := "length", desc := "()I" } : Jvm.MethodName) prog_21_method_54_code 1 (Option.some Jvm.ClassFile.FieldType.int) :: wAll) ({ frames := 1, cells := 0, slots := 0, locals := 20 } : Room) (va_Pc [.ref (ad 8)] (gPre D ca ad av [] sz)) (Q_String_length_7 D ca  (va_A [] sz)) 0 0 (va_A [] sz) := by
  refine gMet (Qc := Q_String_length_7 D ca ) (lv := [(0, .ref (ad 8))]) (by decide) (Nat.le_of_ble_eq_true rfl) rfl (fun A p e s m below meth c ls hx hb hr hml hown hts hlk hnm hl hP hK hD hS hA hX => ?_)
  have hown : s.vm.findClass "java/lang/String" = some m.cls := hown
  have hnm : meth.name = "length" := hnm
  refine lv_aload_n hx hb d_21_54_0 rfl (lv_at hl 0 rfl) ?_
  refine vk_getf hx hb ((hX.2.2.2.2.1 8 _ rfl).2.1 0 (by decide)).2.2.1 hS hown (hts _ k_15_170) (fun _ h => h) d_21_54_1 ?_
  refine W.eq (g2 := F0 m 4 ls [.ref (av 8)]) rfl ?_
  refine va_tlen (v := 2) hx hb ((hX.2.2.2.2.1 8 _ rfl).2.1 0 (by decide)).2.2.2 hS (by decide) d_21_54_4 ?_
  refine lv_aload_n hx hb d_21_54_5 rfl (lv_at hl 0 rfl) ?_
  have hFc1 := va_free (wc := []) hD hS hA [] rfl
  refine va_calli (va_runV (As := []) (rest := [.int 2]) ⟨hx, hb, hml, hown, hts⟩ (c_String_coder_7 l D ca ad av s.heap.size  ) (cwV 0 hts (gdV k_3_85 k_3_86 k_3_87 k_1_11 k_3_88) rfl rfl rfl (by decide +kernel) ⟨Nat.le_of_ble_eq_true rfl, Nat.le_of_ble_eq_true rfl⟩) ⟨gBlind, vk_recv (i := 0) (hX.2.2.2.2.1 8 _ rfl).2 (by decide) hS, gAt hP hD hK hS hA hX [] (by decide) rfl [.ref (ad 8)]⟩ rfl rfl hl.1 rfl (lv_room (Nat.le_of_ble_eq_true rfl)) d_21_54_6 ⟨Nat.le_of_ble_eq_true rfl, Nat.le_of_ble_eq_true rfl⟩) hS (fun q _ h => hFc1 q h) hFc1 (fun r1 u1 t1 H1 locs1 ht1 hvm1 hw1 hB1 hz1 hk1 hS1 => ?_)
  have hr1 := hw1
  obtain ⟨hP1, hD1⟩ := gJoin (wr := []) (w1 := []) hP hD [] [] rfl rfl (by decide) (by decide) hk1 hFc1 ht1 hB1
  have hP1 : va_P D cls [] H1 := hP1
  have hD1 : va_D A [] := hD1
  refine W.widen (k := 0) (n := 0) (Nat.le_of_ble_eq_true rfl) (Nat.le_of_ble_eq_true rfl) ?_
  subst hr1
  refine lv_ishr hx hb d_21_54_9 ?_
  refine lv_topi (fun y2 ey2 => ?_)
  obtain rfl : y2 = 2 := ey2.trans (by decide)
  have hP9 := hP1.sub (ws' := []) [] rfl
  have hD9 := hD1.sub (ws' := []) [] (by decide) rfl
  refine W.widen (k := 0) (n := 0) (Nat.le_of_ble_eq_true rfl) (Nat.le_of_ble_eq_true rfl) ?_
  exact W.iret (v := 2) hx hb hr (fun t ht hW => ⟨⟨2, (), rfl, rfl, by rw [ht]; exact hP9, va_K.moved hW.alike hK, hD9⟩, hS1.F ht⟩) hS1.2.2 d_21_54_10
abbrev Q_String_isLatin1_7 (D : va_G) (ca : Nat → ClassId)  (A : Nat → Prop) : Array Value → State → Outcome → State → Prop := va_Qi (S := Unit) (fun (r : Int32) (u : Unit) => r = 1) (fun u => gB D ca A []) A
set_option maxHeartbeats 8000000 in
set_option maxRecDepth 100000 in
theorem c_String_isLatin1_7 (l : Launch) (D : va_G) (ca : Nat → ClassId) (ad av : Nat → Nat) (sz : Nat)   : Met l ({ cls := "java/lang/String", name := "isLatin1", desc := "()Z" } : Jvm.MethodName) (Cond.code ({ cls := "java/lang/String", name := "isLatin1", desc := "()Z" } : Jvm.MethodName) prog_21_method_154_code 1 (Option.some Jvm.ClassFile.FieldType.boolean) :: wAll) ({ frames := 0, cells := 0, slots := 0, locals := 0 } : Room) (va_Pc [.ref (ad 8)] (gPre D ca ad av [] sz)) (Q_String_isLatin1_7 D ca  (va_A [] sz)) 0 0 (va_A [] sz) := by
  refine gMet (Qc := Q_String_isLatin1_7 D ca ) (lv := [(0, .ref (ad 8))]) (by decide) (Nat.le_of_ble_eq_true rfl) rfl (fun A p e s m below meth c ls hx hb hr hml hown hts hlk hnm hl hP hK hD hS hA hX => ?_)
  have hown : s.vm.findClass "java/lang/String" = some m.cls := hown
  have hnm : meth.name = "isLatin1" := hnm
  refine va_gets hx hb (hX.2.2.2.1 _ (List.mem_of_getElem? (i := 0) rfl)) hS hown (hts _ k_3_79) (fun _ h => h) d_21_154_0 ?_
  refine lv_if_eq (tgt := 17) hx hb d_21_154_3 (by decide) (fun c => absurd c (by decide)) (fun _ => ?_)
  refine lv_aload_n hx hb d_21_154_6 rfl (lv_at hl 0 rfl) ?_
  refine vk_getf hx hb ((hX.2.2.2.2.1 8 _ rfl).2.1 0 (by decide)).2.1 hS hown (hts _ k_15_171) (fun _ h => h) d_21_154_7 ?_
  refine W.eq (g2 := F0 m 10 ls [.int 0]) rfl ?_
  refine lv_if_ne (tgt := 17) hx hb d_21_154_10 (by decide) (fun c => absurd c (by decide)) (fun _ => ?_)
  refine lv_iconst (v := 1) hx hb d_21_154_13 (by decide) ?_
  refine lv_goto (tgt := 18) hx hb d_21_154_14 (by decide) ?_
  have hP9 := hP.sub (ws' := []) [] rfl
  have hD9 := hD.sub (ws' := []) [] (by decide) rfl
  refine W.widen (k := 0) (n := 0) (Nat.le_of_ble_eq_true rfl) (Nat.le_of_ble_eq_true rfl) ?_
  exact W.zret (v := 1) hx hb hr rfl (fun t ht hW => ⟨⟨1, (), rfl, rfl, by rw [ht]; exact hP9, va_K.moved hW.alike hK, hD9⟩, hS.F ht⟩) hS.2.2 d_21_154_18
abbrev Q_StringLatin1_charAt_25 (D : va_G) (ca : Nat → ClassId)  (A : Nat → Prop) : Array Value → State → Outcome → State → Prop := va_Qi (S := Unit) (fun (r : Int32) (u : Unit) => r = 109) (fun u => gB D ca A []) A
set_option maxHeartbeats 8000000 in
set_option maxRecDepth 100000 in
theorem c_StringLatin1_charAt_25 (l : Launch) (D : va_G) (ca : Nat → ClassId) (ad av : Nat → Nat) (sz : Nat)   : Met l ({ cls := "java/lang/StringLatin1", name := "charAt", desc := "([BI)C" } : Jvm.MethodName) (Cond.code ({ cls := "java/lang/StringLatin1", name := "charAt", desc := "([BI)C" } : Jvm.MethodName) prog_22_method_2_code 2 (Option.some Jvm.ClassFile.FieldType.char) :: wAll) ({ frames := 2, cells := 0, slots := 0, locals := 43 } : Room) (va_Pc [.ref (av 8), .int 0] (gPre D ca ad av [] sz)) (Q_StringLatin1_charAt_25 D ca  (va_A [] sz)) 0 0 (va_A [] sz) := by
  refine gMet (Qc := Q_StringLatin1_charAt_25 D ca ) (lv := [(0, .ref (av 8)), (1, .int 0)]) (by decide) (Nat.le_of_ble_eq_true rfl) rfl (fun A p e s m below meth c ls hx hb hr hml hown hts hlk hnm hl hP hK hD hS hA hX => ?_)
  have hown : s.vm.findClass "java/lang/StringLatin1" = some m.cls := hown
  have hnm : meth.name = "charAt" := hnm
  refine lv_iload_n hx hb d_22_2_0 rfl (lv_at hl 1 rfl) ?_
  refine lv_aload_n hx hb d_22_2_1 rfl (lv_at hl 0 rfl) ?_
  refine va_tlen (v := 2) hx hb ((hX.2.2.2.2.1 8 _ rfl).2.1 0 (by decide)).2.2.2 hS (by decide) d_22_2_2 ?_
  have hFc1 := va_free (wc := []) hD hS hA [] rfl
  refine va_callv (va_runS (As := [.int 0, .int 2]) (rest := []) ⟨hx, hb, hml, hown, hts⟩ (c_String_checkIndex_18 l D ca ad av s.heap.size  ) (va_cwS 2 hts (gdS k_7_140 k_7_141 k_1_11 k_7_142) rfl rfl rfl (by decide +kernel) ⟨Nat.le_of_ble_eq_true rfl, Nat.le_of_ble_eq_true rfl⟩) (gPS hP hD hK hS hA hX [] (by decide) rfl [.int 0, .int 2]) rfl rfl hl.1 rfl (lv_room (Nat.le_of_ble_eq_true rfl)) d_22_2_3 ⟨Nat.le_of_ble_eq_true rfl, Nat.le_of_ble_eq_true rfl⟩) hS (fun q _ h => hFc1 q h) hFc1 (fun u1 t1 H1 locs1 ht1 hvm1 hw1 hB1 hz1 hk1 hS1 => ?_)
  obtain ⟨hP1, hD1⟩ := gJoin (wr := []) (w1 := []) hP hD [] [] rfl rfl (by decide) (by decide) hk1 hFc1 ht1 hB1
  have hP1 : va_P D cls [] H1 := hP1
  have hD1 : va_D A [] := hD1
  refine W.widen (k := 0) (n := 0) (Nat.le_of_ble_eq_true rfl) (Nat.le_of_ble_eq_true rfl) ?_
  refine lv_aload_n hx hb d_22_2_6 rfl (lv_at hl 0 rfl) ?_
  refine lv_iload_n hx hb d_22_2_7 rfl (lv_at hl 1 rfl) ?_
  refine va_tb (v := .int 109) hx hb ((hX.2.2.2.2.1 8 _ rfl).2.1 0 (by decide)).2.2.2 hS1 (vinC (by decide)) rfl d_22_2_8 ?_
  refine lv_sipush (v := 255) hx hb d_22_2_9 (by decide) ?_
  refine lv_iand hx hb d_22_2_12 ?_
  refine lv_topi (fun y2 ey2 => ?_)
  obtain rfl : y2 = 109 := ey2.trans (by decide)
  refine lv_i2c hx hb d_22_2_13 rfl ?_
  refine lv_topi (fun y3 ey3 => ?_)
  obtain rfl : y3 = 109 := ey3.trans (by decide)
  have hP9 := hP1.sub (ws' := []) [] rfl
  have hD9 := hD1.sub (ws' := []) [] (by decide) rfl
  refine W.widen (k := 0) (n := 0) (Nat.le_of_ble_eq_true rfl) (Nat.le_of_ble_eq_true rfl) ?_
  exact W.zret (v := 109) hx hb hr rfl (fun t ht hW => ⟨⟨109, (), rfl, rfl, by rw [ht]; exact hP9, va_K.moved hW.alike hK, hD9⟩, hS1.F ht⟩) hS1.2.2 d_22_2_14
abbrev Q_String_charAt_25 (D : va_G) (ca : Nat → ClassId)  (A : Nat → Prop) : Array Value → State → Outcome → State → Prop := va_Qi (S := Unit) (fun (r : Int32) (u : Unit) => r = 109) (fun u => gB D ca A []) A
set_option maxHeartbeats 8000000 in
set_option maxRecDepth 100000 in
theorem c_String_charAt_25 (l : Launch) (D : va_G) (ca : Nat → ClassId) (ad av : Nat → Nat) (sz : Nat)   : Met l ({ cls := "java/lang/String", name := "charAt", desc := "(I)C" } : Jvm.MethodName) (Cond.code ({ cls := "java/lang/String", name := "charAt", desc := "(I)C" } : Jvm.MethodName) prog_21_method_56_code 2 (Option.some Jvm.ClassFile.FieldType.char) :: wAll) ({ frames := 3, cells := 0, slots := 0, locals := 64 } : Room) (va_Pc [.ref (ad 8), .int 0] (gPre D ca ad av [] sz)) (Q_String_charAt_25 D ca  (va_A [] sz)) 0 0 (va_A [] sz) := by
  refine gMet (Qc := Q_String_charAt_25 D ca ) (lv := [(0, .ref (ad 8)), (1, .int 0)]) (by decide) (Nat.le_of_ble_eq_true rfl) rfl (fun A p e s m below meth c ls hx hb hr hml hown hts hlk hnm hl hP hK hD hS hA hX => ?_)
  have hown : s.vm.findClass "java/lang/String" = some m.cls := hown
  have hnm : meth.name = "charAt" := hnm
  refine lv_aload_n hx hb d_21_56_0 rfl (lv_at hl 0 rfl) ?_
  have hFc1 := va_free (wc := []) hD hS hA [] rfl
  refine va_calli (va_runV (As := []) (rest := []) ⟨hx, hb, hml, hown, hts⟩ (c_String_isLatin1_7 l D ca ad av s.heap.size  ) (cwV 0 hts (gdV k_3_75 k_3_76 k_3_77 k_1_11 k_3_78) rfl rfl rfl (by decide +kernel) ⟨Nat.le_of_ble_eq_true rfl, Nat.le_of_ble_eq_true rfl⟩) ⟨gBlind, vk_recv (i := 0) (hX.2.2.2.2.1 8 _ rfl).2 (by decide) hS, gAt hP hD hK hS hA hX [] (by decide) rfl [.ref (ad 8)]⟩ rfl rfl hl.1 rfl (lv_room (Nat.le_of_ble_eq_true rfl)) d_21_56_1 ⟨Nat.le_of_ble_eq_true rfl, Nat.le_of_ble_eq_true rfl⟩) hS (fun q _ h => hFc1 q h) hFc1 (fun r1 u1 t1 H1 locs1 ht1 hvm1 hw1 hB1 hz1 hk1 hS1 => ?_)
  have hr1 := hw1
  obtain ⟨hP1, hD1⟩ := gJoin (wr := []) (w1 := []) hP hD [] [] rfl rfl (by decide) (by decide) hk1 hFc1 ht1 hB1
  have hP1 : va_P D cls [] H1 := hP1
  have hD1 : va_D A [] := hD1
  refine W.widen (k := 0) (n := 0) (Nat.le_of_ble_eq_true rfl) (Nat.le_of_ble_eq_true rfl) ?_
  subst hr1
  refine lv_if_eq (tgt := 16) hx hb d_21_56_4 (by decide) (fun c => absurd c (by decide)) (fun _ => ?_)
  refine lv_aload_n hx hb d_21_56_7 rfl (lv_at hl 0 rfl) ?_
  refine vk_getf hx hb ((hX.2.2.2.2.1 8 _ rfl).2.1 0 (by decide)).2.2.1 hS1 hown (hts _ k_15_170) (fun _ h => h) d_21_56_8 ?_
  refine W.eq (g2 := F0 m 11 ls [.ref (av 8)]) rfl ?_
  refine lv_iload_n hx hb d_21_56_11 rfl (lv_at hl 1 rfl) ?_
  have hFc2 := va_free (wc := []) hD1 hS1 hA [] rfl
  refine va_calli (va_runS (As := [.ref (av 8), .int 0]) (rest := []) ⟨hx, hb, hml, hown, hts⟩ (c_StringLatin1_charAt_25 l D ca ad av H1.size  ) (va_cwS 2 hts (gdS k_7_137 k_7_138 k_1_12 k_7_139) rfl rfl rfl (by decide +kernel) ⟨Nat.le_of_ble_eq_true rfl, Nat.le_of_ble_eq_true rfl⟩) (gPS hP1 hD1 hK hS1 hA hX [] (by decide) rfl [.ref (av 8), .int 0]) rfl rfl hl.1 rfl (lv_room (Nat.le_of_ble_eq_true rfl)) d_21_56_12 ⟨Nat.le_of_ble_eq_true rfl, Nat.le_of_ble_eq_true rfl⟩) hS1 (fun q _ h => hFc2 q h) hFc2 (fun r2 u2 t2 H2 locs2 ht2 hvm2 hw2 hB2 hz2 hk2 hS2 => ?_)
  have hr2 := hw2
  obtain ⟨hP2, hD2⟩ := gJoin (wr := []) (w1 := []) hP1 hD1 [] [] rfl rfl (by decide) (by decide) hk2 hFc2 ht2 hB2
  have hP2 : va_P D cls [] H2 := hP2
  have hD2 : va_D A [] := hD2
  refine W.widen (k := 0) (n := 0) (Nat.le_of_ble_eq_true rfl) (Nat.le_of_ble_eq_true rfl) ?_
  subst hr2
  have hP9 := hP2.sub (ws' := []) [] rfl
  have hD9 := hD2.sub (ws' := []) [] (by decide) rfl
  refine W.widen (k := 0) (n := 0) (Nat.le_of_ble_eq_true rfl) (Nat.le_of_ble_eq_true rfl) ?_
  exact W.zret (v := 109) hx hb hr rfl (fun t ht hW => ⟨⟨109, (), rfl, rfl, by rw [ht]; exact hP9, va_K.moved hW.alike hK, hD9⟩, hS2.F ht⟩) hS2.2.2 d_21_56_15
abbrev Q_StringLatin1_charAt_26 (D : va_G) (ca : Nat → ClassId)  (A : Nat → Prop) : Array Value → State → Outcome → State → Prop := va_Qi (S := Unit) (fun (r : Int32) (u : Unit) => r = 112) (fun u => gB D ca A []) A
set_option maxHeartbeats 8000000 in
set_option maxRecDepth 100000 in
theorem c_StringLatin1_charAt_26 (l : Launch) (D : va_G) (ca : Nat → ClassId) (ad av : Nat → Nat) (sz : Nat)   : Met l ({ cls := "java/lang/StringLatin1", name := "charAt", desc := "([BI)C" } : Jvm.MethodName) (Cond.code ({ cls := "java/lang/StringLatin1", name := "charAt", desc := "([BI)C" } : Jvm.MethodName) prog_22_method_2_code 2 (Option.some Jvm.ClassFile.FieldType.char) :: wAll) ({ frames := 2, cells := 0, slots := 0, locals := 43 } : Room) (va_Pc [.ref (av 8), .int 1] (gPre D ca ad av [] sz)) (Q_StringLatin1_charAt_26 D ca  (va_A [] sz)) 0 0 (va_A [] sz) := by
  refine gMet (Qc := Q_StringLatin1_charAt_26 D ca ) (lv := [(0, .ref (av 8)), (1, .int 1)]) (by decide) (Nat.le_of_ble_eq_true rfl) rfl (fun A p e s m below meth c ls hx hb hr hml hown hts hlk hnm hl hP hK hD hS hA hX => ?_)
  have hown : s.vm.findClass "java/lang/StringLatin1" = some m.cls := hown
  have hnm : meth.name = "charAt" := hnm
  refine lv_iload_n hx hb d_22_2_0 rfl (lv_at hl 1 rfl) ?_
  refine lv_aload_n hx hb d_22_2_1 rfl (lv_at hl 0 rfl) ?_
  refine va_tlen (v := 2) hx hb ((hX.2.2.2.2.1 8 _ rfl).2.1 0 (by decide)).2.2.2 hS (by decide) d_22_2_2 ?_
  have hFc1 := va_free (wc := []) hD hS hA [] rfl
  refine va_callv (va_runS (As := [.int 1, .int 2]) (rest := []) ⟨hx, hb, hml, hown, hts⟩ (c_String_checkIndex_19 l D ca ad av s.heap.size  ) (va_cwS 2 hts (gdS k_7_140 k_7_141 k_1_11 k_7_142) rfl rfl rfl (by decide +kernel) ⟨Nat.le_of_ble_eq_true rfl, Nat.le_of_ble_eq_true rfl⟩) (gPS hP hD hK hS hA hX [] (by decide) rfl [.int 1, .int 2]) rfl rfl hl.1 rfl (lv_room (Nat.le_of_ble_eq_true rfl)) d_22_2_3 ⟨Nat.le_of_ble_eq_true rfl, Nat.le_of_ble_eq_true rfl⟩) hS (fun q _ h => hFc1 q h) hFc1 (fun u1 t1 H1 locs1 ht1 hvm1 hw1 hB1 hz1 hk1 hS1 => ?_)
  obtain ⟨hP1, hD1⟩ := gJoin (wr := []) (w1 := []) hP hD [] [] rfl rfl (by decide) (by decide) hk1 hFc1 ht1 hB1
  have hP1 : va_P D cls [] H1 := hP1
  have hD1 : va_D A [] := hD1
  refine W.widen (k := 0) (n := 0) (Nat.le_of_ble_eq_true rfl) (Nat.le_of_ble_eq_true rfl) ?_
  refine lv_aload_n hx hb d_22_2_6 rfl (lv_at hl 0 rfl) ?_
  refine lv_iload_n hx hb d_22_2_7 rfl (lv_at hl 1 rfl) ?_
  refine va_tb (v := .int 112) hx hb ((hX.2.2.2.2.1 8 _ rfl).2.1 0 (by decide)).2.2.2 hS1 (vinC (by decide)) rfl d_22_2_8 ?_
  refine lv_sipush (v := 255) hx hb d_22_2_9 (by decide) ?_
  refine lv_iand hx hb d_22_2_12 ?_
  refine lv_topi (fun y2 ey2 => ?_)
  obtain rfl : y2 = 112 := ey2.trans (by decide)
  refine lv_i2c hx hb d_22_2_13 rfl ?_
  refine lv_topi (fun y3 ey3 => ?_)
  obtain rfl : y3 = 112 := ey3.trans (by decide)
  have hP9 := hP1.sub (ws' := []) [] rfl
  have hD9 := hD1.sub (ws' := []) [] (by decide) rfl
  refine W.widen (k := 0) (n := 0) (Nat.le_of_ble_eq_true rfl) (Nat.le_of_ble_eq_true rfl) ?_
  exact W.zret (v := 112) hx hb hr rfl (fun t ht hW => ⟨⟨112, (), rfl, rfl, by rw [ht]; exact hP9, va_K.moved hW.alike hK, hD9⟩, hS1.F ht⟩) hS1.2.2 d_22_2_14
abbrev Q_String_charAt_26 (D : va_G) (ca : Nat → ClassId)  (A : Nat → Prop) : Array Value → State → Outcome → State → Prop := va_Qi (S := Unit) (fun (r : Int32) (u : Unit) => r = 112) (fun u => gB D ca A []) A
set_option maxHeartbeats 8000000 in
set_option maxRecDepth 100000 in
theorem c_String_charAt_26 (l : Launch) (D : va_G) (ca : Nat → ClassId) (ad av : Nat → Nat) (sz : Nat)   : Met l ({ cls := "java/lang/String", name := "charAt", desc := "(I)C" } : Jvm.MethodName) (Cond.code ({ cls := "java/lang/String", name := "charAt", desc := "(I)C" } : Jvm.MethodName) prog_21_method_56_code 2 (Option.some Jvm.ClassFile.FieldType.char) :: wAll) ({ frames := 3, cells := 0, slots := 0, locals := 64 } : Room) (va_Pc [.ref (ad 8), .int 1] (gPre D ca ad av [] sz)) (Q_String_charAt_26 D ca  (va_A [] sz)) 0 0 (va_A [] sz) := by
  refine gMet (Qc := Q_String_charAt_26 D ca ) (lv := [(0, .ref (ad 8)), (1, .int 1)]) (by decide) (Nat.le_of_ble_eq_true rfl) rfl (fun A p e s m below meth c ls hx hb hr hml hown hts hlk hnm hl hP hK hD hS hA hX => ?_)
  have hown : s.vm.findClass "java/lang/String" = some m.cls := hown
  have hnm : meth.name = "charAt" := hnm
  refine lv_aload_n hx hb d_21_56_0 rfl (lv_at hl 0 rfl) ?_
  have hFc1 := va_free (wc := []) hD hS hA [] rfl
  refine va_calli (va_runV (As := []) (rest := []) ⟨hx, hb, hml, hown, hts⟩ (c_String_isLatin1_7 l D ca ad av s.heap.size  ) (cwV 0 hts (gdV k_3_75 k_3_76 k_3_77 k_1_11 k_3_78) rfl rfl rfl (by decide +kernel) ⟨Nat.le_of_ble_eq_true rfl, Nat.le_of_ble_eq_true rfl⟩) ⟨gBlind, vk_recv (i := 0) (hX.2.2.2.2.1 8 _ rfl).2 (by decide) hS, gAt hP hD hK hS hA hX [] (by decide) rfl [.ref (ad 8)]⟩ rfl rfl hl.1 rfl (lv_room (Nat.le_of_ble_eq_true rfl)) d_21_56_1 ⟨Nat.le_of_ble_eq_true rfl, Nat.le_of_ble_eq_true rfl⟩) hS (fun q _ h => hFc1 q h) hFc1 (fun r1 u1 t1 H1 locs1 ht1 hvm1 hw1 hB1 hz1 hk1 hS1 => ?_)
  have hr1 := hw1
  obtain ⟨hP1, hD1⟩ := gJoin (wr := []) (w1 := []) hP hD [] [] rfl rfl (by decide) (by decide) hk1 hFc1 ht1 hB1
  have hP1 : va_P D cls [] H1 := hP1
  have hD1 : va_D A [] := hD1
  refine W.widen (k := 0) (n := 0) (Nat.le_of_ble_eq_true rfl) (Nat.le_of_ble_eq_true rfl) ?_
  subst hr1
  refine lv_if_eq (tgt := 16) hx hb d_21_56_4 (by decide) (fun c => absurd c (by decide)) (fun _ => ?_)
  refine lv_aload_n hx hb d_21_56_7 rfl (lv_at hl 0 rfl) ?_
  refine vk_getf hx hb ((hX.2.2.2.2.1 8 _ rfl).2.1 0 (by decide)).2.2.1 hS1 hown (hts _ k_15_170) (fun _ h => h) d_21_56_8 ?_
  refine W.eq (g2 := F0 m 11 ls [.ref (av 8)]) rfl ?_
  refine lv_iload_n hx hb d_21_56_11 rfl (lv_at hl 1 rfl) ?_
  have hFc2 := va_free (wc := []) hD1 hS1 hA [] rfl
  refine va_calli (va_runS (As := [.ref (av 8), .int 1]) (rest := []) ⟨hx, hb, hml, hown, hts⟩ (c_StringLatin1_charAt_26 l D ca ad av H1.size  ) (va_cwS 2 hts (gdS k_7_137 k_7_138 k_1_12 k_7_139) rfl rfl rfl (by decide +kernel) ⟨Nat.le_of_ble_eq_true rfl, Nat.le_of_ble_eq_true rfl⟩) (gPS hP1 hD1 hK hS1 hA hX [] (by decide) rfl [.ref (av 8), .int 1]) rfl rfl hl.1 rfl (lv_room (Nat.le_of_ble_eq_true rfl)) d_21_56_12 ⟨Nat.le_of_ble_eq_true rfl, Nat.le_of_ble_eq_true rfl⟩) hS1 (fun q _ h => hFc2 q h) hFc2 (fun r2 u2 t2 H2 locs2 ht2 hvm2 hw2 hB2 hz2 hk2 hS2 => ?_)
  have hr2 := hw2
  obtain ⟨hP2, hD2⟩ := gJoin (wr := []) (w1 := []) hP1 hD1 [] [] rfl rfl (by decide) (by decide) hk2 hFc2 ht2 hB2
  have hP2 : va_P D cls [] H2 := hP2
  have hD2 : va_D A [] := hD2
  refine W.widen (k := 0) (n := 0) (Nat.le_of_ble_eq_true rfl) (Nat.le_of_ble_eq_true rfl) ?_
  subst hr2
  have hP9 := hP2.sub (ws' := []) [] rfl
  have hD9 := hD2.sub (ws' := []) [] (by decide) rfl
  refine W.widen (k := 0) (n := 0) (Nat.le_of_ble_eq_true rfl) (Nat.le_of_ble_eq_true rfl) ?_
  exact W.zret (v := 112) hx hb hr rfl (fun t ht hW => ⟨⟨112, (), rfl, rfl, by rw [ht]; exact hP9, va_K.moved hW.alike hK, hD9⟩, hS2.F ht⟩) hS2.2.2 d_21_56_15
abbrev Q_M_code_7 (D : va_G) (ca : Nat → ClassId)  (A : Nat → Prop) : Array Value → State → Outcome → State → Prop := va_Ql (S := Unit) (fun (r : Int64) (u : Unit) => r = 28016) (fun u => gB D ca A []) A
set_option maxHeartbeats 8000000 in
set_option maxRecDepth 100000 in
theorem c_M_code_7 (l : Launch) (D : va_G) (ca : Nat → ClassId) (ad av : Nat → Nat) (sz : Nat)   : Met l ({ cls := "StaveHouseModel", name := "code", desc := "(Ljava/lang/String;)J" } : Jvm.MethodName) (Cond.code ({ cls := "StaveHouseModel", name := "code", desc := "(Ljava/lang/String;)J" } : Jvm.MethodName) prog_15_method_24_code 4 (Option.some Jvm.ClassFile.FieldType.long) :: wAll) ({ frames := 4, cells := 0, slots := 0, locals := 85 } : Room) (va_Pc [.ref (ad 8)] (gPre D ca ad av [] sz)) (Q_M_code_7 D ca  (va_A [] sz)) 0 0 (va_A [] sz) := by
  refine gMet (Qc := Q_M_code_7 D ca ) (lv := [(0, .ref (ad 8))]) (by decide) (Nat.le_of_ble_eq_true rfl) rfl (fun A p e s m below meth c ls hx hb hr hml hown hts hlk hnm hl hP hK hD hS hA hX => ?_)
  have hown : s.vm.findClass "StaveHouseModel" = some m.cls := hown
  have hnm : meth.name = "code" := hnm
  refine lv_lconst (v := 0) hx hb d_15_24_0 (by decide) ?_
  refine lv_lstore_n (lv' := [(1, .long 0), (0, .ref (ad 8))]) hx hb d_15_24_1 rfl hl (by decide) rfl (fun ls hl => ?_)
  refine lv_iconst (v := 0) hx hb d_15_24_2 (by decide) ?_
  refine lv_istore_n (lv' := [(3, .int 0), (1, .long 0), (0, .ref (ad 8))]) hx hb d_15_24_3 rfl hl (by decide) rfl (fun ls hl => ?_)
  refine lv_iload_n hx hb d_15_24_4 rfl (lv_at hl 0 rfl) ?_
  refine lv_aload_n hx hb d_15_24_5 rfl (lv_at hl 2 rfl) ?_
  have hFc1 := va_free (wc := []) hD hS hA [] rfl
  refine va_calli (va_runV (As := []) (rest := [.int 0]) ⟨hx, hb, hml, hown, hts⟩ (c_String_length_7 l D ca ad av s.heap.size  ) (cwV 0 hts (gdV k_10_194 k_3_82 k_3_83 k_1_11 k_3_84) rfl rfl rfl (by decide +kernel) ⟨Nat.le_of_ble_eq_true rfl, Nat.le_of_ble_eq_true rfl⟩) ⟨gBlind, vk_recv (i := 0) (hX.2.2.2.2.1 8 _ rfl).2 (by decide) hS, gAt hP hD hK hS hA hX [] (by decide) rfl [.ref (ad 8)]⟩ rfl rfl hl.1 rfl (lv_room (Nat.le_of_ble_eq_true rfl)) d_15_24_6 ⟨Nat.le_of_ble_eq_true rfl, Nat.le_of_ble_eq_true rfl⟩) hS (fun q _ h => hFc1 q h) hFc1 (fun r1 u1 t1 H1 locs1 ht1 hvm1 hw1 hB1 hz1 hk1 hS1 => ?_)
  have hr1 := hw1
  obtain ⟨hP1, hD1⟩ := gJoin (wr := []) (w1 := []) hP hD [] [] rfl rfl (by decide) (by decide) hk1 hFc1 ht1 hB1
  have hP1 : va_P D cls [] H1 := hP1
  have hD1 : va_D A [] := hD1
  refine W.widen (k := 0) (n := 0) (Nat.le_of_ble_eq_true rfl) (Nat.le_of_ble_eq_true rfl) ?_
  subst hr1
  refine lv_icmp_ge (tgt := 30) hx hb d_15_24_9 (by decide) (fun c => absurd c (by decide)) (fun _ => ?_)
  refine lv_lload_n hx hb d_15_24_12 rfl (lv_at hl 1 rfl) ?_
  refine lv_bipush (v := 8) hx hb d_15_24_13 (by decide) ?_
  refine lv_lshl hx hb d_15_24_15 rfl ?_
  refine lv_topl (fun y2 ey2 => ?_)
  obtain rfl : y2 = 0 := ey2.trans (by decide)
  refine lv_aload_n hx hb d_15_24_16 rfl (lv_at hl 2 rfl) ?_
  refine lv_iload_n hx hb d_15_24_17 rfl (lv_at hl 0 rfl) ?_
  have hFc3 := va_free (wc := []) hD1 hS1 hA [] rfl
  refine va_calli (va_runV (As := [.int 0]) (rest := [.long 0]) ⟨hx, hb, hml, hown, hts⟩ (c_String_charAt_25 l D ca ad av H1.size  ) (cwV 1 hts (gdV k_10_195 k_7_134 k_7_135 k_1_11 k_7_136) rfl rfl rfl (by decide +kernel) ⟨Nat.le_of_ble_eq_true rfl, Nat.le_of_ble_eq_true rfl⟩) ⟨gBlind, vk_recv (i := 0) (hX.2.2.2.2.1 8 _ rfl).2 (by decide) hS1, gAt hP1 hD1 hK hS1 hA hX [] (by decide) rfl [.ref (ad 8), .int 0]⟩ rfl rfl hl.1 rfl (lv_room (Nat.le_of_ble_eq_true rfl)) d_15_24_18 ⟨Nat.le_of_ble_eq_true rfl, Nat.le_of_ble_eq_true rfl⟩) hS1 (fun q _ h => hFc3 q h) hFc3 (fun r3 u3 t3 H3 locs3 ht3 hvm3 hw3 hB3 hz3 hk3 hS3 => ?_)
  have hr3 := hw3
  obtain ⟨hP3, hD3⟩ := gJoin (wr := []) (w1 := []) hP1 hD1 [] [] rfl rfl (by decide) (by decide) hk3 hFc3 ht3 hB3
  have hP3 : va_P D cls [] H3 := hP3
  have hD3 : va_D A [] := hD3
  refine W.widen (k := 0) (n := 0) (Nat.le_of_ble_eq_true rfl) (Nat.le_of_ble_eq_true rfl) ?_
  subst hr3
  refine lv_i2l hx hb d_15_24_21 rfl ?_
  refine lv_topl (fun y4 ey4 => ?_)
  obtain rfl : y4 = 109 := ey4.trans (by decide)
  refine lv_lor hx hb d_15_24_22 ?_
  refine lv_topl (fun y5 ey5 => ?_)
  obtain rfl : y5 = 109 := ey5.trans (by decide)
  refine lv_lstore_n (lv' := [(1, .long 109), (3, .int 0), (0, .ref (ad 8))]) hx hb d_15_24_23 rfl hl (by decide) rfl (fun ls hl => ?_)
  refine lv_iinc (v := 1) (lv' := [(3, .int 1), (1, .long 109), (0, .ref (ad 8))]) hx hb d_15_24_24 hl (k := 1) rfl (by decide) (by decide) rfl (fun ls hl => ?_)
  refine lv_goto (tgt := 4) hx hb d_15_24_27 (by decide) ?_
  refine lv_iload_n hx hb d_15_24_4 rfl (lv_at hl 0 rfl) ?_
  refine lv_aload_n hx hb d_15_24_5 rfl (lv_at hl 2 rfl) ?_
  have hFc6 := va_free (wc := []) hD3 hS3 hA [] rfl
  refine va_calli (va_runV (As := []) (rest := [.int 1]) ⟨hx, hb, hml, hown, hts⟩ (c_String_length_7 l D ca ad av H3.size  ) (cwV 0 hts (gdV k_10_194 k_3_82 k_3_83 k_1_11 k_3_84) rfl rfl rfl (by decide +kernel) ⟨Nat.le_of_ble_eq_true rfl, Nat.le_of_ble_eq_true rfl⟩) ⟨gBlind, vk_recv (i := 0) (hX.2.2.2.2.1 8 _ rfl).2 (by decide) hS3, gAt hP3 hD3 hK hS3 hA hX [] (by decide) rfl [.ref (ad 8)]⟩ rfl rfl hl.1 rfl (lv_room (Nat.le_of_ble_eq_true rfl)) d_15_24_6 ⟨Nat.le_of_ble_eq_true rfl, Nat.le_of_ble_eq_true rfl⟩) hS3 (fun q _ h => hFc6 q h) hFc6 (fun r6 u6 t6 H6 locs6 ht6 hvm6 hw6 hB6 hz6 hk6 hS6 => ?_)
  have hr6 := hw6
  obtain ⟨hP6, hD6⟩ := gJoin (wr := []) (w1 := []) hP3 hD3 [] [] rfl rfl (by decide) (by decide) hk6 hFc6 ht6 hB6
  have hP6 : va_P D cls [] H6 := hP6
  have hD6 : va_D A [] := hD6
  refine W.widen (k := 0) (n := 0) (Nat.le_of_ble_eq_true rfl) (Nat.le_of_ble_eq_true rfl) ?_
  subst hr6
  refine lv_icmp_ge (tgt := 30) hx hb d_15_24_9 (by decide) (fun c => absurd c (by decide)) (fun _ => ?_)
  refine lv_lload_n hx hb d_15_24_12 rfl (lv_at hl 1 rfl) ?_
  refine lv_bipush (v := 8) hx hb d_15_24_13 (by decide) ?_
  refine lv_lshl hx hb d_15_24_15 rfl ?_
  refine lv_topl (fun y7 ey7 => ?_)
  obtain rfl : y7 = 27904 := ey7.trans (by decide)
  refine lv_aload_n hx hb d_15_24_16 rfl (lv_at hl 2 rfl) ?_
  refine lv_iload_n hx hb d_15_24_17 rfl (lv_at hl 0 rfl) ?_
  have hFc8 := va_free (wc := []) hD6 hS6 hA [] rfl
  refine va_calli (va_runV (As := [.int 1]) (rest := [.long 27904]) ⟨hx, hb, hml, hown, hts⟩ (c_String_charAt_26 l D ca ad av H6.size  ) (cwV 1 hts (gdV k_10_195 k_7_134 k_7_135 k_1_11 k_7_136) rfl rfl rfl (by decide +kernel) ⟨Nat.le_of_ble_eq_true rfl, Nat.le_of_ble_eq_true rfl⟩) ⟨gBlind, vk_recv (i := 0) (hX.2.2.2.2.1 8 _ rfl).2 (by decide) hS6, gAt hP6 hD6 hK hS6 hA hX [] (by decide) rfl [.ref (ad 8), .int 1]⟩ rfl rfl hl.1 rfl (lv_room (Nat.le_of_ble_eq_true rfl)) d_15_24_18 ⟨Nat.le_of_ble_eq_true rfl, Nat.le_of_ble_eq_true rfl⟩) hS6 (fun q _ h => hFc8 q h) hFc8 (fun r8 u8 t8 H8 locs8 ht8 hvm8 hw8 hB8 hz8 hk8 hS8 => ?_)
  have hr8 := hw8
  obtain ⟨hP8, hD8⟩ := gJoin (wr := []) (w1 := []) hP6 hD6 [] [] rfl rfl (by decide) (by decide) hk8 hFc8 ht8 hB8
  have hP8 : va_P D cls [] H8 := hP8
  have hD8 : va_D A [] := hD8
  refine W.widen (k := 0) (n := 0) (Nat.le_of_ble_eq_true rfl) (Nat.le_of_ble_eq_true rfl) ?_
  subst hr8
  refine lv_i2l hx hb d_15_24_21 rfl ?_
  refine lv_topl (fun y9 ey9 => ?_)
  obtain rfl : y9 = 112 := ey9.trans (by decide)
  refine lv_lor hx hb d_15_24_22 ?_
  refine lv_topl (fun y10 ey10 => ?_)
  obtain rfl : y10 = 28016 := ey10.trans (by decide)
  refine lv_lstore_n (lv' := [(1, .long 28016), (3, .int 1), (0, .ref (ad 8))]) hx hb d_15_24_23 rfl hl (by decide) rfl (fun ls hl => ?_)
  refine lv_iinc (v := 2) (lv' := [(3, .int 2), (1, .long 28016), (0, .ref (ad 8))]) hx hb d_15_24_24 hl (k := 1) rfl (by decide) (by decide) rfl (fun ls hl => ?_)
  refine lv_goto (tgt := 4) hx hb d_15_24_27 (by decide) ?_
  refine lv_iload_n hx hb d_15_24_4 rfl (lv_at hl 0 rfl) ?_
  refine lv_aload_n hx hb d_15_24_5 rfl (lv_at hl 2 rfl) ?_
  have hFc11 := va_free (wc := []) hD8 hS8 hA [] rfl
  refine va_calli (va_runV (As := []) (rest := [.int 2]) ⟨hx, hb, hml, hown, hts⟩ (c_String_length_7 l D ca ad av H8.size  ) (cwV 0 hts (gdV k_10_194 k_3_82 k_3_83 k_1_11 k_3_84) rfl rfl rfl (by decide +kernel) ⟨Nat.le_of_ble_eq_true rfl, Nat.le_of_ble_eq_true rfl⟩) ⟨gBlind, vk_recv (i := 0) (hX.2.2.2.2.1 8 _ rfl).2 (by decide) hS8, gAt hP8 hD8 hK hS8 hA hX [] (by decide) rfl [.ref (ad 8)]⟩ rfl rfl hl.1 rfl (lv_room (Nat.le_of_ble_eq_true rfl)) d_15_24_6 ⟨Nat.le_of_ble_eq_true rfl, Nat.le_of_ble_eq_true rfl⟩) hS8 (fun q _ h => hFc11 q h) hFc11 (fun r11 u11 t11 H11 locs11 ht11 hvm11 hw11 hB11 hz11 hk11 hS11 => ?_)
  have hr11 := hw11
  obtain ⟨hP11, hD11⟩ := gJoin (wr := []) (w1 := []) hP8 hD8 [] [] rfl rfl (by decide) (by decide) hk11 hFc11 ht11 hB11
  have hP11 : va_P D cls [] H11 := hP11
  have hD11 : va_D A [] := hD11
  refine W.widen (k := 0) (n := 0) (Nat.le_of_ble_eq_true rfl) (Nat.le_of_ble_eq_true rfl) ?_
  subst hr11
  refine lv_icmp_ge (tgt := 30) hx hb d_15_24_9 (by decide) (fun _ => ?_) (fun c => absurd (by decide) c)
  refine lv_lload_n hx hb d_15_24_30 rfl (lv_at hl 1 rfl) ?_
  have hP9 := hP11.sub (ws' := []) [] rfl
  have hD9 := hD11.sub (ws' := []) [] (by decide) rfl
  refine W.widen (k := 0) (n := 0) (Nat.le_of_ble_eq_true rfl) (Nat.le_of_ble_eq_true rfl) ?_
  exact W.lret (v := 28016) hx hb hr (fun t ht hW => ⟨⟨28016, (), rfl, rfl, by rw [ht]; exact hP9, va_K.moved hW.alike hK, hD9⟩, hS11.F ht⟩) hS11.2.2 d_15_24_31
abbrev Q_String_coder_8 (D : va_G) (ca : Nat → ClassId)  (A : Nat → Prop) : Array Value → State → Outcome → State → Prop := va_Qi (S := Unit) (fun (r : Int32) (u : Unit) => r = 0) (fun u => gB D ca A []) A
set_option maxHeartbeats 8000000 in
set_option maxRecDepth 100000 in
theorem c_String_coder_8 (l : Launch) (D : va_G) (ca : Nat → ClassId) (ad av : Nat → Nat) (sz : Nat)   : Met l ({ cls := "java/lang/String", name := "coder", desc := "()B" } : Jvm.MethodName) (Cond.code ({ cls := "java/lang/String", name := "coder", desc := "()B" } : Jvm.MethodName) prog_21_method_152_code 1 (Option.some Jvm.ClassFile.FieldType.byte) :: wAll) ({ frames := 0, cells := 0, slots := 0, locals := 0 } : Room) (va_Pc [.ref (ad 9)] (gPre D ca ad av [] sz)) (Q_String_coder_8 D ca  (va_A [] sz)) 0 0 (va_A [] sz) := by
  refine gMet (Qc := Q_String_coder_8 D ca ) (lv := [(0, .ref (ad 9))]) (by decide) (Nat.le_of_ble_eq_true rfl) rfl (fun A p e s m below meth c ls hx hb hr hml hown hts hlk hnm hl hP hK hD hS hA hX => ?_)
  have hown : s.vm.findClass "java/lang/String" = some m.cls := hown
  have hnm : meth.name = "coder" := hnm
  refine va_gets hx hb (hX.2.2.2.1 _ (List.mem_of_getElem? (i := 0) rfl)) hS hown (hts _ k_3_79) (fun _ h => h) d_21_152_0 ?_
  refine lv_if_eq (tgt := 13) hx hb d_21_152_3 (by decide) (fun c => absurd c (by decide)) (fun _ => ?_)
  refine lv_aload_n hx hb d_21_152_6 rfl (lv_at hl 0 rfl) ?_
  refine vk_getf hx hb ((hX.2.2.2.2.1 9 _ rfl).2.1 0 (by decide)).2.1 hS hown (hts _ k_15_171) (fun _ h => h) d_21_152_7 ?_
  refine W.eq (g2 := F0 m 10 ls [.int 0]) rfl ?_
  refine lv_goto (tgt := 14) hx hb d_21_152_10 (by decide) ?_
  have hP9 := hP.sub (ws' := []) [] rfl
  have hD9 := hD.sub (ws' := []) [] (by decide) rfl
  refine W.widen (k := 0) (n := 0) (Nat.le_of_ble_eq_true rfl) (Nat.le_of_ble_eq_true rfl) ?_
  exact W.zret (v := 0) hx hb hr rfl (fun t ht hW => ⟨⟨0, (), rfl, rfl, by rw [ht]; exact hP9, va_K.moved hW.alike hK, hD9⟩, hS.F ht⟩) hS.2.2 d_21_152_14
abbrev Q_String_length_8 (D : va_G) (ca : Nat → ClassId)  (A : Nat → Prop) : Array Value → State → Outcome → State → Prop := va_Qi (S := Unit) (fun (r : Int32) (u : Unit) => r = 2) (fun u => gB D ca A []) A
set_option maxHeartbeats 8000000 in
set_option maxRecDepth 100000 in
theorem c_String_length_8 (l : Launch) (D : va_G) (ca : Nat → ClassId) (ad av : Nat → Nat) (sz : Nat)   : Met l ({ cls := "java/lang/String", name := "length", desc := "()I" } : Jvm.MethodName) (Cond.code ({ cls := "java/lang/String", name := "length", desc := "()I" } : Jvm.MethodName) prog_21_method_54_code 1 (Option.some Jvm.ClassFile.FieldType.int) :: wAll) ({ frames := 1, cells := 0, slots := 0, locals := 20 } : Room) (va_Pc [.ref (ad 9)] (gPre D ca ad av [] sz)) (Q_String_length_8 D ca  (va_A [] sz)) 0 0 (va_A [] sz) := by
  refine gMet (Qc := Q_String_length_8 D ca ) (lv := [(0, .ref (ad 9))]) (by decide) (Nat.le_of_ble_eq_true rfl) rfl (fun A p e s m below meth c ls hx hb hr hml hown hts hlk hnm hl hP hK hD hS hA hX => ?_)
  have hown : s.vm.findClass "java/lang/String" = some m.cls := hown
  have hnm : meth.name = "length" := hnm
  refine lv_aload_n hx hb d_21_54_0 rfl (lv_at hl 0 rfl) ?_
  refine vk_getf hx hb ((hX.2.2.2.2.1 9 _ rfl).2.1 0 (by decide)).2.2.1 hS hown (hts _ k_15_170) (fun _ h => h) d_21_54_1 ?_
  refine W.eq (g2 := F0 m 4 ls [.ref (av 9)]) rfl ?_
  refine va_tlen (v := 2) hx hb ((hX.2.2.2.2.1 9 _ rfl).2.1 0 (by decide)).2.2.2 hS (by decide) d_21_54_4 ?_
  refine lv_aload_n hx hb d_21_54_5 rfl (lv_at hl 0 rfl) ?_
  have hFc1 := va_free (wc := []) hD hS hA [] rfl
  refine va_calli (va_runV (As := []) (rest := [.int 2]) ⟨hx, hb, hml, hown, hts⟩ (c_String_coder_8 l D ca ad av s.heap.size  ) (cwV 0 hts (gdV k_3_85 k_3_86 k_3_87 k_1_11 k_3_88) rfl rfl rfl (by decide +kernel) ⟨Nat.le_of_ble_eq_true rfl, Nat.le_of_ble_eq_true rfl⟩) ⟨gBlind, vk_recv (i := 0) (hX.2.2.2.2.1 9 _ rfl).2 (by decide) hS, gAt hP hD hK hS hA hX [] (by decide) rfl [.ref (ad 9)]⟩ rfl rfl hl.1 rfl (lv_room (Nat.le_of_ble_eq_true rfl)) d_21_54_6 ⟨Nat.le_of_ble_eq_true rfl, Nat.le_of_ble_eq_true rfl⟩) hS (fun q _ h => hFc1 q h) hFc1 (fun r1 u1 t1 H1 locs1 ht1 hvm1 hw1 hB1 hz1 hk1 hS1 => ?_)
  have hr1 := hw1
  obtain ⟨hP1, hD1⟩ := gJoin (wr := []) (w1 := []) hP hD [] [] rfl rfl (by decide) (by decide) hk1 hFc1 ht1 hB1
  have hP1 : va_P D cls [] H1 := hP1
  have hD1 : va_D A [] := hD1
  refine W.widen (k := 0) (n := 0) (Nat.le_of_ble_eq_true rfl) (Nat.le_of_ble_eq_true rfl) ?_
  subst hr1
  refine lv_ishr hx hb d_21_54_9 ?_
  refine lv_topi (fun y2 ey2 => ?_)
  obtain rfl : y2 = 2 := ey2.trans (by decide)
  have hP9 := hP1.sub (ws' := []) [] rfl
  have hD9 := hD1.sub (ws' := []) [] (by decide) rfl
  refine W.widen (k := 0) (n := 0) (Nat.le_of_ble_eq_true rfl) (Nat.le_of_ble_eq_true rfl) ?_
  exact W.iret (v := 2) hx hb hr (fun t ht hW => ⟨⟨2, (), rfl, rfl, by rw [ht]; exact hP9, va_K.moved hW.alike hK, hD9⟩, hS1.F ht⟩) hS1.2.2 d_21_54_10
abbrev Q_String_isLatin1_8 (D : va_G) (ca : Nat → ClassId)  (A : Nat → Prop) : Array Value → State → Outcome → State → Prop := va_Qi (S := Unit) (fun (r : Int32) (u : Unit) => r = 1) (fun u => gB D ca A []) A
set_option maxHeartbeats 8000000 in
set_option maxRecDepth 100000 in
theorem c_String_isLatin1_8 (l : Launch) (D : va_G) (ca : Nat → ClassId) (ad av : Nat → Nat) (sz : Nat)   : Met l ({ cls := "java/lang/String", name := "isLatin1", desc := "()Z" } : Jvm.MethodName) (Cond.code ({ cls := "java/lang/String", name := "isLatin1", desc := "()Z" } : Jvm.MethodName) prog_21_method_154_code 1 (Option.some Jvm.ClassFile.FieldType.boolean) :: wAll) ({ frames := 0, cells := 0, slots := 0, locals := 0 } : Room) (va_Pc [.ref (ad 9)] (gPre D ca ad av [] sz)) (Q_String_isLatin1_8 D ca  (va_A [] sz)) 0 0 (va_A [] sz) := by
  refine gMet (Qc := Q_String_isLatin1_8 D ca ) (lv := [(0, .ref (ad 9))]) (by decide) (Nat.le_of_ble_eq_true rfl) rfl (fun A p e s m below meth c ls hx hb hr hml hown hts hlk hnm hl hP hK hD hS hA hX => ?_)
  have hown : s.vm.findClass "java/lang/String" = some m.cls := hown
  have hnm : meth.name = "isLatin1" := hnm
  refine va_gets hx hb (hX.2.2.2.1 _ (List.mem_of_getElem? (i := 0) rfl)) hS hown (hts _ k_3_79) (fun _ h => h) d_21_154_0 ?_
  refine lv_if_eq (tgt := 17) hx hb d_21_154_3 (by decide) (fun c => absurd c (by decide)) (fun _ => ?_)
  refine lv_aload_n hx hb d_21_154_6 rfl (lv_at hl 0 rfl) ?_
  refine vk_getf hx hb ((hX.2.2.2.2.1 9 _ rfl).2.1 0 (by decide)).2.1 hS hown (hts _ k_15_171) (fun _ h => h) d_21_154_7 ?_
  refine W.eq (g2 := F0 m 10 ls [.int 0]) rfl ?_
  refine lv_if_ne (tgt := 17) hx hb d_21_154_10 (by decide) (fun c => absurd c (by decide)) (fun _ => ?_)
  refine lv_iconst (v := 1) hx hb d_21_154_13 (by decide) ?_
  refine lv_goto (tgt := 18) hx hb d_21_154_14 (by decide) ?_
  have hP9 := hP.sub (ws' := []) [] rfl
  have hD9 := hD.sub (ws' := []) [] (by decide) rfl
  refine W.widen (k := 0) (n := 0) (Nat.le_of_ble_eq_true rfl) (Nat.le_of_ble_eq_true rfl) ?_
  exact W.zret (v := 1) hx hb hr rfl (fun t ht hW => ⟨⟨1, (), rfl, rfl, by rw [ht]; exact hP9, va_K.moved hW.alike hK, hD9⟩, hS.F ht⟩) hS.2.2 d_21_154_18
abbrev Q_StringLatin1_charAt_27 (D : va_G) (ca : Nat → ClassId)  (A : Nat → Prop) : Array Value → State → Outcome → State → Prop := va_Qi (S := Unit) (fun (r : Int32) (u : Unit) => r = 109) (fun u => gB D ca A []) A
set_option maxHeartbeats 8000000 in
set_option maxRecDepth 100000 in
theorem c_StringLatin1_charAt_27 (l : Launch) (D : va_G) (ca : Nat → ClassId) (ad av : Nat → Nat) (sz : Nat)   : Met l ({ cls := "java/lang/StringLatin1", name := "charAt", desc := "([BI)C" } : Jvm.MethodName) (Cond.code ({ cls := "java/lang/StringLatin1", name := "charAt", desc := "([BI)C" } : Jvm.MethodName) prog_22_method_2_code 2 (Option.some Jvm.ClassFile.FieldType.char) :: wAll) ({ frames := 2, cells := 0, slots := 0, locals := 43 } : Room) (va_Pc [.ref (av 9), .int 0] (gPre D ca ad av [] sz)) (Q_StringLatin1_charAt_27 D ca  (va_A [] sz)) 0 0 (va_A [] sz) := by
  refine gMet (Qc := Q_StringLatin1_charAt_27 D ca ) (lv := [(0, .ref (av 9)), (1, .int 0)]) (by decide) (Nat.le_of_ble_eq_true rfl) rfl (fun A p e s m below meth c ls hx hb hr hml hown hts hlk hnm hl hP hK hD hS hA hX => ?_)
  have hown : s.vm.findClass "java/lang/StringLatin1" = some m.cls := hown
  have hnm : meth.name = "charAt" := hnm
  refine lv_iload_n hx hb d_22_2_0 rfl (lv_at hl 1 rfl) ?_
  refine lv_aload_n hx hb d_22_2_1 rfl (lv_at hl 0 rfl) ?_
  refine va_tlen (v := 2) hx hb ((hX.2.2.2.2.1 9 _ rfl).2.1 0 (by decide)).2.2.2 hS (by decide) d_22_2_2 ?_
  have hFc1 := va_free (wc := []) hD hS hA [] rfl
  refine va_callv (va_runS (As := [.int 0, .int 2]) (rest := []) ⟨hx, hb, hml, hown, hts⟩ (c_String_checkIndex_18 l D ca ad av s.heap.size  ) (va_cwS 2 hts (gdS k_7_140 k_7_141 k_1_11 k_7_142) rfl rfl rfl (by decide +kernel) ⟨Nat.le_of_ble_eq_true rfl, Nat.le_of_ble_eq_true rfl⟩) (gPS hP hD hK hS hA hX [] (by decide) rfl [.int 0, .int 2]) rfl rfl hl.1 rfl (lv_room (Nat.le_of_ble_eq_true rfl)) d_22_2_3 ⟨Nat.le_of_ble_eq_true rfl, Nat.le_of_ble_eq_true rfl⟩) hS (fun q _ h => hFc1 q h) hFc1 (fun u1 t1 H1 locs1 ht1 hvm1 hw1 hB1 hz1 hk1 hS1 => ?_)
  obtain ⟨hP1, hD1⟩ := gJoin (wr := []) (w1 := []) hP hD [] [] rfl rfl (by decide) (by decide) hk1 hFc1 ht1 hB1
  have hP1 : va_P D cls [] H1 := hP1
  have hD1 : va_D A [] := hD1
  refine W.widen (k := 0) (n := 0) (Nat.le_of_ble_eq_true rfl) (Nat.le_of_ble_eq_true rfl) ?_
  refine lv_aload_n hx hb d_22_2_6 rfl (lv_at hl 0 rfl) ?_
  refine lv_iload_n hx hb d_22_2_7 rfl (lv_at hl 1 rfl) ?_
  refine va_tb (v := .int 109) hx hb ((hX.2.2.2.2.1 9 _ rfl).2.1 0 (by decide)).2.2.2 hS1 (vinC (by decide)) rfl d_22_2_8 ?_
  refine lv_sipush (v := 255) hx hb d_22_2_9 (by decide) ?_
  refine lv_iand hx hb d_22_2_12 ?_
  refine lv_topi (fun y2 ey2 => ?_)
  obtain rfl : y2 = 109 := ey2.trans (by decide)
  refine lv_i2c hx hb d_22_2_13 rfl ?_
  refine lv_topi (fun y3 ey3 => ?_)
  obtain rfl : y3 = 109 := ey3.trans (by decide)
  have hP9 := hP1.sub (ws' := []) [] rfl
  have hD9 := hD1.sub (ws' := []) [] (by decide) rfl
  refine W.widen (k := 0) (n := 0) (Nat.le_of_ble_eq_true rfl) (Nat.le_of_ble_eq_true rfl) ?_
  exact W.zret (v := 109) hx hb hr rfl (fun t ht hW => ⟨⟨109, (), rfl, rfl, by rw [ht]; exact hP9, va_K.moved hW.alike hK, hD9⟩, hS1.F ht⟩) hS1.2.2 d_22_2_14
abbrev Q_String_charAt_27 (D : va_G) (ca : Nat → ClassId)  (A : Nat → Prop) : Array Value → State → Outcome → State → Prop := va_Qi (S := Unit) (fun (r : Int32) (u : Unit) => r = 109) (fun u => gB D ca A []) A
set_option maxHeartbeats 8000000 in
set_option maxRecDepth 100000 in
theorem c_String_charAt_27 (l : Launch) (D : va_G) (ca : Nat → ClassId) (ad av : Nat → Nat) (sz : Nat)   : Met l ({ cls := "java/lang/String", name := "charAt", desc := "(I)C" } : Jvm.MethodName) (Cond.code ({ cls := "java/lang/String", name := "charAt", desc := "(I)C" } : Jvm.MethodName) prog_21_method_56_code 2 (Option.some Jvm.ClassFile.FieldType.char) :: wAll) ({ frames := 3, cells := 0, slots := 0, locals := 64 } : Room) (va_Pc [.ref (ad 9), .int 0] (gPre D ca ad av [] sz)) (Q_String_charAt_27 D ca  (va_A [] sz)) 0 0 (va_A [] sz) := by
  refine gMet (Qc := Q_String_charAt_27 D ca ) (lv := [(0, .ref (ad 9)), (1, .int 0)]) (by decide) (Nat.le_of_ble_eq_true rfl) rfl (fun A p e s m below meth c ls hx hb hr hml hown hts hlk hnm hl hP hK hD hS hA hX => ?_)
  have hown : s.vm.findClass "java/lang/String" = some m.cls := hown
  have hnm : meth.name = "charAt" := hnm
  refine lv_aload_n hx hb d_21_56_0 rfl (lv_at hl 0 rfl) ?_
  have hFc1 := va_free (wc := []) hD hS hA [] rfl
  refine va_calli (va_runV (As := []) (rest := []) ⟨hx, hb, hml, hown, hts⟩ (c_String_isLatin1_8 l D ca ad av s.heap.size  ) (cwV 0 hts (gdV k_3_75 k_3_76 k_3_77 k_1_11 k_3_78) rfl rfl rfl (by decide +kernel) ⟨Nat.le_of_ble_eq_true rfl, Nat.le_of_ble_eq_true rfl⟩) ⟨gBlind, vk_recv (i := 0) (hX.2.2.2.2.1 9 _ rfl).2 (by decide) hS, gAt hP hD hK hS hA hX [] (by decide) rfl [.ref (ad 9)]⟩ rfl rfl hl.1 rfl (lv_room (Nat.le_of_ble_eq_true rfl)) d_21_56_1 ⟨Nat.le_of_ble_eq_true rfl, Nat.le_of_ble_eq_true rfl⟩) hS (fun q _ h => hFc1 q h) hFc1 (fun r1 u1 t1 H1 locs1 ht1 hvm1 hw1 hB1 hz1 hk1 hS1 => ?_)
  have hr1 := hw1
  obtain ⟨hP1, hD1⟩ := gJoin (wr := []) (w1 := []) hP hD [] [] rfl rfl (by decide) (by decide) hk1 hFc1 ht1 hB1
  have hP1 : va_P D cls [] H1 := hP1
  have hD1 : va_D A [] := hD1
  refine W.widen (k := 0) (n := 0) (Nat.le_of_ble_eq_true rfl) (Nat.le_of_ble_eq_true rfl) ?_
  subst hr1
  refine lv_if_eq (tgt := 16) hx hb d_21_56_4 (by decide) (fun c => absurd c (by decide)) (fun _ => ?_)
  refine lv_aload_n hx hb d_21_56_7 rfl (lv_at hl 0 rfl) ?_
  refine vk_getf hx hb ((hX.2.2.2.2.1 9 _ rfl).2.1 0 (by decide)).2.2.1 hS1 hown (hts _ k_15_170) (fun _ h => h) d_21_56_8 ?_
  refine W.eq (g2 := F0 m 11 ls [.ref (av 9)]) rfl ?_
  refine lv_iload_n hx hb d_21_56_11 rfl (lv_at hl 1 rfl) ?_
  have hFc2 := va_free (wc := []) hD1 hS1 hA [] rfl
  refine va_calli (va_runS (As := [.ref (av 9), .int 0]) (rest := []) ⟨hx, hb, hml, hown, hts⟩ (c_StringLatin1_charAt_27 l D ca ad av H1.size  ) (va_cwS 2 hts (gdS k_7_137 k_7_138 k_1_12 k_7_139) rfl rfl rfl (by decide +kernel) ⟨Nat.le_of_ble_eq_true rfl, Nat.le_of_ble_eq_true rfl⟩) (gPS hP1 hD1 hK hS1 hA hX [] (by decide) rfl [.ref (av 9), .int 0]) rfl rfl hl.1 rfl (lv_room (Nat.le_of_ble_eq_true rfl)) d_21_56_12 ⟨Nat.le_of_ble_eq_true rfl, Nat.le_of_ble_eq_true rfl⟩) hS1 (fun q _ h => hFc2 q h) hFc2 (fun r2 u2 t2 H2 locs2 ht2 hvm2 hw2 hB2 hz2 hk2 hS2 => ?_)
  have hr2 := hw2
  obtain ⟨hP2, hD2⟩ := gJoin (wr := []) (w1 := []) hP1 hD1 [] [] rfl rfl (by decide) (by decide) hk2 hFc2 ht2 hB2
  have hP2 : va_P D cls [] H2 := hP2
  have hD2 : va_D A [] := hD2
  refine W.widen (k := 0) (n := 0) (Nat.le_of_ble_eq_true rfl) (Nat.le_of_ble_eq_true rfl) ?_
  subst hr2
  have hP9 := hP2.sub (ws' := []) [] rfl
  have hD9 := hD2.sub (ws' := []) [] (by decide) rfl
  refine W.widen (k := 0) (n := 0) (Nat.le_of_ble_eq_true rfl) (Nat.le_of_ble_eq_true rfl) ?_
  exact W.zret (v := 109) hx hb hr rfl (fun t ht hW => ⟨⟨109, (), rfl, rfl, by rw [ht]; exact hP9, va_K.moved hW.alike hK, hD9⟩, hS2.F ht⟩) hS2.2.2 d_21_56_15
abbrev Q_StringLatin1_charAt_28 (D : va_G) (ca : Nat → ClassId)  (A : Nat → Prop) : Array Value → State → Outcome → State → Prop := va_Qi (S := Unit) (fun (r : Int32) (u : Unit) => r = 102) (fun u => gB D ca A []) A
set_option maxHeartbeats 8000000 in
set_option maxRecDepth 100000 in
theorem c_StringLatin1_charAt_28 (l : Launch) (D : va_G) (ca : Nat → ClassId) (ad av : Nat → Nat) (sz : Nat)   : Met l ({ cls := "java/lang/StringLatin1", name := "charAt", desc := "([BI)C" } : Jvm.MethodName) (Cond.code ({ cls := "java/lang/StringLatin1", name := "charAt", desc := "([BI)C" } : Jvm.MethodName) prog_22_method_2_code 2 (Option.some Jvm.ClassFile.FieldType.char) :: wAll) ({ frames := 2, cells := 0, slots := 0, locals := 43 } : Room) (va_Pc [.ref (av 9), .int 1] (gPre D ca ad av [] sz)) (Q_StringLatin1_charAt_28 D ca  (va_A [] sz)) 0 0 (va_A [] sz) := by
  refine gMet (Qc := Q_StringLatin1_charAt_28 D ca ) (lv := [(0, .ref (av 9)), (1, .int 1)]) (by decide) (Nat.le_of_ble_eq_true rfl) rfl (fun A p e s m below meth c ls hx hb hr hml hown hts hlk hnm hl hP hK hD hS hA hX => ?_)
  have hown : s.vm.findClass "java/lang/StringLatin1" = some m.cls := hown
  have hnm : meth.name = "charAt" := hnm
  refine lv_iload_n hx hb d_22_2_0 rfl (lv_at hl 1 rfl) ?_
  refine lv_aload_n hx hb d_22_2_1 rfl (lv_at hl 0 rfl) ?_
  refine va_tlen (v := 2) hx hb ((hX.2.2.2.2.1 9 _ rfl).2.1 0 (by decide)).2.2.2 hS (by decide) d_22_2_2 ?_
  have hFc1 := va_free (wc := []) hD hS hA [] rfl
  refine va_callv (va_runS (As := [.int 1, .int 2]) (rest := []) ⟨hx, hb, hml, hown, hts⟩ (c_String_checkIndex_19 l D ca ad av s.heap.size  ) (va_cwS 2 hts (gdS k_7_140 k_7_141 k_1_11 k_7_142) rfl rfl rfl (by decide +kernel) ⟨Nat.le_of_ble_eq_true rfl, Nat.le_of_ble_eq_true rfl⟩) (gPS hP hD hK hS hA hX [] (by decide) rfl [.int 1, .int 2]) rfl rfl hl.1 rfl (lv_room (Nat.le_of_ble_eq_true rfl)) d_22_2_3 ⟨Nat.le_of_ble_eq_true rfl, Nat.le_of_ble_eq_true rfl⟩) hS (fun q _ h => hFc1 q h) hFc1 (fun u1 t1 H1 locs1 ht1 hvm1 hw1 hB1 hz1 hk1 hS1 => ?_)
  obtain ⟨hP1, hD1⟩ := gJoin (wr := []) (w1 := []) hP hD [] [] rfl rfl (by decide) (by decide) hk1 hFc1 ht1 hB1
  have hP1 : va_P D cls [] H1 := hP1
  have hD1 : va_D A [] := hD1
  refine W.widen (k := 0) (n := 0) (Nat.le_of_ble_eq_true rfl) (Nat.le_of_ble_eq_true rfl) ?_
  refine lv_aload_n hx hb d_22_2_6 rfl (lv_at hl 0 rfl) ?_
  refine lv_iload_n hx hb d_22_2_7 rfl (lv_at hl 1 rfl) ?_
  refine va_tb (v := .int 102) hx hb ((hX.2.2.2.2.1 9 _ rfl).2.1 0 (by decide)).2.2.2 hS1 (vinC (by decide)) rfl d_22_2_8 ?_
  refine lv_sipush (v := 255) hx hb d_22_2_9 (by decide) ?_
  refine lv_iand hx hb d_22_2_12 ?_
  refine lv_topi (fun y2 ey2 => ?_)
  obtain rfl : y2 = 102 := ey2.trans (by decide)
  refine lv_i2c hx hb d_22_2_13 rfl ?_
  refine lv_topi (fun y3 ey3 => ?_)
  obtain rfl : y3 = 102 := ey3.trans (by decide)
  have hP9 := hP1.sub (ws' := []) [] rfl
  have hD9 := hD1.sub (ws' := []) [] (by decide) rfl
  refine W.widen (k := 0) (n := 0) (Nat.le_of_ble_eq_true rfl) (Nat.le_of_ble_eq_true rfl) ?_
  exact W.zret (v := 102) hx hb hr rfl (fun t ht hW => ⟨⟨102, (), rfl, rfl, by rw [ht]; exact hP9, va_K.moved hW.alike hK, hD9⟩, hS1.F ht⟩) hS1.2.2 d_22_2_14
abbrev Q_String_charAt_28 (D : va_G) (ca : Nat → ClassId)  (A : Nat → Prop) : Array Value → State → Outcome → State → Prop := va_Qi (S := Unit) (fun (r : Int32) (u : Unit) => r = 102) (fun u => gB D ca A []) A
set_option maxHeartbeats 8000000 in
set_option maxRecDepth 100000 in
theorem c_String_charAt_28 (l : Launch) (D : va_G) (ca : Nat → ClassId) (ad av : Nat → Nat) (sz : Nat)   : Met l ({ cls := "java/lang/String", name := "charAt", desc := "(I)C" } : Jvm.MethodName) (Cond.code ({ cls := "java/lang/String", name := "charAt", desc := "(I)C" } : Jvm.MethodName) prog_21_method_56_code 2 (Option.some Jvm.ClassFile.FieldType.char) :: wAll) ({ frames := 3, cells := 0, slots := 0, locals := 64 } : Room) (va_Pc [.ref (ad 9), .int 1] (gPre D ca ad av [] sz)) (Q_String_charAt_28 D ca  (va_A [] sz)) 0 0 (va_A [] sz) := by
  refine gMet (Qc := Q_String_charAt_28 D ca ) (lv := [(0, .ref (ad 9)), (1, .int 1)]) (by decide) (Nat.le_of_ble_eq_true rfl) rfl (fun A p e s m below meth c ls hx hb hr hml hown hts hlk hnm hl hP hK hD hS hA hX => ?_)
  have hown : s.vm.findClass "java/lang/String" = some m.cls := hown
  have hnm : meth.name = "charAt" := hnm
  refine lv_aload_n hx hb d_21_56_0 rfl (lv_at hl 0 rfl) ?_
  have hFc1 := va_free (wc := []) hD hS hA [] rfl
  refine va_calli (va_runV (As := []) (rest := []) ⟨hx, hb, hml, hown, hts⟩ (c_String_isLatin1_8 l D ca ad av s.heap.size  ) (cwV 0 hts (gdV k_3_75 k_3_76 k_3_77 k_1_11 k_3_78) rfl rfl rfl (by decide +kernel) ⟨Nat.le_of_ble_eq_true rfl, Nat.le_of_ble_eq_true rfl⟩) ⟨gBlind, vk_recv (i := 0) (hX.2.2.2.2.1 9 _ rfl).2 (by decide) hS, gAt hP hD hK hS hA hX [] (by decide) rfl [.ref (ad 9)]⟩ rfl rfl hl.1 rfl (lv_room (Nat.le_of_ble_eq_true rfl)) d_21_56_1 ⟨Nat.le_of_ble_eq_true rfl, Nat.le_of_ble_eq_true rfl⟩) hS (fun q _ h => hFc1 q h) hFc1 (fun r1 u1 t1 H1 locs1 ht1 hvm1 hw1 hB1 hz1 hk1 hS1 => ?_)
  have hr1 := hw1
  obtain ⟨hP1, hD1⟩ := gJoin (wr := []) (w1 := []) hP hD [] [] rfl rfl (by decide) (by decide) hk1 hFc1 ht1 hB1
  have hP1 : va_P D cls [] H1 := hP1
  have hD1 : va_D A [] := hD1
  refine W.widen (k := 0) (n := 0) (Nat.le_of_ble_eq_true rfl) (Nat.le_of_ble_eq_true rfl) ?_
  subst hr1
  refine lv_if_eq (tgt := 16) hx hb d_21_56_4 (by decide) (fun c => absurd c (by decide)) (fun _ => ?_)
  refine lv_aload_n hx hb d_21_56_7 rfl (lv_at hl 0 rfl) ?_
  refine vk_getf hx hb ((hX.2.2.2.2.1 9 _ rfl).2.1 0 (by decide)).2.2.1 hS1 hown (hts _ k_15_170) (fun _ h => h) d_21_56_8 ?_
  refine W.eq (g2 := F0 m 11 ls [.ref (av 9)]) rfl ?_
  refine lv_iload_n hx hb d_21_56_11 rfl (lv_at hl 1 rfl) ?_
  have hFc2 := va_free (wc := []) hD1 hS1 hA [] rfl
  refine va_calli (va_runS (As := [.ref (av 9), .int 1]) (rest := []) ⟨hx, hb, hml, hown, hts⟩ (c_StringLatin1_charAt_28 l D ca ad av H1.size  ) (va_cwS 2 hts (gdS k_7_137 k_7_138 k_1_12 k_7_139) rfl rfl rfl (by decide +kernel) ⟨Nat.le_of_ble_eq_true rfl, Nat.le_of_ble_eq_true rfl⟩) (gPS hP1 hD1 hK hS1 hA hX [] (by decide) rfl [.ref (av 9), .int 1]) rfl rfl hl.1 rfl (lv_room (Nat.le_of_ble_eq_true rfl)) d_21_56_12 ⟨Nat.le_of_ble_eq_true rfl, Nat.le_of_ble_eq_true rfl⟩) hS1 (fun q _ h => hFc2 q h) hFc2 (fun r2 u2 t2 H2 locs2 ht2 hvm2 hw2 hB2 hz2 hk2 hS2 => ?_)
  have hr2 := hw2
  obtain ⟨hP2, hD2⟩ := gJoin (wr := []) (w1 := []) hP1 hD1 [] [] rfl rfl (by decide) (by decide) hk2 hFc2 ht2 hB2
  have hP2 : va_P D cls [] H2 := hP2
  have hD2 : va_D A [] := hD2
  refine W.widen (k := 0) (n := 0) (Nat.le_of_ble_eq_true rfl) (Nat.le_of_ble_eq_true rfl) ?_
  subst hr2
  have hP9 := hP2.sub (ws' := []) [] rfl
  have hD9 := hD2.sub (ws' := []) [] (by decide) rfl
  refine W.widen (k := 0) (n := 0) (Nat.le_of_ble_eq_true rfl) (Nat.le_of_ble_eq_true rfl) ?_
  exact W.zret (v := 102) hx hb hr rfl (fun t ht hW => ⟨⟨102, (), rfl, rfl, by rw [ht]; exact hP9, va_K.moved hW.alike hK, hD9⟩, hS2.F ht⟩) hS2.2.2 d_21_56_15
abbrev Q_M_code_8 (D : va_G) (ca : Nat → ClassId)  (A : Nat → Prop) : Array Value → State → Outcome → State → Prop := va_Ql (S := Unit) (fun (r : Int64) (u : Unit) => r = 28006) (fun u => gB D ca A []) A
set_option maxHeartbeats 8000000 in
set_option maxRecDepth 100000 in
theorem c_M_code_8 (l : Launch) (D : va_G) (ca : Nat → ClassId) (ad av : Nat → Nat) (sz : Nat)   : Met l ({ cls := "StaveHouseModel", name := "code", desc := "(Ljava/lang/String;)J" } : Jvm.MethodName) (Cond.code ({ cls := "StaveHouseModel", name := "code", desc := "(Ljava/lang/String;)J" } : Jvm.MethodName) prog_15_method_24_code 4 (Option.some Jvm.ClassFile.FieldType.long) :: wAll) ({ frames := 4, cells := 0, slots := 0, locals := 85 } : Room) (va_Pc [.ref (ad 9)] (gPre D ca ad av [] sz)) (Q_M_code_8 D ca  (va_A [] sz)) 0 0 (va_A [] sz) := by
  refine gMet (Qc := Q_M_code_8 D ca ) (lv := [(0, .ref (ad 9))]) (by decide) (Nat.le_of_ble_eq_true rfl) rfl (fun A p e s m below meth c ls hx hb hr hml hown hts hlk hnm hl hP hK hD hS hA hX => ?_)
  have hown : s.vm.findClass "StaveHouseModel" = some m.cls := hown
  have hnm : meth.name = "code" := hnm
  refine lv_lconst (v := 0) hx hb d_15_24_0 (by decide) ?_
  refine lv_lstore_n (lv' := [(1, .long 0), (0, .ref (ad 9))]) hx hb d_15_24_1 rfl hl (by decide) rfl (fun ls hl => ?_)
  refine lv_iconst (v := 0) hx hb d_15_24_2 (by decide) ?_
  refine lv_istore_n (lv' := [(3, .int 0), (1, .long 0), (0, .ref (ad 9))]) hx hb d_15_24_3 rfl hl (by decide) rfl (fun ls hl => ?_)
  refine lv_iload_n hx hb d_15_24_4 rfl (lv_at hl 0 rfl) ?_
  refine lv_aload_n hx hb d_15_24_5 rfl (lv_at hl 2 rfl) ?_
  have hFc1 := va_free (wc := []) hD hS hA [] rfl
  refine va_calli (va_runV (As := []) (rest := [.int 0]) ⟨hx, hb, hml, hown, hts⟩ (c_String_length_8 l D ca ad av s.heap.size  ) (cwV 0 hts (gdV k_10_194 k_3_82 k_3_83 k_1_11 k_3_84) rfl rfl rfl (by decide +kernel) ⟨Nat.le_of_ble_eq_true rfl, Nat.le_of_ble_eq_true rfl⟩) ⟨gBlind, vk_recv (i := 0) (hX.2.2.2.2.1 9 _ rfl).2 (by decide) hS, gAt hP hD hK hS hA hX [] (by decide) rfl [.ref (ad 9)]⟩ rfl rfl hl.1 rfl (lv_room (Nat.le_of_ble_eq_true rfl)) d_15_24_6 ⟨Nat.le_of_ble_eq_true rfl, Nat.le_of_ble_eq_true rfl⟩) hS (fun q _ h => hFc1 q h) hFc1 (fun r1 u1 t1 H1 locs1 ht1 hvm1 hw1 hB1 hz1 hk1 hS1 => ?_)
  have hr1 := hw1
  obtain ⟨hP1, hD1⟩ := gJoin (wr := []) (w1 := []) hP hD [] [] rfl rfl (by decide) (by decide) hk1 hFc1 ht1 hB1
  have hP1 : va_P D cls [] H1 := hP1
  have hD1 : va_D A [] := hD1
  refine W.widen (k := 0) (n := 0) (Nat.le_of_ble_eq_true rfl) (Nat.le_of_ble_eq_true rfl) ?_
  subst hr1
  refine lv_icmp_ge (tgt := 30) hx hb d_15_24_9 (by decide) (fun c => absurd c (by decide)) (fun _ => ?_)
  refine lv_lload_n hx hb d_15_24_12 rfl (lv_at hl 1 rfl) ?_
  refine lv_bipush (v := 8) hx hb d_15_24_13 (by decide) ?_
  refine lv_lshl hx hb d_15_24_15 rfl ?_
  refine lv_topl (fun y2 ey2 => ?_)
  obtain rfl : y2 = 0 := ey2.trans (by decide)
  refine lv_aload_n hx hb d_15_24_16 rfl (lv_at hl 2 rfl) ?_
  refine lv_iload_n hx hb d_15_24_17 rfl (lv_at hl 0 rfl) ?_
  have hFc3 := va_free (wc := []) hD1 hS1 hA [] rfl
  refine va_calli (va_runV (As := [.int 0]) (rest := [.long 0]) ⟨hx, hb, hml, hown, hts⟩ (c_String_charAt_27 l D ca ad av H1.size  ) (cwV 1 hts (gdV k_10_195 k_7_134 k_7_135 k_1_11 k_7_136) rfl rfl rfl (by decide +kernel) ⟨Nat.le_of_ble_eq_true rfl, Nat.le_of_ble_eq_true rfl⟩) ⟨gBlind, vk_recv (i := 0) (hX.2.2.2.2.1 9 _ rfl).2 (by decide) hS1, gAt hP1 hD1 hK hS1 hA hX [] (by decide) rfl [.ref (ad 9), .int 0]⟩ rfl rfl hl.1 rfl (lv_room (Nat.le_of_ble_eq_true rfl)) d_15_24_18 ⟨Nat.le_of_ble_eq_true rfl, Nat.le_of_ble_eq_true rfl⟩) hS1 (fun q _ h => hFc3 q h) hFc3 (fun r3 u3 t3 H3 locs3 ht3 hvm3 hw3 hB3 hz3 hk3 hS3 => ?_)
  have hr3 := hw3
  obtain ⟨hP3, hD3⟩ := gJoin (wr := []) (w1 := []) hP1 hD1 [] [] rfl rfl (by decide) (by decide) hk3 hFc3 ht3 hB3
  have hP3 : va_P D cls [] H3 := hP3
  have hD3 : va_D A [] := hD3
  refine W.widen (k := 0) (n := 0) (Nat.le_of_ble_eq_true rfl) (Nat.le_of_ble_eq_true rfl) ?_
  subst hr3
  refine lv_i2l hx hb d_15_24_21 rfl ?_
  refine lv_topl (fun y4 ey4 => ?_)
  obtain rfl : y4 = 109 := ey4.trans (by decide)
  refine lv_lor hx hb d_15_24_22 ?_
  refine lv_topl (fun y5 ey5 => ?_)
  obtain rfl : y5 = 109 := ey5.trans (by decide)
  refine lv_lstore_n (lv' := [(1, .long 109), (3, .int 0), (0, .ref (ad 9))]) hx hb d_15_24_23 rfl hl (by decide) rfl (fun ls hl => ?_)
  refine lv_iinc (v := 1) (lv' := [(3, .int 1), (1, .long 109), (0, .ref (ad 9))]) hx hb d_15_24_24 hl (k := 1) rfl (by decide) (by decide) rfl (fun ls hl => ?_)
  refine lv_goto (tgt := 4) hx hb d_15_24_27 (by decide) ?_
  refine lv_iload_n hx hb d_15_24_4 rfl (lv_at hl 0 rfl) ?_
  refine lv_aload_n hx hb d_15_24_5 rfl (lv_at hl 2 rfl) ?_
  have hFc6 := va_free (wc := []) hD3 hS3 hA [] rfl
  refine va_calli (va_runV (As := []) (rest := [.int 1]) ⟨hx, hb, hml, hown, hts⟩ (c_String_length_8 l D ca ad av H3.size  ) (cwV 0 hts (gdV k_10_194 k_3_82 k_3_83 k_1_11 k_3_84) rfl rfl rfl (by decide +kernel) ⟨Nat.le_of_ble_eq_true rfl, Nat.le_of_ble_eq_true rfl⟩) ⟨gBlind, vk_recv (i := 0) (hX.2.2.2.2.1 9 _ rfl).2 (by decide) hS3, gAt hP3 hD3 hK hS3 hA hX [] (by decide) rfl [.ref (ad 9)]⟩ rfl rfl hl.1 rfl (lv_room (Nat.le_of_ble_eq_true rfl)) d_15_24_6 ⟨Nat.le_of_ble_eq_true rfl, Nat.le_of_ble_eq_true rfl⟩) hS3 (fun q _ h => hFc6 q h) hFc6 (fun r6 u6 t6 H6 locs6 ht6 hvm6 hw6 hB6 hz6 hk6 hS6 => ?_)
  have hr6 := hw6
  obtain ⟨hP6, hD6⟩ := gJoin (wr := []) (w1 := []) hP3 hD3 [] [] rfl rfl (by decide) (by decide) hk6 hFc6 ht6 hB6
  have hP6 : va_P D cls [] H6 := hP6
  have hD6 : va_D A [] := hD6
  refine W.widen (k := 0) (n := 0) (Nat.le_of_ble_eq_true rfl) (Nat.le_of_ble_eq_true rfl) ?_
  subst hr6
  refine lv_icmp_ge (tgt := 30) hx hb d_15_24_9 (by decide) (fun c => absurd c (by decide)) (fun _ => ?_)
  refine lv_lload_n hx hb d_15_24_12 rfl (lv_at hl 1 rfl) ?_
  refine lv_bipush (v := 8) hx hb d_15_24_13 (by decide) ?_
  refine lv_lshl hx hb d_15_24_15 rfl ?_
  refine lv_topl (fun y7 ey7 => ?_)
  obtain rfl : y7 = 27904 := ey7.trans (by decide)
  refine lv_aload_n hx hb d_15_24_16 rfl (lv_at hl 2 rfl) ?_
  refine lv_iload_n hx hb d_15_24_17 rfl (lv_at hl 0 rfl) ?_
  have hFc8 := va_free (wc := []) hD6 hS6 hA [] rfl
  refine va_calli (va_runV (As := [.int 1]) (rest := [.long 27904]) ⟨hx, hb, hml, hown, hts⟩ (c_String_charAt_28 l D ca ad av H6.size  ) (cwV 1 hts (gdV k_10_195 k_7_134 k_7_135 k_1_11 k_7_136) rfl rfl rfl (by decide +kernel) ⟨Nat.le_of_ble_eq_true rfl, Nat.le_of_ble_eq_true rfl⟩) ⟨gBlind, vk_recv (i := 0) (hX.2.2.2.2.1 9 _ rfl).2 (by decide) hS6, gAt hP6 hD6 hK hS6 hA hX [] (by decide) rfl [.ref (ad 9), .int 1]⟩ rfl rfl hl.1 rfl (lv_room (Nat.le_of_ble_eq_true rfl)) d_15_24_18 ⟨Nat.le_of_ble_eq_true rfl, Nat.le_of_ble_eq_true rfl⟩) hS6 (fun q _ h => hFc8 q h) hFc8 (fun r8 u8 t8 H8 locs8 ht8 hvm8 hw8 hB8 hz8 hk8 hS8 => ?_)
  have hr8 := hw8
  obtain ⟨hP8, hD8⟩ := gJoin (wr := []) (w1 := []) hP6 hD6 [] [] rfl rfl (by decide) (by decide) hk8 hFc8 ht8 hB8
  have hP8 : va_P D cls [] H8 := hP8
  have hD8 : va_D A [] := hD8
  refine W.widen (k := 0) (n := 0) (Nat.le_of_ble_eq_true rfl) (Nat.le_of_ble_eq_true rfl) ?_
  subst hr8
  refine lv_i2l hx hb d_15_24_21 rfl ?_
  refine lv_topl (fun y9 ey9 => ?_)
  obtain rfl : y9 = 102 := ey9.trans (by decide)
  refine lv_lor hx hb d_15_24_22 ?_
  refine lv_topl (fun y10 ey10 => ?_)
  obtain rfl : y10 = 28006 := ey10.trans (by decide)
  refine lv_lstore_n (lv' := [(1, .long 28006), (3, .int 1), (0, .ref (ad 9))]) hx hb d_15_24_23 rfl hl (by decide) rfl (fun ls hl => ?_)
  refine lv_iinc (v := 2) (lv' := [(3, .int 2), (1, .long 28006), (0, .ref (ad 9))]) hx hb d_15_24_24 hl (k := 1) rfl (by decide) (by decide) rfl (fun ls hl => ?_)
  refine lv_goto (tgt := 4) hx hb d_15_24_27 (by decide) ?_
  refine lv_iload_n hx hb d_15_24_4 rfl (lv_at hl 0 rfl) ?_
  refine lv_aload_n hx hb d_15_24_5 rfl (lv_at hl 2 rfl) ?_
  have hFc11 := va_free (wc := []) hD8 hS8 hA [] rfl
  refine va_calli (va_runV (As := []) (rest := [.int 2]) ⟨hx, hb, hml, hown, hts⟩ (c_String_length_8 l D ca ad av H8.size  ) (cwV 0 hts (gdV k_10_194 k_3_82 k_3_83 k_1_11 k_3_84) rfl rfl rfl (by decide +kernel) ⟨Nat.le_of_ble_eq_true rfl, Nat.le_of_ble_eq_true rfl⟩) ⟨gBlind, vk_recv (i := 0) (hX.2.2.2.2.1 9 _ rfl).2 (by decide) hS8, gAt hP8 hD8 hK hS8 hA hX [] (by decide) rfl [.ref (ad 9)]⟩ rfl rfl hl.1 rfl (lv_room (Nat.le_of_ble_eq_true rfl)) d_15_24_6 ⟨Nat.le_of_ble_eq_true rfl, Nat.le_of_ble_eq_true rfl⟩) hS8 (fun q _ h => hFc11 q h) hFc11 (fun r11 u11 t11 H11 locs11 ht11 hvm11 hw11 hB11 hz11 hk11 hS11 => ?_)
  have hr11 := hw11
  obtain ⟨hP11, hD11⟩ := gJoin (wr := []) (w1 := []) hP8 hD8 [] [] rfl rfl (by decide) (by decide) hk11 hFc11 ht11 hB11
  have hP11 : va_P D cls [] H11 := hP11
  have hD11 : va_D A [] := hD11
  refine W.widen (k := 0) (n := 0) (Nat.le_of_ble_eq_true rfl) (Nat.le_of_ble_eq_true rfl) ?_
  subst hr11
  refine lv_icmp_ge (tgt := 30) hx hb d_15_24_9 (by decide) (fun _ => ?_) (fun c => absurd (by decide) c)
  refine lv_lload_n hx hb d_15_24_30 rfl (lv_at hl 1 rfl) ?_
  have hP9 := hP11.sub (ws' := []) [] rfl
  have hD9 := hD11.sub (ws' := []) [] (by decide) rfl
  refine W.widen (k := 0) (n := 0) (Nat.le_of_ble_eq_true rfl) (Nat.le_of_ble_eq_true rfl) ?_
  exact W.lret (v := 28006) hx hb hr (fun t ht hW => ⟨⟨28006, (), rfl, rfl, by rw [ht]; exact hP9, va_K.moved hW.alike hK, hD9⟩, hS11.F ht⟩) hS11.2.2 d_15_24_31
abbrev Q_String_coder_9 (D : va_G) (ca : Nat → ClassId)  (A : Nat → Prop) : Array Value → State → Outcome → State → Prop := va_Qi (S := Unit) (fun (r : Int32) (u : Unit) => r = 0) (fun u => gB D ca A []) A
set_option maxHeartbeats 8000000 in
set_option maxRecDepth 100000 in
theorem c_String_coder_9 (l : Launch) (D : va_G) (ca : Nat → ClassId) (ad av : Nat → Nat) (sz : Nat)   : Met l ({ cls := "java/lang/String", name := "coder", desc := "()B" } : Jvm.MethodName) (Cond.code ({ cls := "java/lang/String", name := "coder", desc := "()B" } : Jvm.MethodName) prog_21_method_152_code 1 (Option.some Jvm.ClassFile.FieldType.byte) :: wAll) ({ frames := 0, cells := 0, slots := 0, locals := 0 } : Room) (va_Pc [.ref (ad 10)] (gPre D ca ad av [] sz)) (Q_String_coder_9 D ca  (va_A [] sz)) 0 0 (va_A [] sz) := by
  refine gMet (Qc := Q_String_coder_9 D ca ) (lv := [(0, .ref (ad 10))]) (by decide) (Nat.le_of_ble_eq_true rfl) rfl (fun A p e s m below meth c ls hx hb hr hml hown hts hlk hnm hl hP hK hD hS hA hX => ?_)
  have hown : s.vm.findClass "java/lang/String" = some m.cls := hown
  have hnm : meth.name = "coder" := hnm
  refine va_gets hx hb (hX.2.2.2.1 _ (List.mem_of_getElem? (i := 0) rfl)) hS hown (hts _ k_3_79) (fun _ h => h) d_21_152_0 ?_
  refine lv_if_eq (tgt := 13) hx hb d_21_152_3 (by decide) (fun c => absurd c (by decide)) (fun _ => ?_)
  refine lv_aload_n hx hb d_21_152_6 rfl (lv_at hl 0 rfl) ?_
  refine vk_getf hx hb ((hX.2.2.2.2.1 10 _ rfl).2.1 0 (by decide)).2.1 hS hown (hts _ k_15_171) (fun _ h => h) d_21_152_7 ?_
  refine W.eq (g2 := F0 m 10 ls [.int 0]) rfl ?_
  refine lv_goto (tgt := 14) hx hb d_21_152_10 (by decide) ?_
  have hP9 := hP.sub (ws' := []) [] rfl
  have hD9 := hD.sub (ws' := []) [] (by decide) rfl
  refine W.widen (k := 0) (n := 0) (Nat.le_of_ble_eq_true rfl) (Nat.le_of_ble_eq_true rfl) ?_
  exact W.zret (v := 0) hx hb hr rfl (fun t ht hW => ⟨⟨0, (), rfl, rfl, by rw [ht]; exact hP9, va_K.moved hW.alike hK, hD9⟩, hS.F ht⟩) hS.2.2 d_21_152_14
abbrev Q_String_length_9 (D : va_G) (ca : Nat → ClassId)  (A : Nat → Prop) : Array Value → State → Outcome → State → Prop := va_Qi (S := Unit) (fun (r : Int32) (u : Unit) => r = 1) (fun u => gB D ca A []) A
set_option maxHeartbeats 8000000 in
set_option maxRecDepth 100000 in
theorem c_String_length_9 (l : Launch) (D : va_G) (ca : Nat → ClassId) (ad av : Nat → Nat) (sz : Nat)   : Met l ({ cls := "java/lang/String", name := "length", desc := "()I" } : Jvm.MethodName) (Cond.code ({ cls := "java/lang/String", name := "length", desc := "()I" } : Jvm.MethodName) prog_21_method_54_code 1 (Option.some Jvm.ClassFile.FieldType.int) :: wAll) ({ frames := 1, cells := 0, slots := 0, locals := 20 } : Room) (va_Pc [.ref (ad 10)] (gPre D ca ad av [] sz)) (Q_String_length_9 D ca  (va_A [] sz)) 0 0 (va_A [] sz) := by
  refine gMet (Qc := Q_String_length_9 D ca ) (lv := [(0, .ref (ad 10))]) (by decide) (Nat.le_of_ble_eq_true rfl) rfl (fun A p e s m below meth c ls hx hb hr hml hown hts hlk hnm hl hP hK hD hS hA hX => ?_)
  have hown : s.vm.findClass "java/lang/String" = some m.cls := hown
  have hnm : meth.name = "length" := hnm
  refine lv_aload_n hx hb d_21_54_0 rfl (lv_at hl 0 rfl) ?_
  refine vk_getf hx hb ((hX.2.2.2.2.1 10 _ rfl).2.1 0 (by decide)).2.2.1 hS hown (hts _ k_15_170) (fun _ h => h) d_21_54_1 ?_
  refine W.eq (g2 := F0 m 4 ls [.ref (av 10)]) rfl ?_
  refine va_tlen (v := 1) hx hb ((hX.2.2.2.2.1 10 _ rfl).2.1 0 (by decide)).2.2.2 hS (by decide) d_21_54_4 ?_
  refine lv_aload_n hx hb d_21_54_5 rfl (lv_at hl 0 rfl) ?_
  have hFc1 := va_free (wc := []) hD hS hA [] rfl
  refine va_calli (va_runV (As := []) (rest := [.int 1]) ⟨hx, hb, hml, hown, hts⟩ (c_String_coder_9 l D ca ad av s.heap.size  ) (cwV 0 hts (gdV k_3_85 k_3_86 k_3_87 k_1_11 k_3_88) rfl rfl rfl (by decide +kernel) ⟨Nat.le_of_ble_eq_true rfl, Nat.le_of_ble_eq_true rfl⟩) ⟨gBlind, vk_recv (i := 0) (hX.2.2.2.2.1 10 _ rfl).2 (by decide) hS, gAt hP hD hK hS hA hX [] (by decide) rfl [.ref (ad 10)]⟩ rfl rfl hl.1 rfl (lv_room (Nat.le_of_ble_eq_true rfl)) d_21_54_6 ⟨Nat.le_of_ble_eq_true rfl, Nat.le_of_ble_eq_true rfl⟩) hS (fun q _ h => hFc1 q h) hFc1 (fun r1 u1 t1 H1 locs1 ht1 hvm1 hw1 hB1 hz1 hk1 hS1 => ?_)
  have hr1 := hw1
  obtain ⟨hP1, hD1⟩ := gJoin (wr := []) (w1 := []) hP hD [] [] rfl rfl (by decide) (by decide) hk1 hFc1 ht1 hB1
  have hP1 : va_P D cls [] H1 := hP1
  have hD1 : va_D A [] := hD1
  refine W.widen (k := 0) (n := 0) (Nat.le_of_ble_eq_true rfl) (Nat.le_of_ble_eq_true rfl) ?_
  subst hr1
  refine lv_ishr hx hb d_21_54_9 ?_
  refine lv_topi (fun y2 ey2 => ?_)
  obtain rfl : y2 = 1 := ey2.trans (by decide)
  have hP9 := hP1.sub (ws' := []) [] rfl
  have hD9 := hD1.sub (ws' := []) [] (by decide) rfl
  refine W.widen (k := 0) (n := 0) (Nat.le_of_ble_eq_true rfl) (Nat.le_of_ble_eq_true rfl) ?_
  exact W.iret (v := 1) hx hb hr (fun t ht hW => ⟨⟨1, (), rfl, rfl, by rw [ht]; exact hP9, va_K.moved hW.alike hK, hD9⟩, hS1.F ht⟩) hS1.2.2 d_21_54_10
abbrev Q_String_isLatin1_9 (D : va_G) (ca : Nat → ClassId)  (A : Nat → Prop) : Array Value → State → Outcome → State → Prop := va_Qi (S := Unit) (fun (r : Int32) (u : Unit) => r = 1) (fun u => gB D ca A []) A
set_option maxHeartbeats 8000000 in
set_option maxRecDepth 100000 in
theorem c_String_isLatin1_9 (l : Launch) (D : va_G) (ca : Nat → ClassId) (ad av : Nat → Nat) (sz : Nat)   : Met l ({ cls := "java/lang/String", name := "isLatin1", desc := "()Z" } : Jvm.MethodName) (Cond.code ({ cls := "java/lang/String", name := "isLatin1", desc := "()Z" } : Jvm.MethodName) prog_21_method_154_code 1 (Option.some Jvm.ClassFile.FieldType.boolean) :: wAll) ({ frames := 0, cells := 0, slots := 0, locals := 0 } : Room) (va_Pc [.ref (ad 10)] (gPre D ca ad av [] sz)) (Q_String_isLatin1_9 D ca  (va_A [] sz)) 0 0 (va_A [] sz) := by
  refine gMet (Qc := Q_String_isLatin1_9 D ca ) (lv := [(0, .ref (ad 10))]) (by decide) (Nat.le_of_ble_eq_true rfl) rfl (fun A p e s m below meth c ls hx hb hr hml hown hts hlk hnm hl hP hK hD hS hA hX => ?_)
  have hown : s.vm.findClass "java/lang/String" = some m.cls := hown
  have hnm : meth.name = "isLatin1" := hnm
  refine va_gets hx hb (hX.2.2.2.1 _ (List.mem_of_getElem? (i := 0) rfl)) hS hown (hts _ k_3_79) (fun _ h => h) d_21_154_0 ?_
  refine lv_if_eq (tgt := 17) hx hb d_21_154_3 (by decide) (fun c => absurd c (by decide)) (fun _ => ?_)
  refine lv_aload_n hx hb d_21_154_6 rfl (lv_at hl 0 rfl) ?_
  refine vk_getf hx hb ((hX.2.2.2.2.1 10 _ rfl).2.1 0 (by decide)).2.1 hS hown (hts _ k_15_171) (fun _ h => h) d_21_154_7 ?_
  refine W.eq (g2 := F0 m 10 ls [.int 0]) rfl ?_
  refine lv_if_ne (tgt := 17) hx hb d_21_154_10 (by decide) (fun c => absurd c (by decide)) (fun _ => ?_)
  refine lv_iconst (v := 1) hx hb d_21_154_13 (by decide) ?_
  refine lv_goto (tgt := 18) hx hb d_21_154_14 (by decide) ?_
  have hP9 := hP.sub (ws' := []) [] rfl
  have hD9 := hD.sub (ws' := []) [] (by decide) rfl
  refine W.widen (k := 0) (n := 0) (Nat.le_of_ble_eq_true rfl) (Nat.le_of_ble_eq_true rfl) ?_
  exact W.zret (v := 1) hx hb hr rfl (fun t ht hW => ⟨⟨1, (), rfl, rfl, by rw [ht]; exact hP9, va_K.moved hW.alike hK, hD9⟩, hS.F ht⟩) hS.2.2 d_21_154_18
abbrev Q_StringLatin1_charAt_29 (D : va_G) (ca : Nat → ClassId)  (A : Nat → Prop) : Array Value → State → Outcome → State → Prop := va_Qi (S := Unit) (fun (r : Int32) (u : Unit) => r = 102) (fun u => gB D ca A []) A
set_option maxHeartbeats 8000000 in
set_option maxRecDepth 100000 in
theorem c_StringLatin1_charAt_29 (l : Launch) (D : va_G) (ca : Nat → ClassId) (ad av : Nat → Nat) (sz : Nat)   : Met l ({ cls := "java/lang/StringLatin1", name := "charAt", desc := "([BI)C" } : Jvm.MethodName) (Cond.code ({ cls := "java/lang/StringLatin1", name := "charAt", desc := "([BI)C" } : Jvm.MethodName) prog_22_method_2_code 2 (Option.some Jvm.ClassFile.FieldType.char) :: wAll) ({ frames := 2, cells := 0, slots := 0, locals := 43 } : Room) (va_Pc [.ref (av 10), .int 0] (gPre D ca ad av [] sz)) (Q_StringLatin1_charAt_29 D ca  (va_A [] sz)) 0 0 (va_A [] sz) := by
  refine gMet (Qc := Q_StringLatin1_charAt_29 D ca ) (lv := [(0, .ref (av 10)), (1, .int 0)]) (by decide) (Nat.le_of_ble_eq_true rfl) rfl (fun A p e s m below meth c ls hx hb hr hml hown hts hlk hnm hl hP hK hD hS hA hX => ?_)
  have hown : s.vm.findClass "java/lang/StringLatin1" = some m.cls := hown
  have hnm : meth.name = "charAt" := hnm
  refine lv_iload_n hx hb d_22_2_0 rfl (lv_at hl 1 rfl) ?_
  refine lv_aload_n hx hb d_22_2_1 rfl (lv_at hl 0 rfl) ?_
  refine va_tlen (v := 1) hx hb ((hX.2.2.2.2.1 10 _ rfl).2.1 0 (by decide)).2.2.2 hS (by decide) d_22_2_2 ?_
  have hFc1 := va_free (wc := []) hD hS hA [] rfl
  refine va_callv (va_runS (As := [.int 0, .int 1]) (rest := []) ⟨hx, hb, hml, hown, hts⟩ (c_String_checkIndex_20 l D ca ad av s.heap.size  ) (va_cwS 2 hts (gdS k_7_140 k_7_141 k_1_11 k_7_142) rfl rfl rfl (by decide +kernel) ⟨Nat.le_of_ble_eq_true rfl, Nat.le_of_ble_eq_true rfl⟩) (gPS hP hD hK hS hA hX [] (by decide) rfl [.int 0, .int 1]) rfl rfl hl.1 rfl (lv_room (Nat.le_of_ble_eq_true rfl)) d_22_2_3 ⟨Nat.le_of_ble_eq_true rfl, Nat.le_of_ble_eq_true rfl⟩) hS (fun q _ h => hFc1 q h) hFc1 (fun u1 t1 H1 locs1 ht1 hvm1 hw1 hB1 hz1 hk1 hS1 => ?_)
  obtain ⟨hP1, hD1⟩ := gJoin (wr := []) (w1 := []) hP hD [] [] rfl rfl (by decide) (by decide) hk1 hFc1 ht1 hB1
  have hP1 : va_P D cls [] H1 := hP1
  have hD1 : va_D A [] := hD1
  refine W.widen (k := 0) (n := 0) (Nat.le_of_ble_eq_true rfl) (Nat.le_of_ble_eq_true rfl) ?_
  refine lv_aload_n hx hb d_22_2_6 rfl (lv_at hl 0 rfl) ?_
  refine lv_iload_n hx hb d_22_2_7 rfl (lv_at hl 1 rfl) ?_
  refine va_tb (v := .int 102) hx hb ((hX.2.2.2.2.1 10 _ rfl).2.1 0 (by decide)).2.2.2 hS1 (vinC (by decide)) rfl d_22_2_8 ?_
  refine lv_sipush (v := 255) hx hb d_22_2_9 (by decide) ?_
  refine lv_iand hx hb d_22_2_12 ?_
  refine lv_topi (fun y2 ey2 => ?_)
  obtain rfl : y2 = 102 := ey2.trans (by decide)
  refine lv_i2c hx hb d_22_2_13 rfl ?_
  refine lv_topi (fun y3 ey3 => ?_)
  obtain rfl : y3 = 102 := ey3.trans (by decide)
  have hP9 := hP1.sub (ws' := []) [] rfl
  have hD9 := hD1.sub (ws' := []) [] (by decide) rfl
  refine W.widen (k := 0) (n := 0) (Nat.le_of_ble_eq_true rfl) (Nat.le_of_ble_eq_true rfl) ?_
  exact W.zret (v := 102) hx hb hr rfl (fun t ht hW => ⟨⟨102, (), rfl, rfl, by rw [ht]; exact hP9, va_K.moved hW.alike hK, hD9⟩, hS1.F ht⟩) hS1.2.2 d_22_2_14
abbrev Q_String_charAt_29 (D : va_G) (ca : Nat → ClassId)  (A : Nat → Prop) : Array Value → State → Outcome → State → Prop := va_Qi (S := Unit) (fun (r : Int32) (u : Unit) => r = 102) (fun u => gB D ca A []) A
set_option maxHeartbeats 8000000 in
set_option maxRecDepth 100000 in
theorem c_String_charAt_29 (l : Launch) (D : va_G) (ca : Nat → ClassId) (ad av : Nat → Nat) (sz : Nat)   : Met l ({ cls := "java/lang/String", name := "charAt", desc := "(I)C" } : Jvm.MethodName) (Cond.code ({ cls := "java/lang/String", name := "charAt", desc := "(I)C" } : Jvm.MethodName) prog_21_method_56_code 2 (Option.some Jvm.ClassFile.FieldType.char) :: wAll) ({ frames := 3, cells := 0, slots := 0, locals := 64 } : Room) (va_Pc [.ref (ad 10), .int 0] (gPre D ca ad av [] sz)) (Q_String_charAt_29 D ca  (va_A [] sz)) 0 0 (va_A [] sz) := by
  refine gMet (Qc := Q_String_charAt_29 D ca ) (lv := [(0, .ref (ad 10)), (1, .int 0)]) (by decide) (Nat.le_of_ble_eq_true rfl) rfl (fun A p e s m below meth c ls hx hb hr hml hown hts hlk hnm hl hP hK hD hS hA hX => ?_)
  have hown : s.vm.findClass "java/lang/String" = some m.cls := hown
  have hnm : meth.name = "charAt" := hnm
  refine lv_aload_n hx hb d_21_56_0 rfl (lv_at hl 0 rfl) ?_
  have hFc1 := va_free (wc := []) hD hS hA [] rfl
  refine va_calli (va_runV (As := []) (rest := []) ⟨hx, hb, hml, hown, hts⟩ (c_String_isLatin1_9 l D ca ad av s.heap.size  ) (cwV 0 hts (gdV k_3_75 k_3_76 k_3_77 k_1_11 k_3_78) rfl rfl rfl (by decide +kernel) ⟨Nat.le_of_ble_eq_true rfl, Nat.le_of_ble_eq_true rfl⟩) ⟨gBlind, vk_recv (i := 0) (hX.2.2.2.2.1 10 _ rfl).2 (by decide) hS, gAt hP hD hK hS hA hX [] (by decide) rfl [.ref (ad 10)]⟩ rfl rfl hl.1 rfl (lv_room (Nat.le_of_ble_eq_true rfl)) d_21_56_1 ⟨Nat.le_of_ble_eq_true rfl, Nat.le_of_ble_eq_true rfl⟩) hS (fun q _ h => hFc1 q h) hFc1 (fun r1 u1 t1 H1 locs1 ht1 hvm1 hw1 hB1 hz1 hk1 hS1 => ?_)
  have hr1 := hw1
  obtain ⟨hP1, hD1⟩ := gJoin (wr := []) (w1 := []) hP hD [] [] rfl rfl (by decide) (by decide) hk1 hFc1 ht1 hB1
  have hP1 : va_P D cls [] H1 := hP1
  have hD1 : va_D A [] := hD1
  refine W.widen (k := 0) (n := 0) (Nat.le_of_ble_eq_true rfl) (Nat.le_of_ble_eq_true rfl) ?_
  subst hr1
  refine lv_if_eq (tgt := 16) hx hb d_21_56_4 (by decide) (fun c => absurd c (by decide)) (fun _ => ?_)
  refine lv_aload_n hx hb d_21_56_7 rfl (lv_at hl 0 rfl) ?_
  refine vk_getf hx hb ((hX.2.2.2.2.1 10 _ rfl).2.1 0 (by decide)).2.2.1 hS1 hown (hts _ k_15_170) (fun _ h => h) d_21_56_8 ?_
  refine W.eq (g2 := F0 m 11 ls [.ref (av 10)]) rfl ?_
  refine lv_iload_n hx hb d_21_56_11 rfl (lv_at hl 1 rfl) ?_
  have hFc2 := va_free (wc := []) hD1 hS1 hA [] rfl
  refine va_calli (va_runS (As := [.ref (av 10), .int 0]) (rest := []) ⟨hx, hb, hml, hown, hts⟩ (c_StringLatin1_charAt_29 l D ca ad av H1.size  ) (va_cwS 2 hts (gdS k_7_137 k_7_138 k_1_12 k_7_139) rfl rfl rfl (by decide +kernel) ⟨Nat.le_of_ble_eq_true rfl, Nat.le_of_ble_eq_true rfl⟩) (gPS hP1 hD1 hK hS1 hA hX [] (by decide) rfl [.ref (av 10), .int 0]) rfl rfl hl.1 rfl (lv_room (Nat.le_of_ble_eq_true rfl)) d_21_56_12 ⟨Nat.le_of_ble_eq_true rfl, Nat.le_of_ble_eq_true rfl⟩) hS1 (fun q _ h => hFc2 q h) hFc2 (fun r2 u2 t2 H2 locs2 ht2 hvm2 hw2 hB2 hz2 hk2 hS2 => ?_)
  have hr2 := hw2
  obtain ⟨hP2, hD2⟩ := gJoin (wr := []) (w1 := []) hP1 hD1 [] [] rfl rfl (by decide) (by decide) hk2 hFc2 ht2 hB2
  have hP2 : va_P D cls [] H2 := hP2
  have hD2 : va_D A [] := hD2
  refine W.widen (k := 0) (n := 0) (Nat.le_of_ble_eq_true rfl) (Nat.le_of_ble_eq_true rfl) ?_
  subst hr2
  have hP9 := hP2.sub (ws' := []) [] rfl
  have hD9 := hD2.sub (ws' := []) [] (by decide) rfl
  refine W.widen (k := 0) (n := 0) (Nat.le_of_ble_eq_true rfl) (Nat.le_of_ble_eq_true rfl) ?_
  exact W.zret (v := 102) hx hb hr rfl (fun t ht hW => ⟨⟨102, (), rfl, rfl, by rw [ht]; exact hP9, va_K.moved hW.alike hK, hD9⟩, hS2.F ht⟩) hS2.2.2 d_21_56_15
abbrev Q_M_code_9 (D : va_G) (ca : Nat → ClassId)  (A : Nat → Prop) : Array Value → State → Outcome → State → Prop := va_Ql (S := Unit) (fun (r : Int64) (u : Unit) => r = 102) (fun u => gB D ca A []) A
set_option maxHeartbeats 8000000 in
set_option maxRecDepth 100000 in
theorem c_M_code_9 (l : Launch) (D : va_G) (ca : Nat → ClassId) (ad av : Nat → Nat) (sz : Nat)   : Met l ({ cls := "StaveHouseModel", name := "code", desc := "(Ljava/lang/String;)J" } : Jvm.MethodName) (Cond.code ({ cls := "StaveHouseModel", name := "code", desc := "(Ljava/lang/String;)J" } : Jvm.MethodName) prog_15_method_24_code 4 (Option.some Jvm.ClassFile.FieldType.long) :: wAll) ({ frames := 4, cells := 0, slots := 0, locals := 85 } : Room) (va_Pc [.ref (ad 10)] (gPre D ca ad av [] sz)) (Q_M_code_9 D ca  (va_A [] sz)) 0 0 (va_A [] sz) := by
  refine gMet (Qc := Q_M_code_9 D ca ) (lv := [(0, .ref (ad 10))]) (by decide) (Nat.le_of_ble_eq_true rfl) rfl (fun A p e s m below meth c ls hx hb hr hml hown hts hlk hnm hl hP hK hD hS hA hX => ?_)
  have hown : s.vm.findClass "StaveHouseModel" = some m.cls := hown
  have hnm : meth.name = "code" := hnm
  refine lv_lconst (v := 0) hx hb d_15_24_0 (by decide) ?_
  refine lv_lstore_n (lv' := [(1, .long 0), (0, .ref (ad 10))]) hx hb d_15_24_1 rfl hl (by decide) rfl (fun ls hl => ?_)
  refine lv_iconst (v := 0) hx hb d_15_24_2 (by decide) ?_
  refine lv_istore_n (lv' := [(3, .int 0), (1, .long 0), (0, .ref (ad 10))]) hx hb d_15_24_3 rfl hl (by decide) rfl (fun ls hl => ?_)
  refine lv_iload_n hx hb d_15_24_4 rfl (lv_at hl 0 rfl) ?_
  refine lv_aload_n hx hb d_15_24_5 rfl (lv_at hl 2 rfl) ?_
  have hFc1 := va_free (wc := []) hD hS hA [] rfl
  refine va_calli (va_runV (As := []) (rest := [.int 0]) ⟨hx, hb, hml, hown, hts⟩ (c_String_length_9 l D ca ad av s.heap.size  ) (cwV 0 hts (gdV k_10_194 k_3_82 k_3_83 k_1_11 k_3_84) rfl rfl rfl (by decide +kernel) ⟨Nat.le_of_ble_eq_true rfl, Nat.le_of_ble_eq_true rfl⟩) ⟨gBlind, vk_recv (i := 0) (hX.2.2.2.2.1 10 _ rfl).2 (by decide) hS, gAt hP hD hK hS hA hX [] (by decide) rfl [.ref (ad 10)]⟩ rfl rfl hl.1 rfl (lv_room (Nat.le_of_ble_eq_true rfl)) d_15_24_6 ⟨Nat.le_of_ble_eq_true rfl, Nat.le_of_ble_eq_true rfl⟩) hS (fun q _ h => hFc1 q h) hFc1 (fun r1 u1 t1 H1 locs1 ht1 hvm1 hw1 hB1 hz1 hk1 hS1 => ?_)
  have hr1 := hw1
  obtain ⟨hP1, hD1⟩ := gJoin (wr := []) (w1 := []) hP hD [] [] rfl rfl (by decide) (by decide) hk1 hFc1 ht1 hB1
  have hP1 : va_P D cls [] H1 := hP1
  have hD1 : va_D A [] := hD1
  refine W.widen (k := 0) (n := 0) (Nat.le_of_ble_eq_true rfl) (Nat.le_of_ble_eq_true rfl) ?_
  subst hr1
  refine lv_icmp_ge (tgt := 30) hx hb d_15_24_9 (by decide) (fun c => absurd c (by decide)) (fun _ => ?_)
  refine lv_lload_n hx hb d_15_24_12 rfl (lv_at hl 1 rfl) ?_
  refine lv_bipush (v := 8) hx hb d_15_24_13 (by decide) ?_
  refine lv_lshl hx hb d_15_24_15 rfl ?_
  refine lv_topl (fun y2 ey2 => ?_)
  obtain rfl : y2 = 0 := ey2.trans (by decide)
  refine lv_aload_n hx hb d_15_24_16 rfl (lv_at hl 2 rfl) ?_
  refine lv_iload_n hx hb d_15_24_17 rfl (lv_at hl 0 rfl) ?_
  have hFc3 := va_free (wc := []) hD1 hS1 hA [] rfl
  refine va_calli (va_runV (As := [.int 0]) (rest := [.long 0]) ⟨hx, hb, hml, hown, hts⟩ (c_String_charAt_29 l D ca ad av H1.size  ) (cwV 1 hts (gdV k_10_195 k_7_134 k_7_135 k_1_11 k_7_136) rfl rfl rfl (by decide +kernel) ⟨Nat.le_of_ble_eq_true rfl, Nat.le_of_ble_eq_true rfl⟩) ⟨gBlind, vk_recv (i := 0) (hX.2.2.2.2.1 10 _ rfl).2 (by decide) hS1, gAt hP1 hD1 hK hS1 hA hX [] (by decide) rfl [.ref (ad 10), .int 0]⟩ rfl rfl hl.1 rfl (lv_room (Nat.le_of_ble_eq_true rfl)) d_15_24_18 ⟨Nat.le_of_ble_eq_true rfl, Nat.le_of_ble_eq_true rfl⟩) hS1 (fun q _ h => hFc3 q h) hFc3 (fun r3 u3 t3 H3 locs3 ht3 hvm3 hw3 hB3 hz3 hk3 hS3 => ?_)
  have hr3 := hw3
  obtain ⟨hP3, hD3⟩ := gJoin (wr := []) (w1 := []) hP1 hD1 [] [] rfl rfl (by decide) (by decide) hk3 hFc3 ht3 hB3
  have hP3 : va_P D cls [] H3 := hP3
  have hD3 : va_D A [] := hD3
  refine W.widen (k := 0) (n := 0) (Nat.le_of_ble_eq_true rfl) (Nat.le_of_ble_eq_true rfl) ?_
  subst hr3
  refine lv_i2l hx hb d_15_24_21 rfl ?_
  refine lv_topl (fun y4 ey4 => ?_)
  obtain rfl : y4 = 102 := ey4.trans (by decide)
  refine lv_lor hx hb d_15_24_22 ?_
  refine lv_topl (fun y5 ey5 => ?_)
  obtain rfl : y5 = 102 := ey5.trans (by decide)
  refine lv_lstore_n (lv' := [(1, .long 102), (3, .int 0), (0, .ref (ad 10))]) hx hb d_15_24_23 rfl hl (by decide) rfl (fun ls hl => ?_)
  refine lv_iinc (v := 1) (lv' := [(3, .int 1), (1, .long 102), (0, .ref (ad 10))]) hx hb d_15_24_24 hl (k := 1) rfl (by decide) (by decide) rfl (fun ls hl => ?_)
  refine lv_goto (tgt := 4) hx hb d_15_24_27 (by decide) ?_
  refine lv_iload_n hx hb d_15_24_4 rfl (lv_at hl 0 rfl) ?_
  refine lv_aload_n hx hb d_15_24_5 rfl (lv_at hl 2 rfl) ?_
  have hFc6 := va_free (wc := []) hD3 hS3 hA [] rfl
  refine va_calli (va_runV (As := []) (rest := [.int 1]) ⟨hx, hb, hml, hown, hts⟩ (c_String_length_9 l D ca ad av H3.size  ) (cwV 0 hts (gdV k_10_194 k_3_82 k_3_83 k_1_11 k_3_84) rfl rfl rfl (by decide +kernel) ⟨Nat.le_of_ble_eq_true rfl, Nat.le_of_ble_eq_true rfl⟩) ⟨gBlind, vk_recv (i := 0) (hX.2.2.2.2.1 10 _ rfl).2 (by decide) hS3, gAt hP3 hD3 hK hS3 hA hX [] (by decide) rfl [.ref (ad 10)]⟩ rfl rfl hl.1 rfl (lv_room (Nat.le_of_ble_eq_true rfl)) d_15_24_6 ⟨Nat.le_of_ble_eq_true rfl, Nat.le_of_ble_eq_true rfl⟩) hS3 (fun q _ h => hFc6 q h) hFc6 (fun r6 u6 t6 H6 locs6 ht6 hvm6 hw6 hB6 hz6 hk6 hS6 => ?_)
  have hr6 := hw6
  obtain ⟨hP6, hD6⟩ := gJoin (wr := []) (w1 := []) hP3 hD3 [] [] rfl rfl (by decide) (by decide) hk6 hFc6 ht6 hB6
  have hP6 : va_P D cls [] H6 := hP6
  have hD6 : va_D A [] := hD6
  refine W.widen (k := 0) (n := 0) (Nat.le_of_ble_eq_true rfl) (Nat.le_of_ble_eq_true rfl) ?_
  subst hr6
  refine lv_icmp_ge (tgt := 30) hx hb d_15_24_9 (by decide) (fun _ => ?_) (fun c => absurd (by decide) c)
  refine lv_lload_n hx hb d_15_24_30 rfl (lv_at hl 1 rfl) ?_
  have hP9 := hP6.sub (ws' := []) [] rfl
  have hD9 := hD6.sub (ws' := []) [] (by decide) rfl
  refine W.widen (k := 0) (n := 0) (Nat.le_of_ble_eq_true rfl) (Nat.le_of_ble_eq_true rfl) ?_
  exact W.lret (v := 102) hx hb hr (fun t ht hW => ⟨⟨102, (), rfl, rfl, by rw [ht]; exact hP9, va_K.moved hW.alike hK, hD9⟩, hS6.F ht⟩) hS6.2.2 d_15_24_31
abbrev Q_String_coder_10 (D : va_G) (ca : Nat → ClassId)  (A : Nat → Prop) : Array Value → State → Outcome → State → Prop := va_Qi (S := Unit) (fun (r : Int32) (u : Unit) => r = 0) (fun u => gB D ca A []) A
set_option maxHeartbeats 8000000 in
set_option maxRecDepth 100000 in
theorem c_String_coder_10 (l : Launch) (D : va_G) (ca : Nat → ClassId) (ad av : Nat → Nat) (sz : Nat)   : Met l ({ cls := "java/lang/String", name := "coder", desc := "()B" } : Jvm.MethodName) (Cond.code ({ cls := "java/lang/String", name := "coder", desc := "()B" } : Jvm.MethodName) prog_21_method_152_code 1 (Option.some Jvm.ClassFile.FieldType.byte) :: wAll) ({ frames := 0, cells := 0, slots := 0, locals := 0 } : Room) (va_Pc [.ref (ad 11)] (gPre D ca ad av [] sz)) (Q_String_coder_10 D ca  (va_A [] sz)) 0 0 (va_A [] sz) := by
  refine gMet (Qc := Q_String_coder_10 D ca ) (lv := [(0, .ref (ad 11))]) (by decide) (Nat.le_of_ble_eq_true rfl) rfl (fun A p e s m below meth c ls hx hb hr hml hown hts hlk hnm hl hP hK hD hS hA hX => ?_)
  have hown : s.vm.findClass "java/lang/String" = some m.cls := hown
  have hnm : meth.name = "coder" := hnm
  refine va_gets hx hb (hX.2.2.2.1 _ (List.mem_of_getElem? (i := 0) rfl)) hS hown (hts _ k_3_79) (fun _ h => h) d_21_152_0 ?_
  refine lv_if_eq (tgt := 13) hx hb d_21_152_3 (by decide) (fun c => absurd c (by decide)) (fun _ => ?_)
  refine lv_aload_n hx hb d_21_152_6 rfl (lv_at hl 0 rfl) ?_
  refine vk_getf hx hb ((hX.2.2.2.2.1 11 _ rfl).2.1 0 (by decide)).2.1 hS hown (hts _ k_15_171) (fun _ h => h) d_21_152_7 ?_
  refine W.eq (g2 := F0 m 10 ls [.int 0]) rfl ?_
  refine lv_goto (tgt := 14) hx hb d_21_152_10 (by decide) ?_
  have hP9 := hP.sub (ws' := []) [] rfl
  have hD9 := hD.sub (ws' := []) [] (by decide) rfl
  refine W.widen (k := 0) (n := 0) (Nat.le_of_ble_eq_true rfl) (Nat.le_of_ble_eq_true rfl) ?_
  exact W.zret (v := 0) hx hb hr rfl (fun t ht hW => ⟨⟨0, (), rfl, rfl, by rw [ht]; exact hP9, va_K.moved hW.alike hK, hD9⟩, hS.F ht⟩) hS.2.2 d_21_152_14
abbrev Q_String_length_10 (D : va_G) (ca : Nat → ClassId)  (A : Nat → Prop) : Array Value → State → Outcome → State → Prop := va_Qi (S := Unit) (fun (r : Int32) (u : Unit) => r = 2) (fun u => gB D ca A []) A
set_option maxHeartbeats 8000000 in
set_option maxRecDepth 100000 in
theorem c_String_length_10 (l : Launch) (D : va_G) (ca : Nat → ClassId) (ad av : Nat → Nat) (sz : Nat)   : Met l ({ cls := "java/lang/String", name := "length", desc := "()I" } : Jvm.MethodName) (Cond.code ({ cls := "java/lang/String", name := "length", desc := "()I" } : Jvm.MethodName) prog_21_method_54_code 1 (Option.some Jvm.ClassFile.FieldType.int) :: wAll) ({ frames := 1, cells := 0, slots := 0, locals := 20 } : Room) (va_Pc [.ref (ad 11)] (gPre D ca ad av [] sz)) (Q_String_length_10 D ca  (va_A [] sz)) 0 0 (va_A [] sz) := by
  refine gMet (Qc := Q_String_length_10 D ca ) (lv := [(0, .ref (ad 11))]) (by decide) (Nat.le_of_ble_eq_true rfl) rfl (fun A p e s m below meth c ls hx hb hr hml hown hts hlk hnm hl hP hK hD hS hA hX => ?_)
  have hown : s.vm.findClass "java/lang/String" = some m.cls := hown
  have hnm : meth.name = "length" := hnm
  refine lv_aload_n hx hb d_21_54_0 rfl (lv_at hl 0 rfl) ?_
  refine vk_getf hx hb ((hX.2.2.2.2.1 11 _ rfl).2.1 0 (by decide)).2.2.1 hS hown (hts _ k_15_170) (fun _ h => h) d_21_54_1 ?_
  refine W.eq (g2 := F0 m 4 ls [.ref (av 11)]) rfl ?_
  refine va_tlen (v := 2) hx hb ((hX.2.2.2.2.1 11 _ rfl).2.1 0 (by decide)).2.2.2 hS (by decide) d_21_54_4 ?_
  refine lv_aload_n hx hb d_21_54_5 rfl (lv_at hl 0 rfl) ?_
  have hFc1 := va_free (wc := []) hD hS hA [] rfl
  refine va_calli (va_runV (As := []) (rest := [.int 2]) ⟨hx, hb, hml, hown, hts⟩ (c_String_coder_10 l D ca ad av s.heap.size  ) (cwV 0 hts (gdV k_3_85 k_3_86 k_3_87 k_1_11 k_3_88) rfl rfl rfl (by decide +kernel) ⟨Nat.le_of_ble_eq_true rfl, Nat.le_of_ble_eq_true rfl⟩) ⟨gBlind, vk_recv (i := 0) (hX.2.2.2.2.1 11 _ rfl).2 (by decide) hS, gAt hP hD hK hS hA hX [] (by decide) rfl [.ref (ad 11)]⟩ rfl rfl hl.1 rfl (lv_room (Nat.le_of_ble_eq_true rfl)) d_21_54_6 ⟨Nat.le_of_ble_eq_true rfl, Nat.le_of_ble_eq_true rfl⟩) hS (fun q _ h => hFc1 q h) hFc1 (fun r1 u1 t1 H1 locs1 ht1 hvm1 hw1 hB1 hz1 hk1 hS1 => ?_)
  have hr1 := hw1
  obtain ⟨hP1, hD1⟩ := gJoin (wr := []) (w1 := []) hP hD [] [] rfl rfl (by decide) (by decide) hk1 hFc1 ht1 hB1
  have hP1 : va_P D cls [] H1 := hP1
  have hD1 : va_D A [] := hD1
  refine W.widen (k := 0) (n := 0) (Nat.le_of_ble_eq_true rfl) (Nat.le_of_ble_eq_true rfl) ?_
  subst hr1
  refine lv_ishr hx hb d_21_54_9 ?_
  refine lv_topi (fun y2 ey2 => ?_)
  obtain rfl : y2 = 2 := ey2.trans (by decide)
  have hP9 := hP1.sub (ws' := []) [] rfl
  have hD9 := hD1.sub (ws' := []) [] (by decide) rfl
  refine W.widen (k := 0) (n := 0) (Nat.le_of_ble_eq_true rfl) (Nat.le_of_ble_eq_true rfl) ?_
  exact W.iret (v := 2) hx hb hr (fun t ht hW => ⟨⟨2, (), rfl, rfl, by rw [ht]; exact hP9, va_K.moved hW.alike hK, hD9⟩, hS1.F ht⟩) hS1.2.2 d_21_54_10
abbrev Q_String_isLatin1_10 (D : va_G) (ca : Nat → ClassId)  (A : Nat → Prop) : Array Value → State → Outcome → State → Prop := va_Qi (S := Unit) (fun (r : Int32) (u : Unit) => r = 1) (fun u => gB D ca A []) A
set_option maxHeartbeats 8000000 in
set_option maxRecDepth 100000 in
theorem c_String_isLatin1_10 (l : Launch) (D : va_G) (ca : Nat → ClassId) (ad av : Nat → Nat) (sz : Nat)   : Met l ({ cls := "java/lang/String", name := "isLatin1", desc := "()Z" } : Jvm.MethodName) (Cond.code ({ cls := "java/lang/String", name := "isLatin1", desc := "()Z" } : Jvm.MethodName) prog_21_method_154_code 1 (Option.some Jvm.ClassFile.FieldType.boolean) :: wAll) ({ frames := 0, cells := 0, slots := 0, locals := 0 } : Room) (va_Pc [.ref (ad 11)] (gPre D ca ad av [] sz)) (Q_String_isLatin1_10 D ca  (va_A [] sz)) 0 0 (va_A [] sz) := by
  refine gMet (Qc := Q_String_isLatin1_10 D ca ) (lv := [(0, .ref (ad 11))]) (by decide) (Nat.le_of_ble_eq_true rfl) rfl (fun A p e s m below meth c ls hx hb hr hml hown hts hlk hnm hl hP hK hD hS hA hX => ?_)
  have hown : s.vm.findClass "java/lang/String" = some m.cls := hown
  have hnm : meth.name = "isLatin1" := hnm
  refine va_gets hx hb (hX.2.2.2.1 _ (List.mem_of_getElem? (i := 0) rfl)) hS hown (hts _ k_3_79) (fun _ h => h) d_21_154_0 ?_
  refine lv_if_eq (tgt := 17) hx hb d_21_154_3 (by decide) (fun c => absurd c (by decide)) (fun _ => ?_)
  refine lv_aload_n hx hb d_21_154_6 rfl (lv_at hl 0 rfl) ?_
  refine vk_getf hx hb ((hX.2.2.2.2.1 11 _ rfl).2.1 0 (by decide)).2.1 hS hown (hts _ k_15_171) (fun _ h => h) d_21_154_7 ?_
  refine W.eq (g2 := F0 m 10 ls [.int 0]) rfl ?_
  refine lv_if_ne (tgt := 17) hx hb d_21_154_10 (by decide) (fun c => absurd c (by decide)) (fun _ => ?_)
  refine lv_iconst (v := 1) hx hb d_21_154_13 (by decide) ?_
  refine lv_goto (tgt := 18) hx hb d_21_154_14 (by decide) ?_
  have hP9 := hP.sub (ws' := []) [] rfl
  have hD9 := hD.sub (ws' := []) [] (by decide) rfl
  refine W.widen (k := 0) (n := 0) (Nat.le_of_ble_eq_true rfl) (Nat.le_of_ble_eq_true rfl) ?_
  exact W.zret (v := 1) hx hb hr rfl (fun t ht hW => ⟨⟨1, (), rfl, rfl, by rw [ht]; exact hP9, va_K.moved hW.alike hK, hD9⟩, hS.F ht⟩) hS.2.2 d_21_154_18
abbrev Q_StringLatin1_charAt_30 (D : va_G) (ca : Nat → ClassId)  (A : Nat → Prop) : Array Value → State → Outcome → State → Prop := va_Qi (S := Unit) (fun (r : Int32) (u : Unit) => r = 102) (fun u => gB D ca A []) A
set_option maxHeartbeats 8000000 in
set_option maxRecDepth 100000 in
theorem c_StringLatin1_charAt_30 (l : Launch) (D : va_G) (ca : Nat → ClassId) (ad av : Nat → Nat) (sz : Nat)   : Met l ({ cls := "java/lang/StringLatin1", name := "charAt", desc := "([BI)C" } : Jvm.MethodName) (Cond.code ({ cls := "java/lang/StringLatin1", name := "charAt", desc := "([BI)C" } : Jvm.MethodName) prog_22_method_2_code 2 (Option.some Jvm.ClassFile.FieldType.char) :: wAll) ({ frames := 2, cells := 0, slots := 0, locals := 43 } : Room) (va_Pc [.ref (av 11), .int 0] (gPre D ca ad av [] sz)) (Q_StringLatin1_charAt_30 D ca  (va_A [] sz)) 0 0 (va_A [] sz) := by
  refine gMet (Qc := Q_StringLatin1_charAt_30 D ca ) (lv := [(0, .ref (av 11)), (1, .int 0)]) (by decide) (Nat.le_of_ble_eq_true rfl) rfl (fun A p e s m below meth c ls hx hb hr hml hown hts hlk hnm hl hP hK hD hS hA hX => ?_)
  have hown : s.vm.findClass "java/lang/StringLatin1" = some m.cls := hown
  have hnm : meth.name = "charAt" := hnm
  refine lv_iload_n hx hb d_22_2_0 rfl (lv_at hl 1 rfl) ?_
  refine lv_aload_n hx hb d_22_2_1 rfl (lv_at hl 0 rfl) ?_
  refine va_tlen (v := 2) hx hb ((hX.2.2.2.2.1 11 _ rfl).2.1 0 (by decide)).2.2.2 hS (by decide) d_22_2_2 ?_
  have hFc1 := va_free (wc := []) hD hS hA [] rfl
  refine va_callv (va_runS (As := [.int 0, .int 2]) (rest := []) ⟨hx, hb, hml, hown, hts⟩ (c_String_checkIndex_18 l D ca ad av s.heap.size  ) (va_cwS 2 hts (gdS k_7_140 k_7_141 k_1_11 k_7_142) rfl rfl rfl (by decide +kernel) ⟨Nat.le_of_ble_eq_true rfl, Nat.le_of_ble_eq_true rfl⟩) (gPS hP hD hK hS hA hX [] (by decide) rfl [.int 0, .int 2]) rfl rfl hl.1 rfl (lv_room (Nat.le_of_ble_eq_true rfl)) d_22_2_3 ⟨Nat.le_of_ble_eq_true rfl, Nat.le_of_ble_eq_true rfl⟩) hS (fun q _ h => hFc1 q h) hFc1 (fun u1 t1 H1 locs1 ht1 hvm1 hw1 hB1 hz1 hk1 hS1 => ?_)
  obtain ⟨hP1, hD1⟩ := gJoin (wr := []) (w1 := []) hP hD [] [] rfl rfl (by decide) (by decide) hk1 hFc1 ht1 hB1
  have hP1 : va_P D cls [] H1 := hP1
  have hD1 : va_D A [] := hD1
  refine W.widen (k := 0) (n := 0) (Nat.le_of_ble_eq_true rfl) (Nat.le_of_ble_eq_true rfl) ?_
  refine lv_aload_n hx hb d_22_2_6 rfl (lv_at hl 0 rfl) ?_
  refine lv_iload_n hx hb d_22_2_7 rfl (lv_at hl 1 rfl) ?_
  refine va_tb (v := .int 102) hx hb ((hX.2.2.2.2.1 11 _ rfl).2.1 0 (by decide)).2.2.2 hS1 (vinC (by decide)) rfl d_22_2_8 ?_
  refine lv_sipush (v := 255) hx hb d_22_2_9 (by decide) ?_
  refine lv_iand hx hb d_22_2_12 ?_
  refine lv_topi (fun y2 ey2 => ?_)
  obtain rfl : y2 = 102 := ey2.trans (by decide)
  refine lv_i2c hx hb d_22_2_13 rfl ?_
  refine lv_topi (fun y3 ey3 => ?_)
  obtain rfl : y3 = 102 := ey3.trans (by decide)
  have hP9 := hP1.sub (ws' := []) [] rfl
  have hD9 := hD1.sub (ws' := []) [] (by decide) rfl
  refine W.widen (k := 0) (n := 0) (Nat.le_of_ble_eq_true rfl) (Nat.le_of_ble_eq_true rfl) ?_
  exact W.zret (v := 102) hx hb hr rfl (fun t ht hW => ⟨⟨102, (), rfl, rfl, by rw [ht]; exact hP9, va_K.moved hW.alike hK, hD9⟩, hS1.F ht⟩) hS1.2.2 d_22_2_14
abbrev Q_String_charAt_30 (D : va_G) (ca : Nat → ClassId)  (A : Nat → Prop) : Array Value → State → Outcome → State → Prop := va_Qi (S := Unit) (fun (r : Int32) (u : Unit) => r = 102) (fun u => gB D ca A []) A
set_option maxHeartbeats 8000000 in
set_option maxRecDepth 100000 in
theorem c_String_charAt_30 (l : Launch) (D : va_G) (ca : Nat → ClassId) (ad av : Nat → Nat) (sz : Nat)   : Met l ({ cls := "java/lang/String", name := "charAt", desc := "(I)C" } : Jvm.MethodName) (Cond.code ({ cls := "java/lang/String", name := "charAt", desc := "(I)C" } : Jvm.MethodName) prog_21_method_56_code 2 (Option.some Jvm.ClassFile.FieldType.char) :: wAll) ({ frames := 3, cells := 0, slots := 0, locals := 64 } : Room) (va_Pc [.ref (ad 11), .int 0] (gPre D ca ad av [] sz)) (Q_String_charAt_30 D ca  (va_A [] sz)) 0 0 (va_A [] sz) := by
  refine gMet (Qc := Q_String_charAt_30 D ca ) (lv := [(0, .ref (ad 11)), (1, .int 0)]) (by decide) (Nat.le_of_ble_eq_true rfl) rfl (fun A p e s m below meth c ls hx hb hr hml hown hts hlk hnm hl hP hK hD hS hA hX => ?_)
  have hown : s.vm.findClass "java/lang/String" = some m.cls := hown
  have hnm : meth.name = "charAt" := hnm
  refine lv_aload_n hx hb d_21_56_0 rfl (lv_at hl 0 rfl) ?_
  have hFc1 := va_free (wc := []) hD hS hA [] rfl
  refine va_calli (va_runV (As := []) (rest := []) ⟨hx, hb, hml, hown, hts⟩ (c_String_isLatin1_10 l D ca ad av s.heap.size  ) (cwV 0 hts (gdV k_3_75 k_3_76 k_3_77 k_1_11 k_3_78) rfl rfl rfl (by decide +kernel) ⟨Nat.le_of_ble_eq_true rfl, Nat.le_of_ble_eq_true rfl⟩) ⟨gBlind, vk_recv (i := 0) (hX.2.2.2.2.1 11 _ rfl).2 (by decide) hS, gAt hP hD hK hS hA hX [] (by decide) rfl [.ref (ad 11)]⟩ rfl rfl hl.1 rfl (lv_room (Nat.le_of_ble_eq_true rfl)) d_21_56_1 ⟨Nat.le_of_ble_eq_true rfl, Nat.le_of_ble_eq_true rfl⟩) hS (fun q _ h => hFc1 q h) hFc1 (fun r1 u1 t1 H1 locs1 ht1 hvm1 hw1 hB1 hz1 hk1 hS1 => ?_)
  have hr1 := hw1
  obtain ⟨hP1, hD1⟩ := gJoin (wr := []) (w1 := []) hP hD [] [] rfl rfl (by decide) (by decide) hk1 hFc1 ht1 hB1
  have hP1 : va_P D cls [] H1 := hP1
  have hD1 : va_D A [] := hD1
  refine W.widen (k := 0) (n := 0) (Nat.le_of_ble_eq_true rfl) (Nat.le_of_ble_eq_true rfl) ?_
  subst hr1
  refine lv_if_eq (tgt := 16) hx hb d_21_56_4 (by decide) (fun c => absurd c (by decide)) (fun _ => ?_)
  refine lv_aload_n hx hb d_21_56_7 rfl (lv_at hl 0 rfl) ?_
  refine vk_getf hx hb ((hX.2.2.2.2.1 11 _ rfl).2.1 0 (by decide)).2.2.1 hS1 hown (hts _ k_15_170) (fun _ h => h) d_21_56_8 ?_
  refine W.eq (g2 := F0 m 11 ls [.ref (av 11)]) rfl ?_
  refine lv_iload_n hx hb d_21_56_11 rfl (lv_at hl 1 rfl) ?_
  have hFc2 := va_free (wc := []) hD1 hS1 hA [] rfl
  refine va_calli (va_runS (As := [.ref (av 11), .int 0]) (rest := []) ⟨hx, hb, hml, hown, hts⟩ (c_StringLatin1_charAt_30 l D ca ad av H1.size  ) (va_cwS 2 hts (gdS k_7_137 k_7_138 k_1_12 k_7_139) rfl rfl rfl (by decide +kernel) ⟨Nat.le_of_ble_eq_true rfl, Nat.le_of_ble_eq_true rfl⟩) (gPS hP1 hD1 hK hS1 hA hX [] (by decide) rfl [.ref (av 11), .int 0]) rfl rfl hl.1 rfl (lv_room (Nat.le_of_ble_eq_true rfl)) d_21_56_12 ⟨Nat.le_of_ble_eq_true rfl, Nat.le_of_ble_eq_true rfl⟩) hS1 (fun q _ h => hFc2 q h) hFc2 (fun r2 u2 t2 H2 locs2 ht2 hvm2 hw2 hB2 hz2 hk2 hS2 => ?_)
  have hr2 := hw2
  obtain ⟨hP2, hD2⟩ := gJoin (wr := []) (w1 := []) hP1 hD1 [] [] rfl rfl (by decide) (by decide) hk2 hFc2 ht2 hB2
  have hP2 : va_P D cls [] H2 := hP2
  have hD2 : va_D A [] := hD2
  refine W.widen (k := 0) (n := 0) (Nat.le_of_ble_eq_true rfl) (Nat.le_of_ble_eq_true rfl) ?_
  subst hr2
  have hP9 := hP2.sub (ws' := []) [] rfl
  have hD9 := hD2.sub (ws' := []) [] (by decide) rfl
  refine W.widen (k := 0) (n := 0) (Nat.le_of_ble_eq_true rfl) (Nat.le_of_ble_eq_true rfl) ?_
  exact W.zret (v := 102) hx hb hr rfl (fun t ht hW => ⟨⟨102, (), rfl, rfl, by rw [ht]; exact hP9, va_K.moved hW.alike hK, hD9⟩, hS2.F ht⟩) hS2.2.2 d_21_56_15
abbrev Q_StringLatin1_charAt_31 (D : va_G) (ca : Nat → ClassId)  (A : Nat → Prop) : Array Value → State → Outcome → State → Prop := va_Qi (S := Unit) (fun (r : Int32) (u : Unit) => r = 102) (fun u => gB D ca A []) A
set_option maxHeartbeats 8000000 in
set_option maxRecDepth 100000 in
theorem c_StringLatin1_charAt_31 (l : Launch) (D : va_G) (ca : Nat → ClassId) (ad av : Nat → Nat) (sz : Nat)   : Met l ({ cls := "java/lang/StringLatin1", name := "charAt", desc := "([BI)C" } : Jvm.MethodName) (Cond.code ({ cls := "java/lang/StringLatin1", name := "charAt", desc := "([BI)C" } : Jvm.MethodName) prog_22_method_2_code 2 (Option.some Jvm.ClassFile.FieldType.char) :: wAll) ({ frames := 2, cells := 0, slots := 0, locals := 43 } : Room) (va_Pc [.ref (av 11), .int 1] (gPre D ca ad av [] sz)) (Q_StringLatin1_charAt_31 D ca  (va_A [] sz)) 0 0 (va_A [] sz) := by
  refine gMet (Qc := Q_StringLatin1_charAt_31 D ca ) (lv := [(0, .ref (av 11)), (1, .int 1)]) (by decide) (Nat.le_of_ble_eq_true rfl) rfl (fun A p e s m below meth c ls hx hb hr hml hown hts hlk hnm hl hP hK hD hS hA hX => ?_)
  have hown : s.vm.findClass "java/lang/StringLatin1" = some m.cls := hown
  have hnm : meth.name = "charAt" := hnm
  refine lv_iload_n hx hb d_22_2_0 rfl (lv_at hl 1 rfl) ?_
  refine lv_aload_n hx hb d_22_2_1 rfl (lv_at hl 0 rfl) ?_
  refine va_tlen (v := 2) hx hb ((hX.2.2.2.2.1 11 _ rfl).2.1 0 (by decide)).2.2.2 hS (by decide) d_22_2_2 ?_
  have hFc1 := va_free (wc := []) hD hS hA [] rfl
  refine va_callv (va_runS (As := [.int 1, .int 2]) (rest := []) ⟨hx, hb, hml, hown, hts⟩ (c_String_checkIndex_19 l D ca ad av s.heap.size  ) (va_cwS 2 hts (gdS k_7_140 k_7_141 k_1_11 k_7_142) rfl rfl rfl (by decide +kernel) ⟨Nat.le_of_ble_eq_true rfl, Nat.le_of_ble_eq_true rfl⟩) (gPS hP hD hK hS hA hX [] (by decide) rfl [.int 1, .int 2]) rfl rfl hl.1 rfl (lv_room (Nat.le_of_ble_eq_true rfl)) d_22_2_3 ⟨Nat.le_of_ble_eq_true rfl, Nat.le_of_ble_eq_true rfl⟩) hS (fun q _ h => hFc1 q h) hFc1 (fun u1 t1 H1 locs1 ht1 hvm1 hw1 hB1 hz1 hk1 hS1 => ?_)
  obtain ⟨hP1, hD1⟩ := gJoin (wr := []) (w1 := []) hP hD [] [] rfl rfl (by decide) (by decide) hk1 hFc1 ht1 hB1
  have hP1 : va_P D cls [] H1 := hP1
  have hD1 : va_D A [] := hD1
  refine W.widen (k := 0) (n := 0) (Nat.le_of_ble_eq_true rfl) (Nat.le_of_ble_eq_true rfl) ?_
  refine lv_aload_n hx hb d_22_2_6 rfl (lv_at hl 0 rfl) ?_
  refine lv_iload_n hx hb d_22_2_7 rfl (lv_at hl 1 rfl) ?_
  refine va_tb (v := .int 102) hx hb ((hX.2.2.2.2.1 11 _ rfl).2.1 0 (by decide)).2.2.2 hS1 (vinC (by decide)) rfl d_22_2_8 ?_
  refine lv_sipush (v := 255) hx hb d_22_2_9 (by decide) ?_
  refine lv_iand hx hb d_22_2_12 ?_
  refine lv_topi (fun y2 ey2 => ?_)
  obtain rfl : y2 = 102 := ey2.trans (by decide)
  refine lv_i2c hx hb d_22_2_13 rfl ?_
  refine lv_topi (fun y3 ey3 => ?_)
  obtain rfl : y3 = 102 := ey3.trans (by decide)
  have hP9 := hP1.sub (ws' := []) [] rfl
  have hD9 := hD1.sub (ws' := []) [] (by decide) rfl
  refine W.widen (k := 0) (n := 0) (Nat.le_of_ble_eq_true rfl) (Nat.le_of_ble_eq_true rfl) ?_
  exact W.zret (v := 102) hx hb hr rfl (fun t ht hW => ⟨⟨102, (), rfl, rfl, by rw [ht]; exact hP9, va_K.moved hW.alike hK, hD9⟩, hS1.F ht⟩) hS1.2.2 d_22_2_14
abbrev Q_String_charAt_31 (D : va_G) (ca : Nat → ClassId)  (A : Nat → Prop) : Array Value → State → Outcome → State → Prop := va_Qi (S := Unit) (fun (r : Int32) (u : Unit) => r = 102) (fun u => gB D ca A []) A
set_option maxHeartbeats 8000000 in
set_option maxRecDepth 100000 in
theorem c_String_charAt_31 (l : Launch) (D : va_G) (ca : Nat → ClassId) (ad av : Nat → Nat) (sz : Nat)   : Met l ({ cls := "java/lang/String", name := "charAt", desc := "(I)C" } : Jvm.MethodName) (Cond.code ({ cls := "java/lang/String", name := "charAt", desc := "(I)C" } : Jvm.MethodName) prog_21_method_56_code 2 (Option.some Jvm.ClassFile.FieldType.char) :: wAll) ({ frames := 3, cells := 0, slots := 0, locals := 64 } : Room) (va_Pc [.ref (ad 11), .int 1] (gPre D ca ad av [] sz)) (Q_String_charAt_31 D ca  (va_A [] sz)) 0 0 (va_A [] sz) := by
  refine gMet (Qc := Q_String_charAt_31 D ca ) (lv := [(0, .ref (ad 11)), (1, .int 1)]) (by decide) (Nat.le_of_ble_eq_true rfl) rfl (fun A p e s m below meth c ls hx hb hr hml hown hts hlk hnm hl hP hK hD hS hA hX => ?_)
  have hown : s.vm.findClass "java/lang/String" = some m.cls := hown
  have hnm : meth.name = "charAt" := hnm
  refine lv_aload_n hx hb d_21_56_0 rfl (lv_at hl 0 rfl) ?_
  have hFc1 := va_free (wc := []) hD hS hA [] rfl
  refine va_calli (va_runV (As := []) (rest := []) ⟨hx, hb, hml, hown, hts⟩ (c_String_isLatin1_10 l D ca ad av s.heap.size  ) (cwV 0 hts (gdV k_3_75 k_3_76 k_3_77 k_1_11 k_3_78) rfl rfl rfl (by decide +kernel) ⟨Nat.le_of_ble_eq_true rfl, Nat.le_of_ble_eq_true rfl⟩) ⟨gBlind, vk_recv (i := 0) (hX.2.2.2.2.1 11 _ rfl).2 (by decide) hS, gAt hP hD hK hS hA hX [] (by decide) rfl [.ref (ad 11)]⟩ rfl rfl hl.1 rfl (lv_room (Nat.le_of_ble_eq_true rfl)) d_21_56_1 ⟨Nat.le_of_ble_eq_true rfl, Nat.le_of_ble_eq_true rfl⟩) hS (fun q _ h => hFc1 q h) hFc1 (fun r1 u1 t1 H1 locs1 ht1 hvm1 hw1 hB1 hz1 hk1 hS1 => ?_)
  have hr1 := hw1
  obtain ⟨hP1, hD1⟩ := gJoin (wr := []) (w1 := []) hP hD [] [] rfl rfl (by decide) (by decide) hk1 hFc1 ht1 hB1
  have hP1 : va_P D cls [] H1 := hP1
  have hD1 : va_D A [] := hD1
  refine W.widen (k := 0) (n := 0) (Nat.le_of_ble_eq_true rfl) (Nat.le_of_ble_eq_true rfl) ?_
  subst hr1
  refine lv_if_eq (tgt := 16) hx hb d_21_56_4 (by decide) (fun c => absurd c (by decide)) (fun _ => ?_)
  refine lv_aload_n hx hb d_21_56_7 rfl (lv_at hl 0 rfl) ?_
  refine vk_getf hx hb ((hX.2.2.2.2.1 11 _ rfl).2.1 0 (by decide)).2.2.1 hS1 hown (hts _ k_15_170) (fun _ h => h) d_21_56_8 ?_
  refine W.eq (g2 := F0 m 11 ls [.ref (av 11)]) rfl ?_
  refine lv_iload_n hx hb d_21_56_11 rfl (lv_at hl 1 rfl) ?_
  have hFc2 := va_free (wc := []) hD1 hS1 hA [] rfl
  refine va_calli (va_runS (As := [.ref (av 11), .int 1]) (rest := []) ⟨hx, hb, hml, hown, hts⟩ (c_StringLatin1_charAt_31 l D ca ad av H1.size  ) (va_cwS 2 hts (gdS k_7_137 k_7_138 k_1_12 k_7_139) rfl rfl rfl (by decide +kernel) ⟨Nat.le_of_ble_eq_true rfl, Nat.le_of_ble_eq_true rfl⟩) (gPS hP1 hD1 hK hS1 hA hX [] (by decide) rfl [.ref (av 11), .int 1]) rfl rfl hl.1 rfl (lv_room (Nat.le_of_ble_eq_true rfl)) d_21_56_12 ⟨Nat.le_of_ble_eq_true rfl, Nat.le_of_ble_eq_true rfl⟩) hS1 (fun q _ h => hFc2 q h) hFc2 (fun r2 u2 t2 H2 locs2 ht2 hvm2 hw2 hB2 hz2 hk2 hS2 => ?_)
  have hr2 := hw2
  obtain ⟨hP2, hD2⟩ := gJoin (wr := []) (w1 := []) hP1 hD1 [] [] rfl rfl (by decide) (by decide) hk2 hFc2 ht2 hB2
  have hP2 : va_P D cls [] H2 := hP2
  have hD2 : va_D A [] := hD2
  refine W.widen (k := 0) (n := 0) (Nat.le_of_ble_eq_true rfl) (Nat.le_of_ble_eq_true rfl) ?_
  subst hr2
  have hP9 := hP2.sub (ws' := []) [] rfl
  have hD9 := hD2.sub (ws' := []) [] (by decide) rfl
  refine W.widen (k := 0) (n := 0) (Nat.le_of_ble_eq_true rfl) (Nat.le_of_ble_eq_true rfl) ?_
  exact W.zret (v := 102) hx hb hr rfl (fun t ht hW => ⟨⟨102, (), rfl, rfl, by rw [ht]; exact hP9, va_K.moved hW.alike hK, hD9⟩, hS2.F ht⟩) hS2.2.2 d_21_56_15
abbrev Q_M_code_10 (D : va_G) (ca : Nat → ClassId)  (A : Nat → Prop) : Array Value → State → Outcome → State → Prop := va_Ql (S := Unit) (fun (r : Int64) (u : Unit) => r = 26214) (fun u => gB D ca A []) A
set_option maxHeartbeats 8000000 in
set_option maxRecDepth 100000 in
theorem c_M_code_10 (l : Launch) (D : va_G) (ca : Nat → ClassId) (ad av : Nat → Nat) (sz : Nat)   : Met l ({ cls := "StaveHouseModel", name := "code", desc := "(Ljava/lang/String;)J" } : Jvm.MethodName) (Cond.code ({ cls := "StaveHouseModel", name := "code", desc := "(Ljava/lang/String;)J" } : Jvm.MethodName) prog_15_method_24_code 4 (Option.some Jvm.ClassFile.FieldType.long) :: wAll) ({ frames := 4, cells := 0, slots := 0, locals := 85 } : Room) (va_Pc [.ref (ad 11)] (gPre D ca ad av [] sz)) (Q_M_code_10 D ca  (va_A [] sz)) 0 0 (va_A [] sz) := by
  refine gMet (Qc := Q_M_code_10 D ca ) (lv := [(0, .ref (ad 11))]) (by decide) (Nat.le_of_ble_eq_true rfl) rfl (fun A p e s m below meth c ls hx hb hr hml hown hts hlk hnm hl hP hK hD hS hA hX => ?_)
  have hown : s.vm.findClass "StaveHouseModel" = some m.cls := hown
  have hnm : meth.name = "code" := hnm
  refine lv_lconst (v := 0) hx hb d_15_24_0 (by decide) ?_
  refine lv_lstore_n (lv' := [(1, .long 0), (0, .ref (ad 11))]) hx hb d_15_24_1 rfl hl (by decide) rfl (fun ls hl => ?_)
  refine lv_iconst (v := 0) hx hb d_15_24_2 (by decide) ?_
  refine lv_istore_n (lv' := [(3, .int 0), (1, .long 0), (0, .ref (ad 11))]) hx hb d_15_24_3 rfl hl (by decide) rfl (fun ls hl => ?_)
  refine lv_iload_n hx hb d_15_24_4 rfl (lv_at hl 0 rfl) ?_
  refine lv_aload_n hx hb d_15_24_5 rfl (lv_at hl 2 rfl) ?_
  have hFc1 := va_free (wc := []) hD hS hA [] rfl
  refine va_calli (va_runV (As := []) (rest := [.int 0]) ⟨hx, hb, hml, hown, hts⟩ (c_String_length_10 l D ca ad av s.heap.size  ) (cwV 0 hts (gdV k_10_194 k_3_82 k_3_83 k_1_11 k_3_84) rfl rfl rfl (by decide +kernel) ⟨Nat.le_of_ble_eq_true rfl, Nat.le_of_ble_eq_true rfl⟩) ⟨gBlind, vk_recv (i := 0) (hX.2.2.2.2.1 11 _ rfl).2 (by decide) hS, gAt hP hD hK hS hA hX [] (by decide) rfl [.ref (ad 11)]⟩ rfl rfl hl.1 rfl (lv_room (Nat.le_of_ble_eq_true rfl)) d_15_24_6 ⟨Nat.le_of_ble_eq_true rfl, Nat.le_of_ble_eq_true rfl⟩) hS (fun q _ h => hFc1 q h) hFc1 (fun r1 u1 t1 H1 locs1 ht1 hvm1 hw1 hB1 hz1 hk1 hS1 => ?_)
  have hr1 := hw1
  obtain ⟨hP1, hD1⟩ := gJoin (wr := []) (w1 := []) hP hD [] [] rfl rfl (by decide) (by decide) hk1 hFc1 ht1 hB1
  have hP1 : va_P D cls [] H1 := hP1
  have hD1 : va_D A [] := hD1
  refine W.widen (k := 0) (n := 0) (Nat.le_of_ble_eq_true rfl) (Nat.le_of_ble_eq_true rfl) ?_
  subst hr1
  refine lv_icmp_ge (tgt := 30) hx hb d_15_24_9 (by decide) (fun c => absurd c (by decide)) (fun _ => ?_)
  refine lv_lload_n hx hb d_15_24_12 rfl (lv_at hl 1 rfl) ?_
  refine lv_bipush (v := 8) hx hb d_15_24_13 (by decide) ?_
  refine lv_lshl hx hb d_15_24_15 rfl ?_
  refine lv_topl (fun y2 ey2 => ?_)
  obtain rfl : y2 = 0 := ey2.trans (by decide)
  refine lv_aload_n hx hb d_15_24_16 rfl (lv_at hl 2 rfl) ?_
  refine lv_iload_n hx hb d_15_24_17 rfl (lv_at hl 0 rfl) ?_
  have hFc3 := va_free (wc := []) hD1 hS1 hA [] rfl
  refine va_calli (va_runV (As := [.int 0]) (rest := [.long 0]) ⟨hx, hb, hml, hown, hts⟩ (c_String_charAt_30 l D ca ad av H1.size  ) (cwV 1 hts (gdV k_10_195 k_7_134 k_7_135 k_1_11 k_7_136) rfl rfl rfl (by decide +kernel) ⟨Nat.le_of_ble_eq_true rfl, Nat.le_of_ble_eq_true rfl⟩) ⟨gBlind, vk_recv (i := 0) (hX.2.2.2.2.1 11 _ rfl).2 (by decide) hS1, gAt hP1 hD1 hK hS1 hA hX [] (by decide) rfl [.ref (ad 11), .int 0]⟩ rfl rfl hl.1 rfl (lv_room (Nat.le_of_ble_eq_true rfl)) d_15_24_18 ⟨Nat.le_of_ble_eq_true rfl, Nat.le_of_ble_eq_true rfl⟩) hS1 (fun q _ h => hFc3 q h) hFc3 (fun r3 u3 t3 H3 locs3 ht3 hvm3 hw3 hB3 hz3 hk3 hS3 => ?_)
  have hr3 := hw3
  obtain ⟨hP3, hD3⟩ := gJoin (wr := []) (w1 := []) hP1 hD1 [] [] rfl rfl (by decide) (by decide) hk3 hFc3 ht3 hB3
  have hP3 : va_P D cls [] H3 := hP3
  have hD3 : va_D A [] := hD3
  refine W.widen (k := 0) (n := 0) (Nat.le_of_ble_eq_true rfl) (Nat.le_of_ble_eq_true rfl) ?_
  subst hr3
  refine lv_i2l hx hb d_15_24_21 rfl ?_
  refine lv_topl (fun y4 ey4 => ?_)
  obtain rfl : y4 = 102 := ey4.trans (by decide)
  refine lv_lor hx hb d_15_24_22 ?_
  refine lv_topl (fun y5 ey5 => ?_)
  obtain rfl : y5 = 102 := ey5.trans (by decide)
  refine lv_lstore_n (lv' := [(1, .long 102), (3, .int 0), (0, .ref (ad 11))]) hx hb d_15_24_23 rfl hl (by decide) rfl (fun ls hl => ?_)
  refine lv_iinc (v := 1) (lv' := [(3, .int 1), (1, .long 102), (0, .ref (ad 11))]) hx hb d_15_24_24 hl (k := 1) rfl (by decide) (by decide) rfl (fun ls hl => ?_)
  refine lv_goto (tgt := 4) hx hb d_15_24_27 (by decide) ?_
  refine lv_iload_n hx hb d_15_24_4 rfl (lv_at hl 0 rfl) ?_
  refine lv_aload_n hx hb d_15_24_5 rfl (lv_at hl 2 rfl) ?_
  have hFc6 := va_free (wc := []) hD3 hS3 hA [] rfl
  refine va_calli (va_runV (As := []) (rest := [.int 1]) ⟨hx, hb, hml, hown, hts⟩ (c_String_length_10 l D ca ad av H3.size  ) (cwV 0 hts (gdV k_10_194 k_3_82 k_3_83 k_1_11 k_3_84) rfl rfl rfl (by decide +kernel) ⟨Nat.le_of_ble_eq_true rfl, Nat.le_of_ble_eq_true rfl⟩) ⟨gBlind, vk_recv (i := 0) (hX.2.2.2.2.1 11 _ rfl).2 (by decide) hS3, gAt hP3 hD3 hK hS3 hA hX [] (by decide) rfl [.ref (ad 11)]⟩ rfl rfl hl.1 rfl (lv_room (Nat.le_of_ble_eq_true rfl)) d_15_24_6 ⟨Nat.le_of_ble_eq_true rfl, Nat.le_of_ble_eq_true rfl⟩) hS3 (fun q _ h => hFc6 q h) hFc6 (fun r6 u6 t6 H6 locs6 ht6 hvm6 hw6 hB6 hz6 hk6 hS6 => ?_)
  have hr6 := hw6
  obtain ⟨hP6, hD6⟩ := gJoin (wr := []) (w1 := []) hP3 hD3 [] [] rfl rfl (by decide) (by decide) hk6 hFc6 ht6 hB6
  have hP6 : va_P D cls [] H6 := hP6
  have hD6 : va_D A [] := hD6
  refine W.widen (k := 0) (n := 0) (Nat.le_of_ble_eq_true rfl) (Nat.le_of_ble_eq_true rfl) ?_
  subst hr6
  refine lv_icmp_ge (tgt := 30) hx hb d_15_24_9 (by decide) (fun c => absurd c (by decide)) (fun _ => ?_)
  refine lv_lload_n hx hb d_15_24_12 rfl (lv_at hl 1 rfl) ?_
  refine lv_bipush (v := 8) hx hb d_15_24_13 (by decide) ?_
  refine lv_lshl hx hb d_15_24_15 rfl ?_
  refine lv_topl (fun y7 ey7 => ?_)
  obtain rfl : y7 = 26112 := ey7.trans (by decide)
  refine lv_aload_n hx hb d_15_24_16 rfl (lv_at hl 2 rfl) ?_
  refine lv_iload_n hx hb d_15_24_17 rfl (lv_at hl 0 rfl) ?_
  have hFc8 := va_free (wc := []) hD6 hS6 hA [] rfl
  refine va_calli (va_runV (As := [.int 1]) (rest := [.long 26112]) ⟨hx, hb, hml, hown, hts⟩ (c_String_charAt_31 l D ca ad av H6.size  ) (cwV 1 hts (gdV k_10_195 k_7_134 k_7_135 k_1_11 k_7_136) rfl rfl rfl (by decide +kernel) ⟨Nat.le_of_ble_eq_true rfl, Nat.le_of_ble_eq_true rfl⟩) ⟨gBlind, vk_recv (i := 0) (hX.2.2.2.2.1 11 _ rfl).2 (by decide) hS6, gAt hP6 hD6 hK hS6 hA hX [] (by decide) rfl [.ref (ad 11), .int 1]⟩ rfl rfl hl.1 rfl (lv_room (Nat.le_of_ble_eq_true rfl)) d_15_24_18 ⟨Nat.le_of_ble_eq_true rfl, Nat.le_of_ble_eq_true rfl⟩) hS6 (fun q _ h => hFc8 q h) hFc8 (fun r8 u8 t8 H8 locs8 ht8 hvm8 hw8 hB8 hz8 hk8 hS8 => ?_)
  have hr8 := hw8
  obtain ⟨hP8, hD8⟩ := gJoin (wr := []) (w1 := []) hP6 hD6 [] [] rfl rfl (by decide) (by decide) hk8 hFc8 ht8 hB8
  have hP8 : va_P D cls [] H8 := hP8
  have hD8 : va_D A [] := hD8
  refine W.widen (k := 0) (n := 0) (Nat.le_of_ble_eq_true rfl) (Nat.le_of_ble_eq_true rfl) ?_
  subst hr8
  refine lv_i2l hx hb d_15_24_21 rfl ?_
  refine lv_topl (fun y9 ey9 => ?_)
  obtain rfl : y9 = 102 := ey9.trans (by decide)
  refine lv_lor hx hb d_15_24_22 ?_
  refine lv_topl (fun y10 ey10 => ?_)
  obtain rfl : y10 = 26214 := ey10.trans (by decide)
  refine lv_lstore_n (lv' := [(1, .long 26214), (3, .int 1), (0, .ref (ad 11))]) hx hb d_15_24_23 rfl hl (by decide) rfl (fun ls hl => ?_)
  refine lv_iinc (v := 2) (lv' := [(3, .int 2), (1, .long 26214), (0, .ref (ad 11))]) hx hb d_15_24_24 hl (k := 1) rfl (by decide) (by decide) rfl (fun ls hl => ?_)
  refine lv_goto (tgt := 4) hx hb d_15_24_27 (by decide) ?_
  refine lv_iload_n hx hb d_15_24_4 rfl (lv_at hl 0 rfl) ?_
  refine lv_aload_n hx hb d_15_24_5 rfl (lv_at hl 2 rfl) ?_
  have hFc11 := va_free (wc := []) hD8 hS8 hA [] rfl
  refine va_calli (va_runV (As := []) (rest := [.int 2]) ⟨hx, hb, hml, hown, hts⟩ (c_String_length_10 l D ca ad av H8.size  ) (cwV 0 hts (gdV k_10_194 k_3_82 k_3_83 k_1_11 k_3_84) rfl rfl rfl (by decide +kernel) ⟨Nat.le_of_ble_eq_true rfl, Nat.le_of_ble_eq_true rfl⟩) ⟨gBlind, vk_recv (i := 0) (hX.2.2.2.2.1 11 _ rfl).2 (by decide) hS8, gAt hP8 hD8 hK hS8 hA hX [] (by decide) rfl [.ref (ad 11)]⟩ rfl rfl hl.1 rfl (lv_room (Nat.le_of_ble_eq_true rfl)) d_15_24_6 ⟨Nat.le_of_ble_eq_true rfl, Nat.le_of_ble_eq_true rfl⟩) hS8 (fun q _ h => hFc11 q h) hFc11 (fun r11 u11 t11 H11 locs11 ht11 hvm11 hw11 hB11 hz11 hk11 hS11 => ?_)
  have hr11 := hw11
  obtain ⟨hP11, hD11⟩ := gJoin (wr := []) (w1 := []) hP8 hD8 [] [] rfl rfl (by decide) (by decide) hk11 hFc11 ht11 hB11
  have hP11 : va_P D cls [] H11 := hP11
  have hD11 : va_D A [] := hD11
  refine W.widen (k := 0) (n := 0) (Nat.le_of_ble_eq_true rfl) (Nat.le_of_ble_eq_true rfl) ?_
  subst hr11
  refine lv_icmp_ge (tgt := 30) hx hb d_15_24_9 (by decide) (fun _ => ?_) (fun c => absurd (by decide) c)
  refine lv_lload_n hx hb d_15_24_30 rfl (lv_at hl 1 rfl) ?_
  have hP9 := hP11.sub (ws' := []) [] rfl
  have hD9 := hD11.sub (ws' := []) [] (by decide) rfl
  refine W.widen (k := 0) (n := 0) (Nat.le_of_ble_eq_true rfl) (Nat.le_of_ble_eq_true rfl) ?_
  exact W.lret (v := 26214) hx hb hr (fun t ht hW => ⟨⟨26214, (), rfl, rfl, by rw [ht]; exact hP9, va_K.moved hW.alike hK, hD9⟩, hS11.F ht⟩) hS11.2.2 d_15_24_31
abbrev Q_String_coder_11 (D : va_G) (ca : Nat → ClassId)  (A : Nat → Prop) : Array Value → State → Outcome → State → Prop := va_Qi (S := Unit) (fun (r : Int32) (u : Unit) => r = 0) (fun u => gB D ca A []) A
set_option maxHeartbeats 8000000 in
set_option maxRecDepth 100000 in
theorem c_String_coder_11 (l : Launch) (D : va_G) (ca : Nat → ClassId) (ad av : Nat → Nat) (sz : Nat)   : Met l ({ cls := "java/lang/String", name := "coder", desc := "()B" } : Jvm.MethodName) (Cond.code ({ cls := "java/lang/String", name := "coder", desc := "()B" } : Jvm.MethodName) prog_21_method_152_code 1 (Option.some Jvm.ClassFile.FieldType.byte) :: wAll) ({ frames := 0, cells := 0, slots := 0, locals := 0 } : Room) (va_Pc [.ref (ad 12)] (gPre D ca ad av [] sz)) (Q_String_coder_11 D ca  (va_A [] sz)) 0 0 (va_A [] sz) := by
  refine gMet (Qc := Q_String_coder_11 D ca ) (lv := [(0, .ref (ad 12))]) (by decide) (Nat.le_of_ble_eq_true rfl) rfl (fun A p e s m below meth c ls hx hb hr hml hown hts hlk hnm hl hP hK hD hS hA hX => ?_)
  have hown : s.vm.findClass "java/lang/String" = some m.cls := hown
  have hnm : meth.name = "coder" := hnm
  refine va_gets hx hb (hX.2.2.2.1 _ (List.mem_of_getElem? (i := 0) rfl)) hS hown (hts _ k_3_79) (fun _ h => h) d_21_152_0 ?_
  refine lv_if_eq (tgt := 13) hx hb d_21_152_3 (by decide) (fun c => absurd c (by decide)) (fun _ => ?_)
  refine lv_aload_n hx hb d_21_152_6 rfl (lv_at hl 0 rfl) ?_
  refine vk_getf hx hb ((hX.2.2.2.2.1 12 _ rfl).2.1 0 (by decide)).2.1 hS hown (hts _ k_15_171) (fun _ h => h) d_21_152_7 ?_
  refine W.eq (g2 := F0 m 10 ls [.int 0]) rfl ?_
  refine lv_goto (tgt := 14) hx hb d_21_152_10 (by decide) ?_
  have hP9 := hP.sub (ws' := []) [] rfl
  have hD9 := hD.sub (ws' := []) [] (by decide) rfl
  refine W.widen (k := 0) (n := 0) (Nat.le_of_ble_eq_true rfl) (Nat.le_of_ble_eq_true rfl) ?_
  exact W.zret (v := 0) hx hb hr rfl (fun t ht hW => ⟨⟨0, (), rfl, rfl, by rw [ht]; exact hP9, va_K.moved hW.alike hK, hD9⟩, hS.F ht⟩) hS.2.2 d_21_152_14
abbrev Q_String_length_11 (D : va_G) (ca : Nat → ClassId)  (A : Nat → Prop) : Array Value → State → Outcome → State → Prop := va_Qi (S := Unit) (fun (r : Int32) (u : Unit) => r = 3) (fun u => gB D ca A []) A
set_option maxHeartbeats 8000000 in
set_option maxRecDepth 100000 in
theorem c_String_length_11 (l : Launch) (D : va_G) (ca : Nat → ClassId) (ad av : Nat → Nat) (sz : Nat)   : Met l ({ cls := "java/lang/String", name := "length", desc := "()I" } : Jvm.MethodName) (Cond.code ({ cls := "java/lang/String", name := "length", desc := "()I" } : Jvm.MethodName) prog_21_method_54_code 1 (Option.some Jvm.ClassFile.FieldType.int) :: wAll) ({ frames := 1, cells := 0, slots := 0, locals := 20 } : Room) (va_Pc [.ref (ad 12)] (gPre D ca ad av [] sz)) (Q_String_length_11 D ca  (va_A [] sz)) 0 0 (va_A [] sz) := by
  refine gMet (Qc := Q_String_length_11 D ca ) (lv := [(0, .ref (ad 12))]) (by decide) (Nat.le_of_ble_eq_true rfl) rfl (fun A p e s m below meth c ls hx hb hr hml hown hts hlk hnm hl hP hK hD hS hA hX => ?_)
  have hown : s.vm.findClass "java/lang/String" = some m.cls := hown
  have hnm : meth.name = "length" := hnm
  refine lv_aload_n hx hb d_21_54_0 rfl (lv_at hl 0 rfl) ?_
  refine vk_getf hx hb ((hX.2.2.2.2.1 12 _ rfl).2.1 0 (by decide)).2.2.1 hS hown (hts _ k_15_170) (fun _ h => h) d_21_54_1 ?_
  refine W.eq (g2 := F0 m 4 ls [.ref (av 12)]) rfl ?_
  refine va_tlen (v := 3) hx hb ((hX.2.2.2.2.1 12 _ rfl).2.1 0 (by decide)).2.2.2 hS (by decide) d_21_54_4 ?_
  refine lv_aload_n hx hb d_21_54_5 rfl (lv_at hl 0 rfl) ?_
  have hFc1 := va_free (wc := []) hD hS hA [] rfl
  refine va_calli (va_runV (As := []) (rest := [.int 3]) ⟨hx, hb, hml, hown, hts⟩ (c_String_coder_11 l D ca ad av s.heap.size  ) (cwV 0 hts (gdV k_3_85 k_3_86 k_3_87 k_1_11 k_3_88) rfl rfl rfl (by decide +kernel) ⟨Nat.le_of_ble_eq_true rfl, Nat.le_of_ble_eq_true rfl⟩) ⟨gBlind, vk_recv (i := 0) (hX.2.2.2.2.1 12 _ rfl).2 (by decide) hS, gAt hP hD hK hS hA hX [] (by decide) rfl [.ref (ad 12)]⟩ rfl rfl hl.1 rfl (lv_room (Nat.le_of_ble_eq_true rfl)) d_21_54_6 ⟨Nat.le_of_ble_eq_true rfl, Nat.le_of_ble_eq_true rfl⟩) hS (fun q _ h => hFc1 q h) hFc1 (fun r1 u1 t1 H1 locs1 ht1 hvm1 hw1 hB1 hz1 hk1 hS1 => ?_)
  have hr1 := hw1
  obtain ⟨hP1, hD1⟩ := gJoin (wr := []) (w1 := []) hP hD [] [] rfl rfl (by decide) (by decide) hk1 hFc1 ht1 hB1
  have hP1 : va_P D cls [] H1 := hP1
  have hD1 : va_D A [] := hD1
  refine W.widen (k := 0) (n := 0) (Nat.le_of_ble_eq_true rfl) (Nat.le_of_ble_eq_true rfl) ?_
  subst hr1
  refine lv_ishr hx hb d_21_54_9 ?_
  refine lv_topi (fun y2 ey2 => ?_)
  obtain rfl : y2 = 3 := ey2.trans (by decide)
  have hP9 := hP1.sub (ws' := []) [] rfl
  have hD9 := hD1.sub (ws' := []) [] (by decide) rfl
  refine W.widen (k := 0) (n := 0) (Nat.le_of_ble_eq_true rfl) (Nat.le_of_ble_eq_true rfl) ?_
  exact W.iret (v := 3) hx hb hr (fun t ht hW => ⟨⟨3, (), rfl, rfl, by rw [ht]; exact hP9, va_K.moved hW.alike hK, hD9⟩, hS1.F ht⟩) hS1.2.2 d_21_54_10
abbrev Q_String_isLatin1_11 (D : va_G) (ca : Nat → ClassId)  (A : Nat → Prop) : Array Value → State → Outcome → State → Prop := va_Qi (S := Unit) (fun (r : Int32) (u : Unit) => r = 1) (fun u => gB D ca A []) A
set_option maxHeartbeats 8000000 in
set_option maxRecDepth 100000 in
theorem c_String_isLatin1_11 (l : Launch) (D : va_G) (ca : Nat → ClassId) (ad av : Nat → Nat) (sz : Nat)   : Met l ({ cls := "java/lang/String", name := "isLatin1", desc := "()Z" } : Jvm.MethodName) (Cond.code ({ cls := "java/lang/String", name := "isLatin1", desc := "()Z" } : Jvm.MethodName) prog_21_method_154_code 1 (Option.some Jvm.ClassFile.FieldType.boolean) :: wAll) ({ frames := 0, cells := 0, slots := 0, locals := 0 } : Room) (va_Pc [.ref (ad 12)] (gPre D ca ad av [] sz)) (Q_String_isLatin1_11 D ca  (va_A [] sz)) 0 0 (va_A [] sz) := by
  refine gMet (Qc := Q_String_isLatin1_11 D ca ) (lv := [(0, .ref (ad 12))]) (by decide) (Nat.le_of_ble_eq_true rfl) rfl (fun A p e s m below meth c ls hx hb hr hml hown hts hlk hnm hl hP hK hD hS hA hX => ?_)
  have hown : s.vm.findClass "java/lang/String" = some m.cls := hown
  have hnm : meth.name = "isLatin1" := hnm
  refine va_gets hx hb (hX.2.2.2.1 _ (List.mem_of_getElem? (i := 0) rfl)) hS hown (hts _ k_3_79) (fun _ h => h) d_21_154_0 ?_
  refine lv_if_eq (tgt := 17) hx hb d_21_154_3 (by decide) (fun c => absurd c (by decide)) (fun _ => ?_)
  refine lv_aload_n hx hb d_21_154_6 rfl (lv_at hl 0 rfl) ?_
  refine vk_getf hx hb ((hX.2.2.2.2.1 12 _ rfl).2.1 0 (by decide)).2.1 hS hown (hts _ k_15_171) (fun _ h => h) d_21_154_7 ?_
  refine W.eq (g2 := F0 m 10 ls [.int 0]) rfl ?_
  refine lv_if_ne (tgt := 17) hx hb d_21_154_10 (by decide) (fun c => absurd c (by decide)) (fun _ => ?_)
  refine lv_iconst (v := 1) hx hb d_21_154_13 (by decide) ?_
  refine lv_goto (tgt := 18) hx hb d_21_154_14 (by decide) ?_
  have hP9 := hP.sub (ws' := []) [] rfl
  have hD9 := hD.sub (ws' := []) [] (by decide) rfl
  refine W.widen (k := 0) (n := 0) (Nat.le_of_ble_eq_true rfl) (Nat.le_of_ble_eq_true rfl) ?_
  exact W.zret (v := 1) hx hb hr rfl (fun t ht hW => ⟨⟨1, (), rfl, rfl, by rw [ht]; exact hP9, va_K.moved hW.alike hK, hD9⟩, hS.F ht⟩) hS.2.2 d_21_154_18
abbrev Q_StringLatin1_charAt_32 (D : va_G) (ca : Nat → ClassId)  (A : Nat → Prop) : Array Value → State → Outcome → State → Prop := va_Qi (S := Unit) (fun (r : Int32) (u : Unit) => r = 102) (fun u => gB D ca A []) A
set_option maxHeartbeats 8000000 in
set_option maxRecDepth 100000 in
theorem c_StringLatin1_charAt_32 (l : Launch) (D : va_G) (ca : Nat → ClassId) (ad av : Nat → Nat) (sz : Nat)   : Met l ({ cls := "java/lang/StringLatin1", name := "charAt", desc := "([BI)C" } : Jvm.MethodName) (Cond.code ({ cls := "java/lang/StringLatin1", name := "charAt", desc := "([BI)C" } : Jvm.MethodName) prog_22_method_2_code 2 (Option.some Jvm.ClassFile.FieldType.char) :: wAll) ({ frames := 2, cells := 0, slots := 0, locals := 43 } : Room) (va_Pc [.ref (av 12), .int 0] (gPre D ca ad av [] sz)) (Q_StringLatin1_charAt_32 D ca  (va_A [] sz)) 0 0 (va_A [] sz) := by
  refine gMet (Qc := Q_StringLatin1_charAt_32 D ca ) (lv := [(0, .ref (av 12)), (1, .int 0)]) (by decide) (Nat.le_of_ble_eq_true rfl) rfl (fun A p e s m below meth c ls hx hb hr hml hown hts hlk hnm hl hP hK hD hS hA hX => ?_)
  have hown : s.vm.findClass "java/lang/StringLatin1" = some m.cls := hown
  have hnm : meth.name = "charAt" := hnm
  refine lv_iload_n hx hb d_22_2_0 rfl (lv_at hl 1 rfl) ?_
  refine lv_aload_n hx hb d_22_2_1 rfl (lv_at hl 0 rfl) ?_
  refine va_tlen (v := 3) hx hb ((hX.2.2.2.2.1 12 _ rfl).2.1 0 (by decide)).2.2.2 hS (by decide) d_22_2_2 ?_
  have hFc1 := va_free (wc := []) hD hS hA [] rfl
  refine va_callv (va_runS (As := [.int 0, .int 3]) (rest := []) ⟨hx, hb, hml, hown, hts⟩ (c_String_checkIndex_15 l D ca ad av s.heap.size  ) (va_cwS 2 hts (gdS k_7_140 k_7_141 k_1_11 k_7_142) rfl rfl rfl (by decide +kernel) ⟨Nat.le_of_ble_eq_true rfl, Nat.le_of_ble_eq_true rfl⟩) (gPS hP hD hK hS hA hX [] (by decide) rfl [.int 0, .int 3]) rfl rfl hl.1 rfl (lv_room (Nat.le_of_ble_eq_true rfl)) d_22_2_3 ⟨Nat.le_of_ble_eq_true rfl, Nat.le_of_ble_eq_true rfl⟩) hS (fun q _ h => hFc1 q h) hFc1 (fun u1 t1 H1 locs1 ht1 hvm1 hw1 hB1 hz1 hk1 hS1 => ?_)
  obtain ⟨hP1, hD1⟩ := gJoin (wr := []) (w1 := []) hP hD [] [] rfl rfl (by decide) (by decide) hk1 hFc1 ht1 hB1
  have hP1 : va_P D cls [] H1 := hP1
  have hD1 : va_D A [] := hD1
  refine W.widen (k := 0) (n := 0) (Nat.le_of_ble_eq_true rfl) (Nat.le_of_ble_eq_true rfl) ?_
  refine lv_aload_n hx hb d_22_2_6 rfl (lv_at hl 0 rfl) ?_
  refine lv_iload_n hx hb d_22_2_7 rfl (lv_at hl 1 rfl) ?_
  refine va_tb (v := .int 102) hx hb ((hX.2.2.2.2.1 12 _ rfl).2.1 0 (by decide)).2.2.2 hS1 (vinC (by decide)) rfl d_22_2_8 ?_
  refine lv_sipush (v := 255) hx hb d_22_2_9 (by decide) ?_
  refine lv_iand hx hb d_22_2_12 ?_
  refine lv_topi (fun y2 ey2 => ?_)
  obtain rfl : y2 = 102 := ey2.trans (by decide)
  refine lv_i2c hx hb d_22_2_13 rfl ?_
  refine lv_topi (fun y3 ey3 => ?_)
  obtain rfl : y3 = 102 := ey3.trans (by decide)
  have hP9 := hP1.sub (ws' := []) [] rfl
  have hD9 := hD1.sub (ws' := []) [] (by decide) rfl
  refine W.widen (k := 0) (n := 0) (Nat.le_of_ble_eq_true rfl) (Nat.le_of_ble_eq_true rfl) ?_
  exact W.zret (v := 102) hx hb hr rfl (fun t ht hW => ⟨⟨102, (), rfl, rfl, by rw [ht]; exact hP9, va_K.moved hW.alike hK, hD9⟩, hS1.F ht⟩) hS1.2.2 d_22_2_14
abbrev Q_String_charAt_32 (D : va_G) (ca : Nat → ClassId)  (A : Nat → Prop) : Array Value → State → Outcome → State → Prop := va_Qi (S := Unit) (fun (r : Int32) (u : Unit) => r = 102) (fun u => gB D ca A []) A
set_option maxHeartbeats 8000000 in
set_option maxRecDepth 100000 in
theorem c_String_charAt_32 (l : Launch) (D : va_G) (ca : Nat → ClassId) (ad av : Nat → Nat) (sz : Nat)   : Met l ({ cls := "java/lang/String", name := "charAt", desc := "(I)C" } : Jvm.MethodName) (Cond.code ({ cls := "java/lang/String", name := "charAt", desc := "(I)C" } : Jvm.MethodName) prog_21_method_56_code 2 (Option.some Jvm.ClassFile.FieldType.char) :: wAll) ({ frames := 3, cells := 0, slots := 0, locals := 64 } : Room) (va_Pc [.ref (ad 12), .int 0] (gPre D ca ad av [] sz)) (Q_String_charAt_32 D ca  (va_A [] sz)) 0 0 (va_A [] sz) := by
  refine gMet (Qc := Q_String_charAt_32 D ca ) (lv := [(0, .ref (ad 12)), (1, .int 0)]) (by decide) (Nat.le_of_ble_eq_true rfl) rfl (fun A p e s m below meth c ls hx hb hr hml hown hts hlk hnm hl hP hK hD hS hA hX => ?_)
  have hown : s.vm.findClass "java/lang/String" = some m.cls := hown
  have hnm : meth.name = "charAt" := hnm
  refine lv_aload_n hx hb d_21_56_0 rfl (lv_at hl 0 rfl) ?_
  have hFc1 := va_free (wc := []) hD hS hA [] rfl
  refine va_calli (va_runV (As := []) (rest := []) ⟨hx, hb, hml, hown, hts⟩ (c_String_isLatin1_11 l D ca ad av s.heap.size  ) (cwV 0 hts (gdV k_3_75 k_3_76 k_3_77 k_1_11 k_3_78) rfl rfl rfl (by decide +kernel) ⟨Nat.le_of_ble_eq_true rfl, Nat.le_of_ble_eq_true rfl⟩) ⟨gBlind, vk_recv (i := 0) (hX.2.2.2.2.1 12 _ rfl).2 (by decide) hS, gAt hP hD hK hS hA hX [] (by decide) rfl [.ref (ad 12)]⟩ rfl rfl hl.1 rfl (lv_room (Nat.le_of_ble_eq_true rfl)) d_21_56_1 ⟨Nat.le_of_ble_eq_true rfl, Nat.le_of_ble_eq_true rfl⟩) hS (fun q _ h => hFc1 q h) hFc1 (fun r1 u1 t1 H1 locs1 ht1 hvm1 hw1 hB1 hz1 hk1 hS1 => ?_)
  have hr1 := hw1
  obtain ⟨hP1, hD1⟩ := gJoin (wr := []) (w1 := []) hP hD [] [] rfl rfl (by decide) (by decide) hk1 hFc1 ht1 hB1
  have hP1 : va_P D cls [] H1 := hP1
  have hD1 : va_D A [] := hD1
  refine W.widen (k := 0) (n := 0) (Nat.le_of_ble_eq_true rfl) (Nat.le_of_ble_eq_true rfl) ?_
  subst hr1
  refine lv_if_eq (tgt := 16) hx hb d_21_56_4 (by decide) (fun c => absurd c (by decide)) (fun _ => ?_)
  refine lv_aload_n hx hb d_21_56_7 rfl (lv_at hl 0 rfl) ?_
  refine vk_getf hx hb ((hX.2.2.2.2.1 12 _ rfl).2.1 0 (by decide)).2.2.1 hS1 hown (hts _ k_15_170) (fun _ h => h) d_21_56_8 ?_
  refine W.eq (g2 := F0 m 11 ls [.ref (av 12)]) rfl ?_
  refine lv_iload_n hx hb d_21_56_11 rfl (lv_at hl 1 rfl) ?_
  have hFc2 := va_free (wc := []) hD1 hS1 hA [] rfl
  refine va_calli (va_runS (As := [.ref (av 12), .int 0]) (rest := []) ⟨hx, hb, hml, hown, hts⟩ (c_StringLatin1_charAt_32 l D ca ad av H1.size  ) (va_cwS 2 hts (gdS k_7_137 k_7_138 k_1_12 k_7_139) rfl rfl rfl (by decide +kernel) ⟨Nat.le_of_ble_eq_true rfl, Nat.le_of_ble_eq_true rfl⟩) (gPS hP1 hD1 hK hS1 hA hX [] (by decide) rfl [.ref (av 12), .int 0]) rfl rfl hl.1 rfl (lv_room (Nat.le_of_ble_eq_true rfl)) d_21_56_12 ⟨Nat.le_of_ble_eq_true rfl, Nat.le_of_ble_eq_true rfl⟩) hS1 (fun q _ h => hFc2 q h) hFc2 (fun r2 u2 t2 H2 locs2 ht2 hvm2 hw2 hB2 hz2 hk2 hS2 => ?_)
  have hr2 := hw2
  obtain ⟨hP2, hD2⟩ := gJoin (wr := []) (w1 := []) hP1 hD1 [] [] rfl rfl (by decide) (by decide) hk2 hFc2 ht2 hB2
  have hP2 : va_P D cls [] H2 := hP2
  have hD2 : va_D A [] := hD2
  refine W.widen (k := 0) (n := 0) (Nat.le_of_ble_eq_true rfl) (Nat.le_of_ble_eq_true rfl) ?_
  subst hr2
  have hP9 := hP2.sub (ws' := []) [] rfl
  have hD9 := hD2.sub (ws' := []) [] (by decide) rfl
  refine W.widen (k := 0) (n := 0) (Nat.le_of_ble_eq_true rfl) (Nat.le_of_ble_eq_true rfl) ?_
  exact W.zret (v := 102) hx hb hr rfl (fun t ht hW => ⟨⟨102, (), rfl, rfl, by rw [ht]; exact hP9, va_K.moved hW.alike hK, hD9⟩, hS2.F ht⟩) hS2.2.2 d_21_56_15
abbrev Q_StringLatin1_charAt_33 (D : va_G) (ca : Nat → ClassId)  (A : Nat → Prop) : Array Value → State → Outcome → State → Prop := va_Qi (S := Unit) (fun (r : Int32) (u : Unit) => r = 102) (fun u => gB D ca A []) A
set_option maxHeartbeats 8000000 in
set_option maxRecDepth 100000 in
theorem c_StringLatin1_charAt_33 (l : Launch) (D : va_G) (ca : Nat → ClassId) (ad av : Nat → Nat) (sz : Nat)   : Met l ({ cls := "java/lang/StringLatin1", name := "charAt", desc := "([BI)C" } : Jvm.MethodName) (Cond.code ({ cls := "java/lang/StringLatin1", name := "charAt", desc := "([BI)C" } : Jvm.MethodName) prog_22_method_2_code 2 (Option.some Jvm.ClassFile.FieldType.char) :: wAll) ({ frames := 2, cells := 0, slots := 0, locals := 43 } : Room) (va_Pc [.ref (av 12), .int 1] (gPre D ca ad av [] sz)) (Q_StringLatin1_charAt_33 D ca  (va_A [] sz)) 0 0 (va_A [] sz) := by
  refine gMet (Qc := Q_StringLatin1_charAt_33 D ca ) (lv := [(0, .ref (av 12)), (1, .int 1)]) (by decide) (Nat.le_of_ble_eq_true rfl) rfl (fun A p e s m below meth c ls hx hb hr hml hown hts hlk hnm hl hP hK hD hS hA hX => ?_)
  have hown : s.vm.findClass "java/lang/StringLatin1" = some m.cls := hown
  have hnm : meth.name = "charAt" := hnm
  refine lv_iload_n hx hb d_22_2_0 rfl (lv_at hl 1 rfl) ?_
  refine lv_aload_n hx hb d_22_2_1 rfl (lv_at hl 0 rfl) ?_
  refine va_tlen (v := 3) hx hb ((hX.2.2.2.2.1 12 _ rfl).2.1 0 (by decide)).2.2.2 hS (by decide) d_22_2_2 ?_
  have hFc1 := va_free (wc := []) hD hS hA [] rfl
  refine va_callv (va_runS (As := [.int 1, .int 3]) (rest := []) ⟨hx, hb, hml, hown, hts⟩ (c_String_checkIndex_16 l D ca ad av s.heap.size  ) (va_cwS 2 hts (gdS k_7_140 k_7_141 k_1_11 k_7_142) rfl rfl rfl (by decide +kernel) ⟨Nat.le_of_ble_eq_true rfl, Nat.le_of_ble_eq_true rfl⟩) (gPS hP hD hK hS hA hX [] (by decide) rfl [.int 1, .int 3]) rfl rfl hl.1 rfl (lv_room (Nat.le_of_ble_eq_true rfl)) d_22_2_3 ⟨Nat.le_of_ble_eq_true rfl, Nat.le_of_ble_eq_true rfl⟩) hS (fun q _ h => hFc1 q h) hFc1 (fun u1 t1 H1 locs1 ht1 hvm1 hw1 hB1 hz1 hk1 hS1 => ?_)
  obtain ⟨hP1, hD1⟩ := gJoin (wr := []) (w1 := []) hP hD [] [] rfl rfl (by decide) (by decide) hk1 hFc1 ht1 hB1
  have hP1 : va_P D cls [] H1 := hP1
  have hD1 : va_D A [] := hD1
  refine W.widen (k := 0) (n := 0) (Nat.le_of_ble_eq_true rfl) (Nat.le_of_ble_eq_true rfl) ?_
  refine lv_aload_n hx hb d_22_2_6 rfl (lv_at hl 0 rfl) ?_
  refine lv_iload_n hx hb d_22_2_7 rfl (lv_at hl 1 rfl) ?_
  refine va_tb (v := .int 102) hx hb ((hX.2.2.2.2.1 12 _ rfl).2.1 0 (by decide)).2.2.2 hS1 (vinC (by decide)) rfl d_22_2_8 ?_
  refine lv_sipush (v := 255) hx hb d_22_2_9 (by decide) ?_
  refine lv_iand hx hb d_22_2_12 ?_
  refine lv_topi (fun y2 ey2 => ?_)
  obtain rfl : y2 = 102 := ey2.trans (by decide)
  refine lv_i2c hx hb d_22_2_13 rfl ?_
  refine lv_topi (fun y3 ey3 => ?_)
  obtain rfl : y3 = 102 := ey3.trans (by decide)
  have hP9 := hP1.sub (ws' := []) [] rfl
  have hD9 := hD1.sub (ws' := []) [] (by decide) rfl
  refine W.widen (k := 0) (n := 0) (Nat.le_of_ble_eq_true rfl) (Nat.le_of_ble_eq_true rfl) ?_
  exact W.zret (v := 102) hx hb hr rfl (fun t ht hW => ⟨⟨102, (), rfl, rfl, by rw [ht]; exact hP9, va_K.moved hW.alike hK, hD9⟩, hS1.F ht⟩) hS1.2.2 d_22_2_14
abbrev Q_String_charAt_33 (D : va_G) (ca : Nat → ClassId)  (A : Nat → Prop) : Array Value → State → Outcome → State → Prop := va_Qi (S := Unit) (fun (r : Int32) (u : Unit) => r = 102) (fun u => gB D ca A []) A
set_option maxHeartbeats 8000000 in
set_option maxRecDepth 100000 in
theorem c_String_charAt_33 (l : Launch) (D : va_G) (ca : Nat → ClassId) (ad av : Nat → Nat) (sz : Nat)   : Met l ({ cls := "java/lang/String", name := "charAt", desc := "(I)C" } : Jvm.MethodName) (Cond.code ({ cls := "java/lang/String", name := "charAt", desc := "(I)C" } : Jvm.MethodName) prog_21_method_56_code 2 (Option.some Jvm.ClassFile.FieldType.char) :: wAll) ({ frames := 3, cells := 0, slots := 0, locals := 64 } : Room) (va_Pc [.ref (ad 12), .int 1] (gPre D ca ad av [] sz)) (Q_String_charAt_33 D ca  (va_A [] sz)) 0 0 (va_A [] sz) := by
  refine gMet (Qc := Q_String_charAt_33 D ca ) (lv := [(0, .ref (ad 12)), (1, .int 1)]) (by decide) (Nat.le_of_ble_eq_true rfl) rfl (fun A p e s m below meth c ls hx hb hr hml hown hts hlk hnm hl hP hK hD hS hA hX => ?_)
  have hown : s.vm.findClass "java/lang/String" = some m.cls := hown
  have hnm : meth.name = "charAt" := hnm
  refine lv_aload_n hx hb d_21_56_0 rfl (lv_at hl 0 rfl) ?_
  have hFc1 := va_free (wc := []) hD hS hA [] rfl
  refine va_calli (va_runV (As := []) (rest := []) ⟨hx, hb, hml, hown, hts⟩ (c_String_isLatin1_11 l D ca ad av s.heap.size  ) (cwV 0 hts (gdV k_3_75 k_3_76 k_3_77 k_1_11 k_3_78) rfl rfl rfl (by decide +kernel) ⟨Nat.le_of_ble_eq_true rfl, Nat.le_of_ble_eq_true rfl⟩) ⟨gBlind, vk_recv (i := 0) (hX.2.2.2.2.1 12 _ rfl).2 (by decide) hS, gAt hP hD hK hS hA hX [] (by decide) rfl [.ref (ad 12)]⟩ rfl rfl hl.1 rfl (lv_room (Nat.le_of_ble_eq_true rfl)) d_21_56_1 ⟨Nat.le_of_ble_eq_true rfl, Nat.le_of_ble_eq_true rfl⟩) hS (fun q _ h => hFc1 q h) hFc1 (fun r1 u1 t1 H1 locs1 ht1 hvm1 hw1 hB1 hz1 hk1 hS1 => ?_)
  have hr1 := hw1
  obtain ⟨hP1, hD1⟩ := gJoin (wr := []) (w1 := []) hP hD [] [] rfl rfl (by decide) (by decide) hk1 hFc1 ht1 hB1
  have hP1 : va_P D cls [] H1 := hP1
  have hD1 : va_D A [] := hD1
  refine W.widen (k := 0) (n := 0) (Nat.le_of_ble_eq_true rfl) (Nat.le_of_ble_eq_true rfl) ?_
  subst hr1
  refine lv_if_eq (tgt := 16) hx hb d_21_56_4 (by decide) (fun c => absurd c (by decide)) (fun _ => ?_)
  refine lv_aload_n hx hb d_21_56_7 rfl (lv_at hl 0 rfl) ?_
  refine vk_getf hx hb ((hX.2.2.2.2.1 12 _ rfl).2.1 0 (by decide)).2.2.1 hS1 hown (hts _ k_15_170) (fun _ h => h) d_21_56_8 ?_
  refine W.eq (g2 := F0 m 11 ls [.ref (av 12)]) rfl ?_
  refine lv_iload_n hx hb d_21_56_11 rfl (lv_at hl 1 rfl) ?_
  have hFc2 := va_free (wc := []) hD1 hS1 hA [] rfl
  refine va_calli (va_runS (As := [.ref (av 12), .int 1]) (rest := []) ⟨hx, hb, hml, hown, hts⟩ (c_StringLatin1_charAt_33 l D ca ad av H1.size  ) (va_cwS 2 hts (gdS k_7_137 k_7_138 k_1_12 k_7_139) rfl rfl rfl (by decide +kernel) ⟨Nat.le_of_ble_eq_true rfl, Nat.le_of_ble_eq_true rfl⟩) (gPS hP1 hD1 hK hS1 hA hX [] (by decide) rfl [.ref (av 12), .int 1]) rfl rfl hl.1 rfl (lv_room (Nat.le_of_ble_eq_true rfl)) d_21_56_12 ⟨Nat.le_of_ble_eq_true rfl, Nat.le_of_ble_eq_true rfl⟩) hS1 (fun q _ h => hFc2 q h) hFc2 (fun r2 u2 t2 H2 locs2 ht2 hvm2 hw2 hB2 hz2 hk2 hS2 => ?_)
  have hr2 := hw2
  obtain ⟨hP2, hD2⟩ := gJoin (wr := []) (w1 := []) hP1 hD1 [] [] rfl rfl (by decide) (by decide) hk2 hFc2 ht2 hB2
  have hP2 : va_P D cls [] H2 := hP2
  have hD2 : va_D A [] := hD2
  refine W.widen (k := 0) (n := 0) (Nat.le_of_ble_eq_true rfl) (Nat.le_of_ble_eq_true rfl) ?_
  subst hr2
  have hP9 := hP2.sub (ws' := []) [] rfl
  have hD9 := hD2.sub (ws' := []) [] (by decide) rfl
  refine W.widen (k := 0) (n := 0) (Nat.le_of_ble_eq_true rfl) (Nat.le_of_ble_eq_true rfl) ?_
  exact W.zret (v := 102) hx hb hr rfl (fun t ht hW => ⟨⟨102, (), rfl, rfl, by rw [ht]; exact hP9, va_K.moved hW.alike hK, hD9⟩, hS2.F ht⟩) hS2.2.2 d_21_56_15
abbrev Q_StringLatin1_charAt_34 (D : va_G) (ca : Nat → ClassId)  (A : Nat → Prop) : Array Value → State → Outcome → State → Prop := va_Qi (S := Unit) (fun (r : Int32) (u : Unit) => r = 102) (fun u => gB D ca A []) A
set_option maxHeartbeats 8000000 in
set_option maxRecDepth 100000 in
theorem c_StringLatin1_charAt_34 (l : Launch) (D : va_G) (ca : Nat → ClassId) (ad av : Nat → Nat) (sz : Nat)   : Met l ({ cls := "java/lang/StringLatin1", name := "charAt", desc := "([BI)C" } : Jvm.MethodName) (Cond.code ({ cls := "java/lang/StringLatin1", name := "charAt", desc := "([BI)C" } : Jvm.MethodName) prog_22_method_2_code 2 (Option.some Jvm.ClassFile.FieldType.char) :: wAll) ({ frames := 2, cells := 0, slots := 0, locals := 43 } : Room) (va_Pc [.ref (av 12), .int 2] (gPre D ca ad av [] sz)) (Q_StringLatin1_charAt_34 D ca  (va_A [] sz)) 0 0 (va_A [] sz) := by
  refine gMet (Qc := Q_StringLatin1_charAt_34 D ca ) (lv := [(0, .ref (av 12)), (1, .int 2)]) (by decide) (Nat.le_of_ble_eq_true rfl) rfl (fun A p e s m below meth c ls hx hb hr hml hown hts hlk hnm hl hP hK hD hS hA hX => ?_)
  have hown : s.vm.findClass "java/lang/StringLatin1" = some m.cls := hown
  have hnm : meth.name = "charAt" := hnm
  refine lv_iload_n hx hb d_22_2_0 rfl (lv_at hl 1 rfl) ?_
  refine lv_aload_n hx hb d_22_2_1 rfl (lv_at hl 0 rfl) ?_
  refine va_tlen (v := 3) hx hb ((hX.2.2.2.2.1 12 _ rfl).2.1 0 (by decide)).2.2.2 hS (by decide) d_22_2_2 ?_
  have hFc1 := va_free (wc := []) hD hS hA [] rfl
  refine va_callv (va_runS (As := [.int 2, .int 3]) (rest := []) ⟨hx, hb, hml, hown, hts⟩ (c_String_checkIndex_17 l D ca ad av s.heap.size  ) (va_cwS 2 hts (gdS k_7_140 k_7_141 k_1_11 k_7_142) rfl rfl rfl (by decide +kernel) ⟨Nat.le_of_ble_eq_true rfl, Nat.le_of_ble_eq_true rfl⟩) (gPS hP hD hK hS hA hX [] (by decide) rfl [.int 2, .int 3]) rfl rfl hl.1 rfl (lv_room (Nat.le_of_ble_eq_true rfl)) d_22_2_3 ⟨Nat.le_of_ble_eq_true rfl, Nat.le_of_ble_eq_true rfl⟩) hS (fun q _ h => hFc1 q h) hFc1 (fun u1 t1 H1 locs1 ht1 hvm1 hw1 hB1 hz1 hk1 hS1 => ?_)
  obtain ⟨hP1, hD1⟩ := gJoin (wr := []) (w1 := []) hP hD [] [] rfl rfl (by decide) (by decide) hk1 hFc1 ht1 hB1
  have hP1 : va_P D cls [] H1 := hP1
  have hD1 : va_D A [] := hD1
  refine W.widen (k := 0) (n := 0) (Nat.le_of_ble_eq_true rfl) (Nat.le_of_ble_eq_true rfl) ?_
  refine lv_aload_n hx hb d_22_2_6 rfl (lv_at hl 0 rfl) ?_
  refine lv_iload_n hx hb d_22_2_7 rfl (lv_at hl 1 rfl) ?_
  refine va_tb (v := .int 102) hx hb ((hX.2.2.2.2.1 12 _ rfl).2.1 0 (by decide)).2.2.2 hS1 (vinC (by decide)) rfl d_22_2_8 ?_
  refine lv_sipush (v := 255) hx hb d_22_2_9 (by decide) ?_
  refine lv_iand hx hb d_22_2_12 ?_
  refine lv_topi (fun y2 ey2 => ?_)
  obtain rfl : y2 = 102 := ey2.trans (by decide)
  refine lv_i2c hx hb d_22_2_13 rfl ?_
  refine lv_topi (fun y3 ey3 => ?_)
  obtain rfl : y3 = 102 := ey3.trans (by decide)
  have hP9 := hP1.sub (ws' := []) [] rfl
  have hD9 := hD1.sub (ws' := []) [] (by decide) rfl
  refine W.widen (k := 0) (n := 0) (Nat.le_of_ble_eq_true rfl) (Nat.le_of_ble_eq_true rfl) ?_
  exact W.zret (v := 102) hx hb hr rfl (fun t ht hW => ⟨⟨102, (), rfl, rfl, by rw [ht]; exact hP9, va_K.moved hW.alike hK, hD9⟩, hS1.F ht⟩) hS1.2.2 d_22_2_14
abbrev Q_String_charAt_34 (D : va_G) (ca : Nat → ClassId)  (A : Nat → Prop) : Array Value → State → Outcome → State → Prop := va_Qi (S := Unit) (fun (r : Int32) (u : Unit) => r = 102) (fun u => gB D ca A []) A
set_option maxHeartbeats 8000000 in
set_option maxRecDepth 100000 in
theorem c_String_charAt_34 (l : Launch) (D : va_G) (ca : Nat → ClassId) (ad av : Nat → Nat) (sz : Nat)   : Met l ({ cls := "java/lang/String", name := "charAt", desc := "(I)C" } : Jvm.MethodName) (Cond.code ({ cls := "java/lang/String", name := "charAt", desc := "(I)C" } : Jvm.MethodName) prog_21_method_56_code 2 (Option.some Jvm.ClassFile.FieldType.char) :: wAll) ({ frames := 3, cells := 0, slots := 0, locals := 64 } : Room) (va_Pc [.ref (ad 12), .int 2] (gPre D ca ad av [] sz)) (Q_String_charAt_34 D ca  (va_A [] sz)) 0 0 (va_A [] sz) := by
  refine gMet (Qc := Q_String_charAt_34 D ca ) (lv := [(0, .ref (ad 12)), (1, .int 2)]) (by decide) (Nat.le_of_ble_eq_true rfl) rfl (fun A p e s m below meth c ls hx hb hr hml hown hts hlk hnm hl hP hK hD hS hA hX => ?_)
  have hown : s.vm.findClass "java/lang/String" = some m.cls := hown
  have hnm : meth.name = "charAt" := hnm
  refine lv_aload_n hx hb d_21_56_0 rfl (lv_at hl 0 rfl) ?_
  have hFc1 := va_free (wc := []) hD hS hA [] rfl
  refine va_calli (va_runV (As := []) (rest := []) ⟨hx, hb, hml, hown, hts⟩ (c_String_isLatin1_11 l D ca ad av s.heap.size  ) (cwV 0 hts (gdV k_3_75 k_3_76 k_3_77 k_1_11 k_3_78) rfl rfl rfl (by decide +kernel) ⟨Nat.le_of_ble_eq_true rfl, Nat.le_of_ble_eq_true rfl⟩) ⟨gBlind, vk_recv (i := 0) (hX.2.2.2.2.1 12 _ rfl).2 (by decide) hS, gAt hP hD hK hS hA hX [] (by decide) rfl [.ref (ad 12)]⟩ rfl rfl hl.1 rfl (lv_room (Nat.le_of_ble_eq_true rfl)) d_21_56_1 ⟨Nat.le_of_ble_eq_true rfl, Nat.le_of_ble_eq_true rfl⟩) hS (fun q _ h => hFc1 q h) hFc1 (fun r1 u1 t1 H1 locs1 ht1 hvm1 hw1 hB1 hz1 hk1 hS1 => ?_)
  have hr1 := hw1
  obtain ⟨hP1, hD1⟩ := gJoin (wr := []) (w1 := []) hP hD [] [] rfl rfl (by decide) (by decide) hk1 hFc1 ht1 hB1
  have hP1 : va_P D cls [] H1 := hP1
  have hD1 : va_D A [] := hD1
  refine W.widen (k := 0) (n := 0) (Nat.le_of_ble_eq_true rfl) (Nat.le_of_ble_eq_true rfl) ?_
  subst hr1
  refine lv_if_eq (tgt := 16) hx hb d_21_56_4 (by decide) (fun c => absurd c (by decide)) (fun _ => ?_)
  refine lv_aload_n hx hb d_21_56_7 rfl (lv_at hl 0 rfl) ?_
  refine vk_getf hx hb ((hX.2.2.2.2.1 12 _ rfl).2.1 0 (by decide)).2.2.1 hS1 hown (hts _ k_15_170) (fun _ h => h) d_21_56_8 ?_
  refine W.eq (g2 := F0 m 11 ls [.ref (av 12)]) rfl ?_
  refine lv_iload_n hx hb d_21_56_11 rfl (lv_at hl 1 rfl) ?_
  have hFc2 := va_free (wc := []) hD1 hS1 hA [] rfl
  refine va_calli (va_runS (As := [.ref (av 12), .int 2]) (rest := []) ⟨hx, hb, hml, hown, hts⟩ (c_StringLatin1_charAt_34 l D ca ad av H1.size  ) (va_cwS 2 hts (gdS k_7_137 k_7_138 k_1_12 k_7_139) rfl rfl rfl (by decide +kernel) ⟨Nat.le_of_ble_eq_true rfl, Nat.le_of_ble_eq_true rfl⟩) (gPS hP1 hD1 hK hS1 hA hX [] (by decide) rfl [.ref (av 12), .int 2]) rfl rfl hl.1 rfl (lv_room (Nat.le_of_ble_eq_true rfl)) d_21_56_12 ⟨Nat.le_of_ble_eq_true rfl, Nat.le_of_ble_eq_true rfl⟩) hS1 (fun q _ h => hFc2 q h) hFc2 (fun r2 u2 t2 H2 locs2 ht2 hvm2 hw2 hB2 hz2 hk2 hS2 => ?_)
  have hr2 := hw2
  obtain ⟨hP2, hD2⟩ := gJoin (wr := []) (w1 := []) hP1 hD1 [] [] rfl rfl (by decide) (by decide) hk2 hFc2 ht2 hB2
  have hP2 : va_P D cls [] H2 := hP2
  have hD2 : va_D A [] := hD2
  refine W.widen (k := 0) (n := 0) (Nat.le_of_ble_eq_true rfl) (Nat.le_of_ble_eq_true rfl) ?_
  subst hr2
  have hP9 := hP2.sub (ws' := []) [] rfl
  have hD9 := hD2.sub (ws' := []) [] (by decide) rfl
  refine W.widen (k := 0) (n := 0) (Nat.le_of_ble_eq_true rfl) (Nat.le_of_ble_eq_true rfl) ?_
  exact W.zret (v := 102) hx hb hr rfl (fun t ht hW => ⟨⟨102, (), rfl, rfl, by rw [ht]; exact hP9, va_K.moved hW.alike hK, hD9⟩, hS2.F ht⟩) hS2.2.2 d_21_56_15
abbrev Q_M_code_11 (D : va_G) (ca : Nat → ClassId)  (A : Nat → Prop) : Array Value → State → Outcome → State → Prop := va_Ql (S := Unit) (fun (r : Int64) (u : Unit) => r = 6710886) (fun u => gB D ca A []) A
set_option maxHeartbeats 8000000 in
set_option maxRecDepth 100000 in
theorem c_M_code_11 (l : Launch) (D : va_G) (ca : Nat → ClassId) (ad av : Nat → Nat) (sz : Nat)   : Met l ({ cls := "StaveHouseModel", name := "code", desc := "(Ljava/lang/String;)J" } : Jvm.MethodName) (Cond.code ({ cls := "StaveHouseModel", name := "code", desc := "(Ljava/lang/String;)J" } : Jvm.MethodName) prog_15_method_24_code 4 (Option.some Jvm.ClassFile.FieldType.long) :: wAll) ({ frames := 4, cells := 0, slots := 0, locals := 85 } : Room) (va_Pc [.ref (ad 12)] (gPre D ca ad av [] sz)) (Q_M_code_11 D ca  (va_A [] sz)) 0 0 (va_A [] sz) := by
  refine gMet (Qc := Q_M_code_11 D ca ) (lv := [(0, .ref (ad 12))]) (by decide) (Nat.le_of_ble_eq_true rfl) rfl (fun A p e s m below meth c ls hx hb hr hml hown hts hlk hnm hl hP hK hD hS hA hX => ?_)
  have hown : s.vm.findClass "StaveHouseModel" = some m.cls := hown
  have hnm : meth.name = "code" := hnm
  refine lv_lconst (v := 0) hx hb d_15_24_0 (by decide) ?_
  refine lv_lstore_n (lv' := [(1, .long 0), (0, .ref (ad 12))]) hx hb d_15_24_1 rfl hl (by decide) rfl (fun ls hl => ?_)
  refine lv_iconst (v := 0) hx hb d_15_24_2 (by decide) ?_
  refine lv_istore_n (lv' := [(3, .int 0), (1, .long 0), (0, .ref (ad 12))]) hx hb d_15_24_3 rfl hl (by decide) rfl (fun ls hl => ?_)
  refine lv_iload_n hx hb d_15_24_4 rfl (lv_at hl 0 rfl) ?_
  refine lv_aload_n hx hb d_15_24_5 rfl (lv_at hl 2 rfl) ?_
  have hFc1 := va_free (wc := []) hD hS hA [] rfl
  refine va_calli (va_runV (As := []) (rest := [.int 0]) ⟨hx, hb, hml, hown, hts⟩ (c_String_length_11 l D ca ad av s.heap.size  ) (cwV 0 hts (gdV k_10_194 k_3_82 k_3_83 k_1_11 k_3_84) rfl rfl rfl (by decide +kernel) ⟨Nat.le_of_ble_eq_true rfl, Nat.le_of_ble_eq_true rfl⟩) ⟨gBlind, vk_recv (i := 0) (hX.2.2.2.2.1 12 _ rfl).2 (by decide) hS, gAt hP hD hK hS hA hX [] (by decide) rfl [.ref (ad 12)]⟩ rfl rfl hl.1 rfl (lv_room (Nat.le_of_ble_eq_true rfl)) d_15_24_6 ⟨Nat.le_of_ble_eq_true rfl, Nat.le_of_ble_eq_true rfl⟩) hS (fun q _ h => hFc1 q h) hFc1 (fun r1 u1 t1 H1 locs1 ht1 hvm1 hw1 hB1 hz1 hk1 hS1 => ?_)
  have hr1 := hw1
  obtain ⟨hP1, hD1⟩ := gJoin (wr := []) (w1 := []) hP hD [] [] rfl rfl (by decide) (by decide) hk1 hFc1 ht1 hB1
  have hP1 : va_P D cls [] H1 := hP1
  have hD1 : va_D A [] := hD1
  refine W.widen (k := 0) (n := 0) (Nat.le_of_ble_eq_true rfl) (Nat.le_of_ble_eq_true rfl) ?_
  subst hr1
  refine lv_icmp_ge (tgt := 30) hx hb d_15_24_9 (by decide) (fun c => absurd c (by decide)) (fun _ => ?_)
  refine lv_lload_n hx hb d_15_24_12 rfl (lv_at hl 1 rfl) ?_
  refine lv_bipush (v := 8) hx hb d_15_24_13 (by decide) ?_
  refine lv_lshl hx hb d_15_24_15 rfl ?_
  refine lv_topl (fun y2 ey2 => ?_)
  obtain rfl : y2 = 0 := ey2.trans (by decide)
  refine lv_aload_n hx hb d_15_24_16 rfl (lv_at hl 2 rfl) ?_
  refine lv_iload_n hx hb d_15_24_17 rfl (lv_at hl 0 rfl) ?_
  have hFc3 := va_free (wc := []) hD1 hS1 hA [] rfl
  refine va_calli (va_runV (As := [.int 0]) (rest := [.long 0]) ⟨hx, hb, hml, hown, hts⟩ (c_String_charAt_32 l D ca ad av H1.size  ) (cwV 1 hts (gdV k_10_195 k_7_134 k_7_135 k_1_11 k_7_136) rfl rfl rfl (by decide +kernel) ⟨Nat.le_of_ble_eq_true rfl, Nat.le_of_ble_eq_true rfl⟩) ⟨gBlind, vk_recv (i := 0) (hX.2.2.2.2.1 12 _ rfl).2 (by decide) hS1, gAt hP1 hD1 hK hS1 hA hX [] (by decide) rfl [.ref (ad 12), .int 0]⟩ rfl rfl hl.1 rfl (lv_room (Nat.le_of_ble_eq_true rfl)) d_15_24_18 ⟨Nat.le_of_ble_eq_true rfl, Nat.le_of_ble_eq_true rfl⟩) hS1 (fun q _ h => hFc3 q h) hFc3 (fun r3 u3 t3 H3 locs3 ht3 hvm3 hw3 hB3 hz3 hk3 hS3 => ?_)
  have hr3 := hw3
  obtain ⟨hP3, hD3⟩ := gJoin (wr := []) (w1 := []) hP1 hD1 [] [] rfl rfl (by decide) (by decide) hk3 hFc3 ht3 hB3
  have hP3 : va_P D cls [] H3 := hP3
  have hD3 : va_D A [] := hD3
  refine W.widen (k := 0) (n := 0) (Nat.le_of_ble_eq_true rfl) (Nat.le_of_ble_eq_true rfl) ?_
  subst hr3
  refine lv_i2l hx hb d_15_24_21 rfl ?_
  refine lv_topl (fun y4 ey4 => ?_)
  obtain rfl : y4 = 102 := ey4.trans (by decide)
  refine lv_lor hx hb d_15_24_22 ?_
  refine lv_topl (fun y5 ey5 => ?_)
  obtain rfl : y5 = 102 := ey5.trans (by decide)
  refine lv_lstore_n (lv' := [(1, .long 102), (3, .int 0), (0, .ref (ad 12))]) hx hb d_15_24_23 rfl hl (by decide) rfl (fun ls hl => ?_)
  refine lv_iinc (v := 1) (lv' := [(3, .int 1), (1, .long 102), (0, .ref (ad 12))]) hx hb d_15_24_24 hl (k := 1) rfl (by decide) (by decide) rfl (fun ls hl => ?_)
  refine lv_goto (tgt := 4) hx hb d_15_24_27 (by decide) ?_
  refine lv_iload_n hx hb d_15_24_4 rfl (lv_at hl 0 rfl) ?_
  refine lv_aload_n hx hb d_15_24_5 rfl (lv_at hl 2 rfl) ?_
  have hFc6 := va_free (wc := []) hD3 hS3 hA [] rfl
  refine va_calli (va_runV (As := []) (rest := [.int 1]) ⟨hx, hb, hml, hown, hts⟩ (c_String_length_11 l D ca ad av H3.size  ) (cwV 0 hts (gdV k_10_194 k_3_82 k_3_83 k_1_11 k_3_84) rfl rfl rfl (by decide +kernel) ⟨Nat.le_of_ble_eq_true rfl, Nat.le_of_ble_eq_true rfl⟩) ⟨gBlind, vk_recv (i := 0) (hX.2.2.2.2.1 12 _ rfl).2 (by decide) hS3, gAt hP3 hD3 hK hS3 hA hX [] (by decide) rfl [.ref (ad 12)]⟩ rfl rfl hl.1 rfl (lv_room (Nat.le_of_ble_eq_true rfl)) d_15_24_6 ⟨Nat.le_of_ble_eq_true rfl, Nat.le_of_ble_eq_true rfl⟩) hS3 (fun q _ h => hFc6 q h) hFc6 (fun r6 u6 t6 H6 locs6 ht6 hvm6 hw6 hB6 hz6 hk6 hS6 => ?_)
  have hr6 := hw6
  obtain ⟨hP6, hD6⟩ := gJoin (wr := []) (w1 := []) hP3 hD3 [] [] rfl rfl (by decide) (by decide) hk6 hFc6 ht6 hB6
  have hP6 : va_P D cls [] H6 := hP6
  have hD6 : va_D A [] := hD6
  refine W.widen (k := 0) (n := 0) (Nat.le_of_ble_eq_true rfl) (Nat.le_of_ble_eq_true rfl) ?_
  subst hr6
  refine lv_icmp_ge (tgt := 30) hx hb d_15_24_9 (by decide) (fun c => absurd c (by decide)) (fun _ => ?_)
  refine lv_lload_n hx hb d_15_24_12 rfl (lv_at hl 1 rfl) ?_
  refine lv_bipush (v := 8) hx hb d_15_24_13 (by decide) ?_
  refine lv_lshl hx hb d_15_24_15 rfl ?_
  refine lv_topl (fun y7 ey7 => ?_)
  obtain rfl : y7 = 26112 := ey7.trans (by decide)
  refine lv_aload_n hx hb d_15_24_16 rfl (lv_at hl 2 rfl) ?_
  refine lv_iload_n hx hb d_15_24_17 rfl (lv_at hl 0 rfl) ?_
  have hFc8 := va_free (wc := []) hD6 hS6 hA [] rfl
  refine va_calli (va_runV (As := [.int 1]) (rest := [.long 26112]) ⟨hx, hb, hml, hown, hts⟩ (c_String_charAt_33 l D ca ad av H6.size  ) (cwV 1 hts (gdV k_10_195 k_7_134 k_7_135 k_1_11 k_7_136) rfl rfl rfl (by decide +kernel) ⟨Nat.le_of_ble_eq_true rfl, Nat.le_of_ble_eq_true rfl⟩) ⟨gBlind, vk_recv (i := 0) (hX.2.2.2.2.1 12 _ rfl).2 (by decide) hS6, gAt hP6 hD6 hK hS6 hA hX [] (by decide) rfl [.ref (ad 12), .int 1]⟩ rfl rfl hl.1 rfl (lv_room (Nat.le_of_ble_eq_true rfl)) d_15_24_18 ⟨Nat.le_of_ble_eq_true rfl, Nat.le_of_ble_eq_true rfl⟩) hS6 (fun q _ h => hFc8 q h) hFc8 (fun r8 u8 t8 H8 locs8 ht8 hvm8 hw8 hB8 hz8 hk8 hS8 => ?_)
  have hr8 := hw8
  obtain ⟨hP8, hD8⟩ := gJoin (wr := []) (w1 := []) hP6 hD6 [] [] rfl rfl (by decide) (by decide) hk8 hFc8 ht8 hB8
  have hP8 : va_P D cls [] H8 := hP8
  have hD8 : va_D A [] := hD8
  refine W.widen (k := 0) (n := 0) (Nat.le_of_ble_eq_true rfl) (Nat.le_of_ble_eq_true rfl) ?_
  subst hr8
  refine lv_i2l hx hb d_15_24_21 rfl ?_
  refine lv_topl (fun y9 ey9 => ?_)
  obtain rfl : y9 = 102 := ey9.trans (by decide)
  refine lv_lor hx hb d_15_24_22 ?_
  refine lv_topl (fun y10 ey10 => ?_)
  obtain rfl : y10 = 26214 := ey10.trans (by decide)
  refine lv_lstore_n (lv' := [(1, .long 26214), (3, .int 1), (0, .ref (ad 12))]) hx hb d_15_24_23 rfl hl (by decide) rfl (fun ls hl => ?_)
  refine lv_iinc (v := 2) (lv' := [(3, .int 2), (1, .long 26214), (0, .ref (ad 12))]) hx hb d_15_24_24 hl (k := 1) rfl (by decide) (by decide) rfl (fun ls hl => ?_)
  refine lv_goto (tgt := 4) hx hb d_15_24_27 (by decide) ?_
  refine lv_iload_n hx hb d_15_24_4 rfl (lv_at hl 0 rfl) ?_
  refine lv_aload_n hx hb d_15_24_5 rfl (lv_at hl 2 rfl) ?_
  have hFc11 := va_free (wc := []) hD8 hS8 hA [] rfl
  refine va_calli (va_runV (As := []) (rest := [.int 2]) ⟨hx, hb, hml, hown, hts⟩ (c_String_length_11 l D ca ad av H8.size  ) (cwV 0 hts (gdV k_10_194 k_3_82 k_3_83 k_1_11 k_3_84) rfl rfl rfl (by decide +kernel) ⟨Nat.le_of_ble_eq_true rfl, Nat.le_of_ble_eq_true rfl⟩) ⟨gBlind, vk_recv (i := 0) (hX.2.2.2.2.1 12 _ rfl).2 (by decide) hS8, gAt hP8 hD8 hK hS8 hA hX [] (by decide) rfl [.ref (ad 12)]⟩ rfl rfl hl.1 rfl (lv_room (Nat.le_of_ble_eq_true rfl)) d_15_24_6 ⟨Nat.le_of_ble_eq_true rfl, Nat.le_of_ble_eq_true rfl⟩) hS8 (fun q _ h => hFc11 q h) hFc11 (fun r11 u11 t11 H11 locs11 ht11 hvm11 hw11 hB11 hz11 hk11 hS11 => ?_)
  have hr11 := hw11
  obtain ⟨hP11, hD11⟩ := gJoin (wr := []) (w1 := []) hP8 hD8 [] [] rfl rfl (by decide) (by decide) hk11 hFc11 ht11 hB11
  have hP11 : va_P D cls [] H11 := hP11
  have hD11 : va_D A [] := hD11
  refine W.widen (k := 0) (n := 0) (Nat.le_of_ble_eq_true rfl) (Nat.le_of_ble_eq_true rfl) ?_
  subst hr11
  refine lv_icmp_ge (tgt := 30) hx hb d_15_24_9 (by decide) (fun c => absurd c (by decide)) (fun _ => ?_)
  refine lv_lload_n hx hb d_15_24_12 rfl (lv_at hl 1 rfl) ?_
  refine lv_bipush (v := 8) hx hb d_15_24_13 (by decide) ?_
  refine lv_lshl hx hb d_15_24_15 rfl ?_
  refine lv_topl (fun y12 ey12 => ?_)
  obtain rfl : y12 = 6710784 := ey12.trans (by decide)
  refine lv_aload_n hx hb d_15_24_16 rfl (lv_at hl 2 rfl) ?_
  refine lv_iload_n hx hb d_15_24_17 rfl (lv_at hl 0 rfl) ?_
  have hFc13 := va_free (wc := []) hD11 hS11 hA [] rfl
  refine va_calli (va_runV (As := [.int 2]) (rest := [.long 6710784]) ⟨hx, hb, hml, hown, hts⟩ (c_String_charAt_34 l D ca ad av H11.size  ) (cwV 1 hts (gdV k_10_195 k_7_134 k_7_135 k_1_11 k_7_136) rfl rfl rfl (by decide +kernel) ⟨Nat.le_of_ble_eq_true rfl, Nat.le_of_ble_eq_true rfl⟩) ⟨gBlind, vk_recv (i := 0) (hX.2.2.2.2.1 12 _ rfl).2 (by decide) hS11, gAt hP11 hD11 hK hS11 hA hX [] (by decide) rfl [.ref (ad 12), .int 2]⟩ rfl rfl hl.1 rfl (lv_room (Nat.le_of_ble_eq_true rfl)) d_15_24_18 ⟨Nat.le_of_ble_eq_true rfl, Nat.le_of_ble_eq_true rfl⟩) hS11 (fun q _ h => hFc13 q h) hFc13 (fun r13 u13 t13 H13 locs13 ht13 hvm13 hw13 hB13 hz13 hk13 hS13 => ?_)
  have hr13 := hw13
  obtain ⟨hP13, hD13⟩ := gJoin (wr := []) (w1 := []) hP11 hD11 [] [] rfl rfl (by decide) (by decide) hk13 hFc13 ht13 hB13
  have hP13 : va_P D cls [] H13 := hP13
  have hD13 : va_D A [] := hD13
  refine W.widen (k := 0) (n := 0) (Nat.le_of_ble_eq_true rfl) (Nat.le_of_ble_eq_true rfl) ?_
  subst hr13
  refine lv_i2l hx hb d_15_24_21 rfl ?_
  refine lv_topl (fun y14 ey14 => ?_)
  obtain rfl : y14 = 102 := ey14.trans (by decide)
  refine lv_lor hx hb d_15_24_22 ?_
  refine lv_topl (fun y15 ey15 => ?_)
  obtain rfl : y15 = 6710886 := ey15.trans (by decide)
  refine lv_lstore_n (lv' := [(1, .long 6710886), (3, .int 2), (0, .ref (ad 12))]) hx hb d_15_24_23 rfl hl (by decide) rfl (fun ls hl => ?_)
  refine lv_iinc (v := 3) (lv' := [(3, .int 3), (1, .long 6710886), (0, .ref (ad 12))]) hx hb d_15_24_24 hl (k := 1) rfl (by decide) (by decide) rfl (fun ls hl => ?_)
  refine lv_goto (tgt := 4) hx hb d_15_24_27 (by decide) ?_
  refine lv_iload_n hx hb d_15_24_4 rfl (lv_at hl 0 rfl) ?_
  refine lv_aload_n hx hb d_15_24_5 rfl (lv_at hl 2 rfl) ?_
  have hFc16 := va_free (wc := []) hD13 hS13 hA [] rfl
  refine va_calli (va_runV (As := []) (rest := [.int 3]) ⟨hx, hb, hml, hown, hts⟩ (c_String_length_11 l D ca ad av H13.size  ) (cwV 0 hts (gdV k_10_194 k_3_82 k_3_83 k_1_11 k_3_84) rfl rfl rfl (by decide +kernel) ⟨Nat.le_of_ble_eq_true rfl, Nat.le_of_ble_eq_true rfl⟩) ⟨gBlind, vk_recv (i := 0) (hX.2.2.2.2.1 12 _ rfl).2 (by decide) hS13, gAt hP13 hD13 hK hS13 hA hX [] (by decide) rfl [.ref (ad 12)]⟩ rfl rfl hl.1 rfl (lv_room (Nat.le_of_ble_eq_true rfl)) d_15_24_6 ⟨Nat.le_of_ble_eq_true rfl, Nat.le_of_ble_eq_true rfl⟩) hS13 (fun q _ h => hFc16 q h) hFc16 (fun r16 u16 t16 H16 locs16 ht16 hvm16 hw16 hB16 hz16 hk16 hS16 => ?_)
  have hr16 := hw16
  obtain ⟨hP16, hD16⟩ := gJoin (wr := []) (w1 := []) hP13 hD13 [] [] rfl rfl (by decide) (by decide) hk16 hFc16 ht16 hB16
  have hP16 : va_P D cls [] H16 := hP16
  have hD16 : va_D A [] := hD16
  refine W.widen (k := 0) (n := 0) (Nat.le_of_ble_eq_true rfl) (Nat.le_of_ble_eq_true rfl) ?_
  subst hr16
  refine lv_icmp_ge (tgt := 30) hx hb d_15_24_9 (by decide) (fun _ => ?_) (fun c => absurd (by decide) c)
  refine lv_lload_n hx hb d_15_24_30 rfl (lv_at hl 1 rfl) ?_
  have hP9 := hP16.sub (ws' := []) [] rfl
  have hD9 := hD16.sub (ws' := []) [] (by decide) rfl
  refine W.widen (k := 0) (n := 0) (Nat.le_of_ble_eq_true rfl) (Nat.le_of_ble_eq_true rfl) ?_
  exact W.lret (v := 6710886) hx hb hr (fun t ht hW => ⟨⟨6710886, (), rfl, rfl, by rw [ht]; exact hP9, va_K.moved hW.alike hK, hD9⟩, hS16.F ht⟩) hS16.2.2 d_15_24_31
