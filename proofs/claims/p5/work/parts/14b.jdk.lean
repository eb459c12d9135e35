theorem k_3_79 : (Jvm.Cond.fieldLink "java/lang/String" (38 : Nat) "java/lang/String" "COMPACT_STRINGS" "Z") ∈ wAll := wA_3 (j := 79) rfl rfl
theorem k_15_171 : (Jvm.Cond.fieldLink "java/lang/String" (15 : Nat) "java/lang/String" "coder" "B") ∈ wAll := wA_15 (j := 171) rfl rfl
theorem k_15_170 : (Jvm.Cond.fieldLink "java/lang/String" (9 : Nat) "java/lang/String" "value" "[B") ∈ wAll := wA_15 (j := 170) rfl rfl
theorem k_3_85 : (Jvm.Cond.methodLink "java/lang/String" (335 : Nat) ({ cls := "java/lang/String", name := "coder", desc := "()B" } : Jvm.MethodName)) ∈ wAll := wA_3 (j := 85) rfl rfl
theorem k_3_86 : (Jvm.Cond.instanceMethod ({ cls := "java/lang/String", name := "coder", desc := "()B" } : Jvm.MethodName)) ∈ wAll := wA_3 (j := 86) rfl rfl
theorem k_3_87 : (Jvm.Cond.selects "java/lang/String" ({ cls := "java/lang/String", name := "coder", desc := "()B" } : Jvm.MethodName) ({ cls := "java/lang/String", name := "coder", desc := "()B" } : Jvm.MethodName)) ∈ wAll := wA_3 (j := 87) rfl rfl
theorem k_1_11 : (Jvm.Cond.initialized "java/lang/String") ∈ wAll := wA_1 (j := 11) rfl rfl
theorem k_3_88 : (Jvm.Cond.code ({ cls := "java/lang/String", name := "coder", desc := "()B" } : Jvm.MethodName) prog_21_method_152_code (1 : Nat) (Option.some Jvm.ClassFile.FieldType.byte)) ∈ wAll := wA_3 (j := 88) rfl rfl
theorem k_3_120 : (Jvm.Cond.fieldLink "java/lang/String" (1053 : Nat) "jdk/internal/util/Preconditions" "SIOOBE_FORMATTER" "Ljava/util/function/BiFunction;") ∈ wAll := wA_3 (j := 120) rfl rfl
theorem k_7_143 : (Jvm.Cond.methodLink "java/lang/String" (1059 : Nat) ({ cls := "jdk/internal/util/Preconditions", name := "checkIndex", desc := "(IILjava/util/function/BiFunction;)I" } : Jvm.MethodName)) ∈ wAll := wA_7 (j := 143) rfl rfl
theorem k_7_144 : (Jvm.Cond.static ({ cls := "jdk/internal/util/Preconditions", name := "checkIndex", desc := "(IILjava/util/function/BiFunction;)I" } : Jvm.MethodName)) ∈ wAll := wA_7 (j := 144) rfl rfl
theorem k_1_13 : (Jvm.Cond.initialized "jdk/internal/util/Preconditions") ∈ wAll := wA_1 (j := 13) rfl rfl
theorem k_7_145 : (Jvm.Cond.code ({ cls := "jdk/internal/util/Preconditions", name := "checkIndex", desc := "(IILjava/util/function/BiFunction;)I" } : Jvm.MethodName) prog_24_method_11_code (3 : Nat) (Option.some Jvm.ClassFile.FieldType.int)) ∈ wAll := wA_7 (j := 145) rfl rfl
theorem k_7_140 : (Jvm.Cond.methodLink "java/lang/StringLatin1" (9 : Nat) ({ cls := "java/lang/String", name := "checkIndex", desc := "(II)V" } : Jvm.MethodName)) ∈ wAll := wA_7 (j := 140) rfl rfl
theorem k_7_141 : (Jvm.Cond.static ({ cls := "java/lang/String", name := "checkIndex", desc := "(II)V" } : Jvm.MethodName)) ∈ wAll := wA_7 (j := 141) rfl rfl
theorem k_7_142 : (Jvm.Cond.code ({ cls := "java/lang/String", name := "checkIndex", desc := "(II)V" } : Jvm.MethodName) prog_21_method_155_code (2 : Nat) (Option.none : Option Jvm.ClassFile.FieldType)) ∈ wAll := wA_7 (j := 142) rfl rfl
theorem k_3_75 : (Jvm.Cond.methodLink "java/lang/String" (492 : Nat) ({ cls := "java/lang/String", name := "isLatin1", desc := "()Z" } : Jvm.MethodName)) ∈ wAll := wA_3 (j := 75) rfl rfl
theorem k_3_76 : (Jvm.Cond.instanceMethod ({ cls := "java/lang/String", name := "isLatin1", desc := "()Z" } : Jvm.MethodName)) ∈ wAll := wA_3 (j := 76) rfl rfl
theorem k_3_77 : (Jvm.Cond.selects "java/lang/String" ({ cls := "java/lang/String", name := "isLatin1", desc := "()Z" } : Jvm.MethodName) ({ cls := "java/lang/String", name := "isLatin1", desc := "()Z" } : Jvm.MethodName)) ∈ wAll := wA_3 (j := 77) rfl rfl
theorem k_3_78 : (Jvm.Cond.code ({ cls := "java/lang/String", name := "isLatin1", desc := "()Z" } : Jvm.MethodName) prog_21_method_154_code (1 : Nat) (Option.some Jvm.ClassFile.FieldType.boolean)) ∈ wAll := wA_3 (j := 78) rfl rfl
theorem k_7_137 : (Jvm.Cond.methodLink "java/lang/String" (495 : Nat) ({ cls := "java/lang/StringLatin1", name := "charAt", desc := "([BI)C" } : Jvm.MethodName)) ∈ wAll := wA_7 (j := 137) rfl rfl
theorem k_7_138 : (Jvm.Cond.static ({ cls := "java/lang/StringLatin1", name := "charAt", desc := "([BI)C" } : Jvm.MethodName)) ∈ wAll := wA_7 (j := 138) rfl rfl
theorem k_1_12 : (Jvm.Cond.initialized "java/lang/StringLatin1") ∈ wAll := wA_1 (j := 12) rfl rfl
theorem k_7_139 : (Jvm.Cond.code ({ cls := "java/lang/StringLatin1", name := "charAt", desc := "([BI)C" } : Jvm.MethodName) prog_22_method_2_code (2 : Nat) (Option.some Jvm.ClassFile.FieldType.char)) ∈ wAll := wA_7 (j := 139) rfl rfl
theorem W_prog_21_method_152_code_0 : chW prog_21_method_152_code 0 [178, 0, 38, 153, 0, 10, 42, 180, 0, 15, 167, 0, 4, 4, 172] := chW_of (by decide +kernel)
theorem d_21_152_0 : decode prog_21_method_152_code 0 = .ok (.getstatic 38, 3) := D_178 W_prog_21_method_152_code_0 0 rfl rfl rfl
theorem d_21_152_3 : decode prog_21_method_152_code 3 = .ok (.ifCond .eq 10, 3) := D_153 W_prog_21_method_152_code_0 3 rfl rfl rfl
theorem d_21_152_13 : decode prog_21_method_152_code 13 = .ok (.iconst 1, 1) := D_4 W_prog_21_method_152_code_0 13 rfl rfl
theorem d_21_152_6 : decode prog_21_method_152_code 6 = .ok (.aload_n 0, 1) := D_42 W_prog_21_method_152_code_0 6 rfl rfl
theorem d_21_152_7 : decode prog_21_method_152_code 7 = .ok (.getfield 15, 3) := D_180 W_prog_21_method_152_code_0 7 rfl rfl rfl
theorem d_21_152_10 : decode prog_21_method_152_code 10 = .ok (.goto 4, 3) := D_167 W_prog_21_method_152_code_0 10 rfl rfl rfl
theorem d_21_152_14 : decode prog_21_method_152_code 14 = .ok (.ireturn, 1) := D_172 W_prog_21_method_152_code_0 14 rfl rfl
theorem W_prog_21_method_154_code_0 : chW prog_21_method_154_code 0 [178, 0, 38, 153, 0, 14, 42, 180, 0, 15, 154, 0, 7, 4, 167, 0, 4, 3, 172] := chW_of (by decide +kernel)
theorem d_21_154_0 : decode prog_21_method_154_code 0 = .ok (.getstatic 38, 3) := D_178 W_prog_21_method_154_code_0 0 rfl rfl rfl
theorem d_21_154_3 : decode prog_21_method_154_code 3 = .ok (.ifCond .eq 14, 3) := D_153 W_prog_21_method_154_code_0 3 rfl rfl rfl
theorem d_21_154_6 : decode prog_21_method_154_code 6 = .ok (.aload_n 0, 1) := D_42 W_prog_21_method_154_code_0 6 rfl rfl
theorem d_21_154_7 : decode prog_21_method_154_code 7 = .ok (.getfield 15, 3) := D_180 W_prog_21_method_154_code_0 7 rfl rfl rfl
theorem d_21_154_10 : decode prog_21_method_154_code 10 = .ok (.ifCond .ne 7, 3) := D_154 W_prog_21_method_154_code_0 10 rfl rfl rfl
theorem d_21_154_13 : decode prog_21_method_154_code 13 = .ok (.iconst 1, 1) := D_4 W_prog_21_method_154_code_0 13 rfl rfl
theorem d_21_154_14 : decode prog_21_method_154_code 14 = .ok (.goto 4, 3) := D_167 W_prog_21_method_154_code_0 14 rfl rfl rfl
theorem d_21_154_18 : decode prog_21_method_154_code 18 = .ok (.ireturn, 1) := D_172 W_prog_21_method_154_code_0 18 rfl rfl
theorem d_21_154_17 : decode prog_21_method_154_code 17 = .ok (.iconst 0, 1) := D_3 W_prog_21_method_154_code_0 17 rfl rfl
theorem W_prog_21_method_54_code_0 : chW prog_21_method_54_code 0 [42, 180, 0, 9, 190, 42, 182, 1, 79, 122, 172] := chW_of (by decide +kernel)
theorem d_21_54_0 : decode prog_21_method_54_code 0 = .ok (.aload_n 0, 1) := D_42 W_prog_21_method_54_code_0 0 rfl rfl
theorem d_21_54_1 : decode prog_21_method_54_code 1 = .ok (.getfield 9, 3) := D_180 W_prog_21_method_54_code_0 1 rfl rfl rfl
theorem d_21_54_4 : decode prog_21_method_54_code 4 = .ok (.arraylength, 1) := D_190 W_prog_21_method_54_code_0 4 rfl rfl
theorem d_21_54_5 : decode prog_21_method_54_code 5 = .ok (.aload_n 0, 1) := D_42 W_prog_21_method_54_code_0 5 rfl rfl
theorem d_21_54_6 : decode prog_21_method_54_code 6 = .ok (.invokevirtual 335, 3) := D_182 W_prog_21_method_54_code_0 6 rfl rfl rfl
theorem d_21_54_9 : decode prog_21_method_54_code 9 = .ok (.ishr, 1) := D_122 W_prog_21_method_54_code_0 9 rfl rfl
theorem d_21_54_10 : decode prog_21_method_54_code 10 = .ok (.ireturn, 1) := D_172 W_prog_21_method_54_code_0 10 rfl rfl
theorem W_prog_24_method_11_code_0 : chW prog_24_method_11_code 0 [26, 155, 0, 8, 26, 27, 161, 0, 10, 44, 26, 27, 184, 0, 95, 191, 26, 172] := chW_of (by decide +kernel)
theorem d_24_11_0 : decode prog_24_method_11_code 0 = .ok (.iload_n 0, 1) := D_26 W_prog_24_method_11_code_0 0 rfl rfl
theorem d_24_11_1 : decode prog_24_method_11_code 1 = .ok (.ifCond .lt 8, 3) := D_155 W_prog_24_method_11_code_0 1 rfl rfl rfl
theorem d_24_11_4 : decode prog_24_method_11_code 4 = .ok (.iload_n 0, 1) := D_26 W_prog_24_method_11_code_0 4 rfl rfl
theorem d_24_11_5 : decode prog_24_method_11_code 5 = .ok (.iload_n 1, 1) := D_27 W_prog_24_method_11_code_0 5 rfl rfl
theorem d_24_11_6 : decode prog_24_method_11_code 6 = .ok (.if_icmp .lt 10, 3) := D_161 W_prog_24_method_11_code_0 6 rfl rfl rfl
theorem d_24_11_16 : decode prog_24_method_11_code 16 = .ok (.iload_n 0, 1) := D_26 W_prog_24_method_11_code_0 16 rfl rfl
theorem d_24_11_17 : decode prog_24_method_11_code 17 = .ok (.ireturn, 1) := D_172 W_prog_24_method_11_code_0 17 rfl rfl
theorem W_prog_21_method_155_code_0 : chW prog_21_method_155_code 0 [26, 27, 178, 4, 29, 184, 4, 35, 87, 177] := chW_of (by decide +kernel)
theorem d_21_155_0 : decode prog_21_method_155_code 0 = .ok (.iload_n 0, 1) := D_26 W_prog_21_method_155_code_0 0 rfl rfl
theorem d_21_155_1 : decode prog_21_method_155_code 1 = .ok (.iload_n 1, 1) := D_27 W_prog_21_method_155_code_0 1 rfl rfl
theorem d_21_155_2 : decode prog_21_method_155_code 2 = .ok (.getstatic 1053, 3) := D_178 W_prog_21_method_155_code_0 2 rfl rfl rfl
theorem d_21_155_5 : decode prog_21_method_155_code 5 = .ok (.invokestatic 1059, 3) := D_184 W_prog_21_method_155_code_0 5 rfl rfl rfl
theorem d_21_155_8 : decode prog_21_method_155_code 8 = .ok (.pop, 1) := D_87 W_prog_21_method_155_code_0 8 rfl rfl
theorem d_21_155_9 : decode prog_21_method_155_code 9 = .ok (.return_, 1) := D_177 W_prog_21_method_155_code_0 9 rfl rfl
theorem W_prog_22_method_2_code_0 : chW prog_22_method_2_code 0 [27, 42, 190, 184, 0, 9, 42, 27, 51, 17, 0, 255, 126, 146, 172] := chW_of (by decide +kernel)
theorem d_22_2_0 : decode prog_22_method_2_code 0 = .ok (.iload_n 1, 1) := D_27 W_prog_22_method_2_code_0 0 rfl rfl
theorem d_22_2_1 : decode prog_22_method_2_code 1 = .ok (.aload_n 0, 1) := D_42 W_prog_22_method_2_code_0 1 rfl rfl
theorem d_22_2_2 : decode prog_22_method_2_code 2 = .ok (.arraylength, 1) := D_190 W_prog_22_method_2_code_0 2 rfl rfl
theorem d_22_2_3 : decode prog_22_method_2_code 3 = .ok (.invokestatic 9, 3) := D_184 W_prog_22_method_2_code_0 3 rfl rfl rfl
theorem d_22_2_6 : decode prog_22_method_2_code 6 = .ok (.aload_n 0, 1) := D_42 W_prog_22_method_2_code_0 6 rfl rfl
theorem d_22_2_7 : decode prog_22_method_2_code 7 = .ok (.iload_n 1, 1) := D_27 W_prog_22_method_2_code_0 7 rfl rfl
theorem d_22_2_8 : decode prog_22_method_2_code 8 = .ok (.baload, 1) := D_51 W_prog_22_method_2_code_0 8 rfl rfl
theorem d_22_2_9 : decode prog_22_method_2_code 9 = .ok (.sipush 255, 3) := D_17 W_prog_22_method_2_code_0 9 rfl rfl rfl
theorem d_22_2_12 : decode prog_22_method_2_code 12 = .ok (.iand, 1) := D_126 W_prog_22_method_2_code_0 12 rfl rfl
theorem d_22_2_13 : decode prog_22_method_2_code 13 = .ok (.i2c, 1) := D_146 W_prog_22_method_2_code_0 13 rfl rfl
theorem d_22_2_14 : decode prog_22_method_2_code 14 = .ok (.ireturn, 1) := D_172 W_prog_22_method_2_code_0 14 rfl rfl
theorem W_prog_21_method_56_code_0 : chW prog_21_method_56_code 0 [42, 182, 1, 236, 153, 0, 12, 42, 180, 0, 9, 27, 184, 1, 239, 172, 42, 180, 0, 9, 27, 184, 1, 242, 172] := chW_of (by decide +kernel)
theorem d_21_56_0 : decode prog_21_method_56_code 0 = .ok (.aload_n 0, 1) := D_42 W_prog_21_method_56_code_0 0 rfl rfl
theorem d_21_56_1 : decode prog_21_method_56_code 1 = .ok (.invokevirtual 492, 3) := D_182 W_prog_21_method_56_code_0 1 rfl rfl rfl
theorem d_21_56_4 : decode prog_21_method_56_code 4 = .ok (.ifCond .eq 12, 3) := D_153 W_prog_21_method_56_code_0 4 rfl rfl rfl
theorem d_21_56_16 : decode prog_21_method_56_code 16 = .ok (.aload_n 0, 1) := D_42 W_prog_21_method_56_code_0 16 rfl rfl
theorem d_21_56_17 : decode prog_21_method_56_code 17 = .ok (.getfield 9, 3) := D_180 W_prog_21_method_56_code_0 17 rfl rfl rfl
theorem d_21_56_20 : decode prog_21_method_56_code 20 = .ok (.iload_n 1, 1) := D_27 W_prog_21_method_56_code_0 20 rfl rfl
theorem d_21_56_7 : decode prog_21_method_56_code 7 = .ok (.aload_n 0, 1) := D_42 W_prog_21_method_56_code_0 7 rfl rfl
theorem d_21_56_8 : decode prog_21_method_56_code 8 = .ok (.getfield 9, 3) := D_180 W_prog_21_method_56_code_0 8 rfl rfl rfl
theorem d_21_56_11 : decode prog_21_method_56_code 11 = .ok (.iload_n 1, 1) := D_27 W_prog_21_method_56_code_0 11 rfl rfl
theorem d_21_56_12 : decode prog_21_method_56_code 12 = .ok (.invokestatic 495, 3) := D_184 W_prog_21_method_56_code_0 12 rfl rfl rfl
theorem d_21_56_15 : decode prog_21_method_56_code 15 = .ok (.ireturn, 1) := D_172 W_prog_21_method_56_code_0 15 rfl rfl
noncomputable abbrev Q_String_coder (D : va_G) (ca : Nat → ClassId) (ad : Nat → Int → Nat → Nat) (L : List Nat) (r : Int) (F : zF) (B : zB) (A : Nat → Prop) : Array Value → State → Outcome → State → Prop := va_Qi (S := Unit) (fun p _ => p = iI r) (fun _ => zPo D ca ad lnM nM L F B A) A
noncomputable def f_String_coder_14 (K : Nat) (s0 : Int) (F : zF) (B : zB) : zO := if (-128) ≤ s0 ∧ s0 < 128 then some (s0, F, B) else none
set_option maxHeartbeats 4000000 in
set_option maxRecDepth 100000 in
theorem b_String_coder_14 {D : va_G} {ca : Nat → ClassId} {ad : Nat → Int → Nat → Nat} {L : List Nat} {aS vS : Nat → Nat} {A : Nat → Prop} {p : Program} {l : Launch} {e : Env} {s : State} {m : MethodId} {args : Array Value} {below : List Frame} {meth : Method} {c : Code} {K : Nat} {r : Int} {F9 : zF} {B9 : zB} (X : zX D ca L aS vS A p s m args meth c prog_21_method_152_code 1 (Option.some Jvm.ClassFile.FieldType.byte) "java/lang/String") {s0 : Int} {F : zF} {B : zB} {H : Heap} {locs : List Loc} {ls : Array Slot} (hf : f_String_coder_14 K s0 F B = some (r, F9, B9)) (hZ : zH D ca ad lnM nM L F B A H) (hS : va_S A s.heap H locs) (hl : lv_has ls 1 []) : W p l e ({ frames := 0, cells := 0, slots := 0, locals := 0 } : Room) s m args below meth c H locs 0 0 (MQ below (Q_String_coder D ca ad L r F9 B9 A) args s 0 0 A) (F0 m 14 ls [.int (iI s0)]) := by
  obtain ⟨hx, hb, hr, hml, hown, hts, hlk, hK, hA, hL, hX⟩ := id X
  replace hf : (if (-128) ≤ s0 ∧ s0 < 128 then some (s0, F, B) else none) = some (r, F9, B9) := hf
  obtain ⟨g3, hf⟩ := gif hf
  cases hf
  exact W.zret hx hb hr (zbyte g3) (fun t ht hW => ⟨⟨_, (), rfl, rfl, by rw [ht]; exact hZ, va_K.moved hW.alike hK⟩, hS.F ht⟩) hS.2.2 d_21_152_14 hlk

noncomputable def f_String_coder (K : Nat) (l0 : Nat) (F : zF) (B : zB) : zO := (if (1 : Int) = 0 then f_String_coder_14 K 1 F B else if l0 < strL.length then f_String_coder_14 K 0 F B else none)
set_option maxHeartbeats 4000000 in
set_option maxRecDepth 100000 in
theorem c_String_coder {l : Launch} {D : va_G} {ca : Nat → ClassId} {ad : Nat → Int → Nat → Nat} {L : List Nat} {aS vS : Nat → Nat} {sz K : Nat}  {l0 : Nat} {F F9 : zF} {B B9 : zB} {r : Int} (hf : f_String_coder K l0 F B = some (r, F9, B9)) : Met l ({ cls := "java/lang/String", name := "coder", desc := "()B" } : Jvm.MethodName) (Cond.code ({ cls := "java/lang/String", name := "coder", desc := "()B" } : Jvm.MethodName) prog_21_method_152_code 1 (Option.some Jvm.ClassFile.FieldType.byte) :: wAll) ({ frames := 0, cells := 0, slots := 0, locals := 0 } : Room) (va_Pc [.ref (aS l0)] (zPre D ca ad lnM nM L aS vS F B sz)) (Q_String_coder D ca ad L r F9 B9 (zA L sz)) 0 0 (zA L sz) := by
  refine zMet (Qc := Q_String_coder D ca ad L r F9 B9) (lv := [(0, .ref (aS l0))]) (by decide) (Nat.le_of_ble_eq_true rfl) rfl (fun A p e s m below meth c ls X hZ hS hl => ?_)
  obtain ⟨hx, hb, hr, hml, hown, hts, hlk, hK, hA, hL, hX⟩ := id X
  replace hf : ((if (1 : Int) = 0 then f_String_coder_14 K 1 F B else if l0 < strL.length then f_String_coder_14 K 0 F B else none)) = some (r, F9, B9) := hf
  refine va_gets hx hb (hX.2.2.2.1 _ (List.mem_of_getElem? (i := 0) rfl)) hS hown (hts _ k_3_79) (fun _ h => h) d_21_152_0 ?_
  refine W.eq (g2 := F0 m 3 ls [.int (iI 1)]) rfl ?_
  refine z0eq (tgt := 13) hx hb (by decide) d_21_152_3 (by decide) (fun h1 => ?_) (fun h1 => ?_)
  · replace hf := gpos hf h1
    refine lv_iconst (v := iI 1) hx hb d_21_152_13 rfl ?_
    exact b_String_coder_14 X hf hZ hS (lv_sub hl [] rfl)
  · replace hf := gneg hf h1
    refine lv_aload_n hx hb d_21_152_6 rfl (lv_at hl 0 rfl) ?_
    obtain ⟨g2, hf⟩ := gif hf
    refine vk_getf hx hb (zstr hX g2).1 hS hown (hts _ k_15_171) (fun _ h => h) d_21_152_7 ?_
    refine W.eq (g2 := F0 m 10 ls [.int (iI 0)]) rfl ?_
    refine lv_goto (tgt := 14) hx hb d_21_152_10 (by decide) ?_
    exact b_String_coder_14 X hf hZ hS (lv_sub hl [] rfl)

noncomputable abbrev Q_String_isLatin1 (D : va_G) (ca : Nat → ClassId) (ad : Nat → Int → Nat → Nat) (L : List Nat) (r : Int) (F : zF) (B : zB) (A : Nat → Prop) : Array Value → State → Outcome → State → Prop := va_Qi (S := Unit) (fun p _ => p = iI r) (fun _ => zPo D ca ad lnM nM L F B A) A
noncomputable def f_String_isLatin1_18 (K : Nat) (s0 : Int) (F : zF) (B : zB) : zO := if (s0 = 0 ∨ s0 = 1) then some (s0, F, B) else none
set_option maxHeartbeats 4000000 in
set_option maxRecDepth 100000 in
theorem b_String_isLatin1_18 {D : va_G} {ca : Nat → ClassId} {ad : Nat → Int → Nat → Nat} {L : List Nat} {aS vS : Nat → Nat} {A : Nat → Prop} {p : Program} {l : Launch} {e : Env} {s : State} {m : MethodId} {args : Array Value} {below : List Frame} {meth : Method} {c : Code} {K : Nat} {r : Int} {F9 : zF} {B9 : zB} (X : zX D ca L aS vS A p s m args meth c prog_21_method_154_code 1 (Option.some Jvm.ClassFile.FieldType.boolean) "java/lang/String") {s0 : Int} {F : zF} {B : zB} {H : Heap} {locs : List Loc} {ls : Array Slot} (hf : f_String_isLatin1_18 K s0 F B = some (r, F9, B9)) (hZ : zH D ca ad lnM nM L F B A H) (hS : va_S A s.heap H locs) (hl : lv_has ls 1 []) : W p l e ({ frames := 0, cells := 0, slots := 0, locals := 0 } : Room) s m args below meth c H locs 0 0 (MQ below (Q_String_isLatin1 D ca ad L r F9 B9 A) args s 0 0 A) (F0 m 18 ls [.int (iI s0)]) := by
  obtain ⟨hx, hb, hr, hml, hown, hts, hlk, hK, hA, hL, hX⟩ := id X
  replace hf : (if (s0 = 0 ∨ s0 = 1) then some (s0, F, B) else none) = some (r, F9, B9) := hf
  obtain ⟨g4, hf⟩ := gif hf
  cases hf
  exact W.zret hx hb hr (zbool g4) (fun t ht hW => ⟨⟨_, (), rfl, rfl, by rw [ht]; exact hZ, va_K.moved hW.alike hK⟩, hS.F ht⟩) hS.2.2 d_21_154_18 hlk

noncomputable def f_String_isLatin1_17 (K : Nat)  (F : zF) (B : zB) : zO := f_String_isLatin1_18 K 0 F B
set_option maxHeartbeats 4000000 in
set_option maxRecDepth 100000 in
theorem b_String_isLatin1_17 {D : va_G} {ca : Nat → ClassId} {ad : Nat → Int → Nat → Nat} {L : List Nat} {aS vS : Nat → Nat} {A : Nat → Prop} {p : Program} {l : Launch} {e : Env} {s : State} {m : MethodId} {args : Array Value} {below : List Frame} {meth : Method} {c : Code} {K : Nat} {r : Int} {F9 : zF} {B9 : zB} (X : zX D ca L aS vS A p s m args meth c prog_21_method_154_code 1 (Option.some Jvm.ClassFile.FieldType.boolean) "java/lang/String")  {F : zF} {B : zB} {H : Heap} {locs : List Loc} {ls : Array Slot} (hf : f_String_isLatin1_17 K  F B = some (r, F9, B9)) (hZ : zH D ca ad lnM nM L F B A H) (hS : va_S A s.heap H locs) (hl : lv_has ls 1 []) : W p l e ({ frames := 0, cells := 0, slots := 0, locals := 0 } : Room) s m args below meth c H locs 0 0 (MQ below (Q_String_isLatin1 D ca ad L r F9 B9 A) args s 0 0 A) (F0 m 17 ls []) := by
  obtain ⟨hx, hb, hr, hml, hown, hts, hlk, hK, hA, hL, hX⟩ := id X
  replace hf : (f_String_isLatin1_18 K 0 F B) = some (r, F9, B9) := hf
  refine lv_iconst (v := iI 0) hx hb d_21_154_17 rfl ?_
  exact b_String_isLatin1_18 X hf hZ hS (lv_sub hl [] rfl)

noncomputable def f_String_isLatin1 (K : Nat) (l0 : Nat) (F : zF) (B : zB) : zO := (if (1 : Int) = 0 then f_String_isLatin1_17 K F B else if l0 < strL.length then (if (0 : Int) = 0 then f_String_isLatin1_18 K 1 F B else f_String_isLatin1_17 K F B) else none)
set_option maxHeartbeats 4000000 in
set_option maxRecDepth 100000 in
theorem c_String_isLatin1 {l : Launch} {D : va_G} {ca : Nat → ClassId} {ad : Nat → Int → Nat → Nat} {L : List Nat} {aS vS : Nat → Nat} {sz K : Nat}  {l0 : Nat} {F F9 : zF} {B B9 : zB} {r : Int} (hf : f_String_isLatin1 K l0 F B = some (r, F9, B9)) : Met l ({ cls := "java/lang/String", name := "isLatin1", desc := "()Z" } : Jvm.MethodName) (Cond.code ({ cls := "java/lang/String", name := "isLatin1", desc := "()Z" } : Jvm.MethodName) prog_21_method_154_code 1 (Option.some Jvm.ClassFile.FieldType.boolean) :: wAll) ({ frames := 0, cells := 0, slots := 0, locals := 0 } : Room) (va_Pc [.ref (aS l0)] (zPre D ca ad lnM nM L aS vS F B sz)) (Q_String_isLatin1 D ca ad L r F9 B9 (zA L sz)) 0 0 (zA L sz) := by
  refine zMet (Qc := Q_String_isLatin1 D ca ad L r F9 B9) (lv := [(0, .ref (aS l0))]) (by decide) (Nat.le_of_ble_eq_true rfl) rfl (fun A p e s m below meth c ls X hZ hS hl => ?_)
  obtain ⟨hx, hb, hr, hml, hown, hts, hlk, hK, hA, hL, hX⟩ := id X
  replace hf : ((if (1 : Int) = 0 then f_String_isLatin1_17 K F B else if l0 < strL.length then (if (0 : Int) = 0 then f_String_isLatin1_18 K 1 F B else f_String_isLatin1_17 K F B) else none)) = some (r, F9, B9) := hf
  refine va_gets hx hb (hX.2.2.2.1 _ (List.mem_of_getElem? (i := 0) rfl)) hS hown (hts _ k_3_79) (fun _ h => h) d_21_154_0 ?_
  refine W.eq (g2 := F0 m 3 ls [.int (iI 1)]) rfl ?_
  refine z0eq (tgt := 17) hx hb (by decide) d_21_154_3 (by decide) (fun h1 => ?_) (fun h1 => ?_)
  · replace hf := gpos hf h1
    exact b_String_isLatin1_17 X hf hZ hS (lv_sub hl [] rfl)
  · replace hf := gneg hf h1
    refine lv_aload_n hx hb d_21_154_6 rfl (lv_at hl 0 rfl) ?_
    obtain ⟨g2, hf⟩ := gif hf
    refine vk_getf hx hb (zstr hX g2).1 hS hown (hts _ k_15_171) (fun _ h => h) d_21_154_7 ?_
    refine W.eq (g2 := F0 m 10 ls [.int (iI 0)]) rfl ?_
    refine z0ne (tgt := 17) hx hb (by decide) d_21_154_10 (by decide) (fun h3 => ?_) (fun h3 => ?_)
    · replace hf := gneg hf h3
      exact b_String_isLatin1_17 X hf hZ hS (lv_sub hl [] rfl)
    · replace hf := gpos hf h3
      refine lv_iconst (v := iI 1) hx hb d_21_154_13 rfl ?_
      refine lv_goto (tgt := 18) hx hb d_21_154_14 (by decide) ?_
      exact b_String_isLatin1_18 X hf hZ hS (lv_sub hl [] rfl)

noncomputable abbrev Q_String_length (D : va_G) (ca : Nat → ClassId) (ad : Nat → Int → Nat → Nat) (L : List Nat) (r : Int) (F : zF) (B : zB) (A : Nat → Prop) : Array Value → State → Outcome → State → Prop := va_Qi (S := Unit) (fun p _ => p = iI r) (fun _ => zPo D ca ad lnM nM L F B A) A
noncomputable def f_String_length (K : Nat) (l0 : Nat) (F : zF) (B : zB) : zO := if l0 < strL.length then zbind (f_String_coder K l0 F B) (fun r2 F2 B2 => some (zshr (zsl l0) r2, F2, B2)) else none
set_option maxHeartbeats 4000000 in
set_option maxRecDepth 100000 in
theorem c_String_length {l : Launch} {D : va_G} {ca : Nat → ClassId} {ad : Nat → Int → Nat → Nat} {L : List Nat} {aS vS : Nat → Nat} {sz K : Nat}  {l0 : Nat} {F F9 : zF} {B B9 : zB} {r : Int} (hf : f_String_length K l0 F B = some (r, F9, B9)) : Met l ({ cls := "java/lang/String", name := "length", desc := "()I" } : Jvm.MethodName) (Cond.code ({ cls := "java/lang/String", name := "length", desc := "()I" } : Jvm.MethodName) prog_21_method_54_code 1 (Option.some Jvm.ClassFile.FieldType.int) :: wAll) ({ frames := 1, cells := 0, slots := 0, locals := 20 } : Room) (va_Pc [.ref (aS l0)] (zPre D ca ad lnM nM L aS vS F B sz)) (Q_String_length D ca ad L r F9 B9 (zA L sz)) 0 0 (zA L sz) := by
  refine zMet (Qc := Q_String_length D ca ad L r F9 B9) (lv := [(0, .ref (aS l0))]) (by decide) (Nat.le_of_ble_eq_true rfl) rfl (fun A p e s m below meth c ls X hZ hS hl => ?_)
  obtain ⟨hx, hb, hr, hml, hown, hts, hlk, hK, hA, hL, hX⟩ := id X
  replace hf : (if l0 < strL.length then zbind (f_String_coder K l0 F B) (fun r2 F2 B2 => some (zshr (zsl l0) r2, F2, B2)) else none) = some (r, F9, B9) := hf
  refine lv_aload_n hx hb d_21_54_0 rfl (lv_at hl 0 rfl) ?_
  obtain ⟨g1, hf⟩ := gif hf
  refine vk_getf hx hb (zstr hX g1).2.1 hS hown (hts _ k_15_170) (fun _ h => h) d_21_54_1 ?_
  refine W.eq (g2 := F0 m 4 ls [.ref (vS l0)]) rfl ?_
  refine va_tlen (v := iI (zsl l0)) hx hb (zstr hX g1).2.2.1 hS (zsl_n _) d_21_54_4 ?_
  refine lv_aload_n hx hb d_21_54_5 rfl (lv_at hl 0 rfl) ?_
  obtain ⟨r2, F2, B2, hc2, hf⟩ := gbind hf
  refine va_calli (va_runV (As := []) (rest := [.int (iI (zsl l0))]) ⟨hx, hb, hml, hown, hts⟩ (c_String_coder (l := l) hc2) (cwV 0 hts (gdV k_3_85 k_3_86 k_3_87 k_1_11 k_3_88) rfl rfl rfl (by decide +kernel) ⟨Nat.le_of_ble_eq_true rfl, Nat.le_of_ble_eq_true rfl⟩) ⟨zBlind, zsrecv hX g1 hS, zAt X hZ hS [.ref (aS l0)]⟩ rfl rfl hl.1 rfl (lv_room (Nat.le_of_ble_eq_true rfl)) d_21_54_6 ⟨Nat.le_of_ble_eq_true rfl, Nat.le_of_ble_eq_true rfl⟩) hS (fun q _ h => zAin X hS q h) (zAin X hS) (fun p2 u2 t2 H2 locs2 ht2 hv2 hw2 hB2 hz2 hk2 hS2 => ?_)
  have hZ2 := zBack X ht2 hB2
  subst hw2
  refine zshr_r hx hb d_21_54_9 ?_
  cases hf
  exact W.iret hx hb hr (fun t ht hW => ⟨⟨_, (), rfl, rfl, by rw [ht]; exact hZ2, va_K.moved hW.alike hK⟩, hS2.F ht⟩) hS2.2.2 d_21_54_10 hlk

noncomputable abbrev Q_Preconditions_checkIndex (D : va_G) (ca : Nat → ClassId) (ad : Nat → Int → Nat → Nat) (L : List Nat) (r : Int) (F : zF) (B : zB) (A : Nat → Prop) : Array Value → State → Outcome → State → Prop := va_Qi (S := Unit) (fun p _ => p = iI r) (fun _ => zPo D ca ad lnM nM L F B A) A
noncomputable def f_Preconditions_checkIndex_9 (K : Nat) (l0 : Int) (l1 : Int) (F : zF) (B : zB) : zO := none
set_option maxHeartbeats 4000000 in
set_option maxRecDepth 100000 in
theorem b_Preconditions_checkIndex_9 {D : va_G} {ca : Nat → ClassId} {ad : Nat → Int → Nat → Nat} {L : List Nat} {aS vS : Nat → Nat} {A : Nat → Prop} {p : Program} {l : Launch} {e : Env} {s : State} {m : MethodId} {args : Array Value} {below : List Frame} {meth : Method} {c : Code} {K : Nat} {r : Int} {F9 : zF} {B9 : zB} (X : zX D ca L aS vS A p s m args meth c prog_24_method_11_code 3 (Option.some Jvm.ClassFile.FieldType.int) "jdk/internal/util/Preconditions") {l0 : Int} {l1 : Int} {F : zF} {B : zB} {H : Heap} {locs : List Loc} {ls : Array Slot} (hf : f_Preconditions_checkIndex_9 K l0 l1 F B = some (r, F9, B9)) (hZ : zH D ca ad lnM nM L F B A H) (hS : va_S A s.heap H locs) (hl : lv_has ls 3 [(0, .int (iI l0)), (1, .int (iI l1))]) : W p l e ({ frames := 0, cells := 0, slots := 0, locals := 0 } : Room) s m args below meth c H locs 0 0 (MQ below (Q_Preconditions_checkIndex D ca ad L r F9 B9 A) args s 0 0 A) (F0 m 9 ls []) := by
  obtain ⟨hx, hb, hr, hml, hown, hts, hlk, hK, hA, hL, hX⟩ := id X
  replace hf : (none) = some (r, F9, B9) := hf
  cases hf

noncomputable def f_Preconditions_checkIndex (K : Nat) (l0 : Int) (l1 : Int) (F : zF) (B : zB) : zO := if r32 l0 then (if l0 < 0 then f_Preconditions_checkIndex_9 K l0 l1 F B else if r32 l1 then (if l0 < l1 then some (l0, F, B) else f_Preconditions_checkIndex_9 K l0 l1 F B) else none) else none
set_option maxHeartbeats 4000000 in
set_option maxRecDepth 100000 in
theorem c_Preconditions_checkIndex {l : Launch} {D : va_G} {ca : Nat → ClassId} {ad : Nat → Int → Nat → Nat} {L : List Nat} {aS vS : Nat → Nat} {sz K : Nat} {l2 : Option Nat} {l0 : Int} {l1 : Int} {F F9 : zF} {B B9 : zB} {r : Int} (hf : f_Preconditions_checkIndex K l0 l1 F B = some (r, F9, B9)) : Met l ({ cls := "jdk/internal/util/Preconditions", name := "checkIndex", desc := "(IILjava/util/function/BiFunction;)I" } : Jvm.MethodName) (Cond.code ({ cls := "jdk/internal/util/Preconditions", name := "checkIndex", desc := "(IILjava/util/function/BiFunction;)I" } : Jvm.MethodName) prog_24_method_11_code 3 (Option.some Jvm.ClassFile.FieldType.int) :: wAll) ({ frames := 0, cells := 0, slots := 0, locals := 0 } : Room) (va_Pc [.int (iI l0), .int (iI l1), va_rf l2] (zPre D ca ad lnM nM L aS vS F B sz)) (Q_Preconditions_checkIndex D ca ad L r F9 B9 (zA L sz)) 0 0 (zA L sz) := by
  refine zMet (Qc := Q_Preconditions_checkIndex D ca ad L r F9 B9) (lv := [(0, .int (iI l0)), (1, .int (iI l1)), (2, va_rf l2)]) (by decide) (by cases l2 <;> exact Nat.le_of_ble_eq_true rfl) (by cases l2 <;> rfl) (fun A p e s m below meth c ls X hZ hS hl => ?_)
  obtain ⟨hx, hb, hr, hml, hown, hts, hlk, hK, hA, hL, hX⟩ := id X
  replace hf : (if r32 l0 then (if l0 < 0 then f_Preconditions_checkIndex_9 K l0 l1 F B else if r32 l1 then (if l0 < l1 then some (l0, F, B) else f_Preconditions_checkIndex_9 K l0 l1 F B) else none) else none) = some (r, F9, B9) := hf
  refine lv_iload_n hx hb d_24_11_0 rfl (lv_at hl 0 rfl) ?_
  obtain ⟨g1, hf⟩ := gif hf
  refine z0lt (tgt := 9) hx hb g1 d_24_11_1 (by decide) (fun h2 => ?_) (fun h2 => ?_)
  · replace hf := gpos hf h2
    exact b_Preconditions_checkIndex_9 X hf hZ hS (lv_sub hl [0, 1] rfl)
  · replace hf := gneg hf h2
    refine lv_iload_n hx hb d_24_11_4 rfl (lv_at hl 0 rfl) ?_
    refine lv_iload_n hx hb d_24_11_5 rfl (lv_at hl 1 rfl) ?_
    obtain ⟨g3, hf⟩ := gif hf
    refine zlt (tgt := 16) hx hb g1 g3 d_24_11_6 (by decide) (fun h4 => ?_) (fun h4 => ?_)
    · replace hf := gpos hf h4
      refine lv_iload_n hx hb d_24_11_16 rfl (lv_at hl 0 rfl) ?_
      cases hf
      exact W.iret hx hb hr (fun t ht hW => ⟨⟨_, (), rfl, rfl, by rw [ht]; exact hZ, va_K.moved hW.alike hK⟩, hS.F ht⟩) hS.2.2 d_24_11_17 hlk
    · replace hf := gneg hf h4
      exact b_Preconditions_checkIndex_9 X hf hZ hS (lv_sub hl [0, 1] rfl)

noncomputable abbrev Q_String_checkIndex (D : va_G) (ca : Nat → ClassId) (ad : Nat → Int → Nat → Nat) (L : List Nat) (r : Int) (F : zF) (B : zB) (A : Nat → Prop) : Array Value → State → Outcome → State → Prop := va_Qv (S := Unit) (fun _ => True) (fun _ => zPo D ca ad lnM nM L F B A) A
noncomputable def f_String_checkIndex (K : Nat) (l0 : Int) (l1 : Int) (F : zF) (B : zB) : zO := zbind (f_Preconditions_checkIndex K l0 l1 F B) (fun r2 F2 B2 => some (0, F2, B2))
set_option maxHeartbeats 4000000 in
set_option maxRecDepth 100000 in
theorem c_String_checkIndex {l : Launch} {D : va_G} {ca : Nat → ClassId} {ad : Nat → Int → Nat → Nat} {L : List Nat} {aS vS : Nat → Nat} {sz K : Nat}  {l0 : Int} {l1 : Int} {F F9 : zF} {B B9 : zB} {r : Int} (hf : f_String_checkIndex K l0 l1 F B = some (r, F9, B9)) : Met l ({ cls := "java/lang/String", name := "checkIndex", desc := "(II)V" } : Jvm.MethodName) (Cond.code ({ cls := "java/lang/String", name := "checkIndex", desc := "(II)V" } : Jvm.MethodName) prog_21_method_155_code 2 (Option.none : Option Jvm.ClassFile.FieldType) :: wAll) ({ frames := 1, cells := 0, slots := 0, locals := 22 } : Room) (va_Pc [.int (iI l0), .int (iI l1)] (zPre D ca ad lnM nM L aS vS F B sz)) (Q_String_checkIndex D ca ad L r F9 B9 (zA L sz)) 0 0 (zA L sz) := by
  refine zMet (Qc := Q_String_checkIndex D ca ad L r F9 B9) (lv := [(0, .int (iI l0)), (1, .int (iI l1))]) (by decide) (Nat.le_of_ble_eq_true rfl) rfl (fun A p e s m below meth c ls X hZ hS hl => ?_)
  obtain ⟨hx, hb, hr, hml, hown, hts, hlk, hK, hA, hL, hX⟩ := id X
  replace hf : (zbind (f_Preconditions_checkIndex K l0 l1 F B) (fun r2 F2 B2 => some (0, F2, B2))) = some (r, F9, B9) := hf
  refine lv_iload_n hx hb d_21_155_0 rfl (lv_at hl 0 rfl) ?_
  refine lv_iload_n hx hb d_21_155_1 rfl (lv_at hl 1 rfl) ?_
  obtain ⟨o1, ho1⟩ := zfmt hX
  refine va_gets hx hb ho1 hS hown (hts _ k_3_120) (fun _ h => h) d_21_155_2 ?_
  obtain ⟨r2, F2, B2, hc2, hf⟩ := gbind hf
  refine va_calli (va_runS (As := [.int (iI l0), .int (iI l1), va_rf o1]) (rest := []) ⟨hx, hb, hml, hown, hts⟩ (c_Preconditions_checkIndex (l := l) hc2) (va_cwS 3 hts (gdS k_7_143 k_7_144 k_1_13 k_7_145) rfl rfl rfl (by decide +kernel) ⟨Nat.le_of_ble_eq_true rfl, Nat.le_of_ble_eq_true rfl⟩) (zPS X hZ hS [.int (iI l0), .int (iI l1), va_rf o1]) rfl rfl hl.1 rfl (lv_room (Nat.le_of_ble_eq_true rfl)) d_21_155_5 ⟨Nat.le_of_ble_eq_true rfl, Nat.le_of_ble_eq_true rfl⟩) hS (fun q _ h => zAin X hS q h) (zAin X hS) (fun p2 u2 t2 H2 locs2 ht2 hv2 hw2 hB2 hz2 hk2 hS2 => ?_)
  have hZ2 := zBack X ht2 hB2
  subst hw2
  refine lv_pop hx hb d_21_155_8 rfl ?_
  cases hf
  exact W.vret hx hb hr (fun t ht hW => ⟨⟨(), rfl, trivial, by rw [ht]; exact hZ2, va_K.moved hW.alike hK⟩, hS2.F ht⟩) hS2.2.2 d_21_155_9 hlk

noncomputable abbrev Q_StringLatin1_charAt (D : va_G) (ca : Nat → ClassId) (ad : Nat → Int → Nat → Nat) (L : List Nat) (r : Int) (F : zF) (B : zB) (A : Nat → Prop) : Array Value → State → Outcome → State → Prop := va_Qi (S := Unit) (fun p _ => p = iI r) (fun _ => zPo D ca ad lnM nM L F B A) A
noncomputable def f_StringLatin1_charAt (K : Nat) (l0 : Nat) (l1 : Int) (F : zF) (B : zB) : zO := if l0 < strL.length then zbind (f_String_checkIndex K l1 (zsl l0) F B) (fun r2 F2 B2 => if 0 ≤ l1 ∧ l1 < zsl l0 then if 0 ≤ (zi2c (zand (zsb l0 l1) 255)) ∧ (zi2c (zand (zsb l0 l1) 255)) < 65536 then some (zi2c (zand (zsb l0 l1) 255), F2, B2) else none else none) else none
set_option maxHeartbeats 4000000 in
set_option maxRecDepth 100000 in
theorem c_StringLatin1_charAt {l : Launch} {D : va_G} {ca : Nat → ClassId} {ad : Nat → Int → Nat → Nat} {L : List Nat} {aS vS : Nat → Nat} {sz K : Nat}  {l0 : Nat} {l1 : Int} {F F9 : zF} {B B9 : zB} {r : Int} (hf : f_StringLatin1_charAt K l0 l1 F B = some (r, F9, B9)) : Met l ({ cls := "java/lang/StringLatin1", name := "charAt", desc := "([BI)C" } : Jvm.MethodName) (Cond.code ({ cls := "java/lang/StringLatin1", name := "charAt", desc := "([BI)C" } : Jvm.MethodName) prog_22_method_2_code 2 (Option.some Jvm.ClassFile.FieldType.char) :: wAll) ({ frames := 2, cells := 0, slots := 0, locals := 43 } : Room) (va_Pc [.ref (vS l0), .int (iI l1)] (zPre D ca ad lnM nM L aS vS F B sz)) (Q_StringLatin1_charAt D ca ad L r F9 B9 (zA L sz)) 0 0 (zA L sz) := by
  refine zMet (Qc := Q_StringLatin1_charAt D ca ad L r F9 B9) (lv := [(0, .ref (vS l0)), (1, .int (iI l1))]) (by decide) (Nat.le_of_ble_eq_true rfl) rfl (fun A p e s m below meth c ls X hZ hS hl => ?_)
  obtain ⟨hx, hb, hr, hml, hown, hts, hlk, hK, hA, hL, hX⟩ := id X
  replace hf : (if l0 < strL.length then zbind (f_String_checkIndex K l1 (zsl l0) F B) (fun r2 F2 B2 => if 0 ≤ l1 ∧ l1 < zsl l0 then if 0 ≤ (zi2c (zand (zsb l0 l1) 255)) ∧ (zi2c (zand (zsb l0 l1) 255)) < 65536 then some (zi2c (zand (zsb l0 l1) 255), F2, B2) else none else none) else none) = some (r, F9, B9) := hf
  refine lv_iload_n hx hb d_22_2_0 rfl (lv_at hl 1 rfl) ?_
  refine lv_aload_n hx hb d_22_2_1 rfl (lv_at hl 0 rfl) ?_
  obtain ⟨g1, hf⟩ := gif hf
  refine va_tlen (v := iI (zsl l0)) hx hb (zstr hX g1).2.2.1 hS (zsl_n _) d_22_2_2 ?_
  obtain ⟨r2, F2, B2, hc2, hf⟩ := gbind hf
  refine va_callv (va_runS (As := [.int (iI l1), .int (iI (zsl l0))]) (rest := []) ⟨hx, hb, hml, hown, hts⟩ (c_String_checkIndex (l := l) hc2) (va_cwS 2 hts (gdS k_7_140 k_7_141 k_1_11 k_7_142) rfl rfl rfl (by decide +kernel) ⟨Nat.le_of_ble_eq_true rfl, Nat.le_of_ble_eq_true rfl⟩) (zPS X hZ hS [.int (iI l1), .int (iI (zsl l0))]) rfl rfl hl.1 rfl (lv_room (Nat.le_of_ble_eq_true rfl)) d_22_2_3 ⟨Nat.le_of_ble_eq_true rfl, Nat.le_of_ble_eq_true rfl⟩) hS (fun q _ h => zAin X hS q h) (zAin X hS) (fun u2 t2 H2 locs2 ht2 hv2 hw2 hB2 hz2 hk2 hS2 => ?_)
  have hZ2 := zBack X ht2 hB2
  refine lv_aload_n hx hb d_22_2_6 rfl (lv_at hl 0 rfl) ?_
  refine lv_iload_n hx hb d_22_2_7 rfl (lv_at hl 1 rfl) ?_
  obtain ⟨g3, hf⟩ := gif hf
  refine va_tb (v := .int (iI (zsb l0 l1))) hx hb (zstr hX g1).2.2.1 hS2 (zs_in g1 g3) (zsb_v g1 g3) d_22_2_8 ?_
  refine lv_sipush (v := iI 255) hx hb d_22_2_9 (by decide) ?_
  refine zand_r hx hb d_22_2_12 ?_
  refine zi2c_r hx hb d_22_2_13 ?_
  obtain ⟨g4, hf⟩ := gif hf
  cases hf
  exact W.zret hx hb hr (zchar g4) (fun t ht hW => ⟨⟨_, (), rfl, rfl, by rw [ht]; exact hZ2, va_K.moved hW.alike hK⟩, hS2.F ht⟩) hS2.2.2 d_22_2_14 hlk

noncomputable abbrev Q_String_charAt (D : va_G) (ca : Nat → ClassId) (ad : Nat → Int → Nat → Nat) (L : List Nat) (r : Int) (F : zF) (B : zB) (A : Nat → Prop) : Array Value → State → Outcome → State → Prop := va_Qi (S := Unit) (fun p _ => p = iI r) (fun _ => zPo D ca ad lnM nM L F B A) A
noncomputable def f_String_charAt (K : Nat) (l0 : Nat) (l1 : Int) (F : zF) (B : zB) : zO := if l0 < strL.length then zbind (f_String_isLatin1 K l0 F B) (fun r2 F2 B2 => if r32 r2 then (if r2 = 0 then none else zbind (f_StringLatin1_charAt K l0 l1 F2 B2) (fun r5 F5 B5 => if 0 ≤ r5 ∧ r5 < 65536 then some (r5, F5, B5) else none)) else none) else none
set_option maxHeartbeats 4000000 in
set_option maxRecDepth 100000 in
theorem c_String_charAt {l : Launch} {D : va_G} {ca : Nat → ClassId} {ad : Nat → Int → Nat → Nat} {L : List Nat} {aS vS : Nat → Nat} {sz K : Nat}  {l0 : Nat} {l1 : Int} {F F9 : zF} {B B9 : zB} {r : Int} (hf : f_String_charAt K l0 l1 F B = some (r, F9, B9)) : Met l ({ cls := "java/lang/String", name := "charAt", desc := "(I)C" } : Jvm.MethodName) (Cond.code ({ cls := "java/lang/String", name := "charAt", desc := "(I)C" } : Jvm.MethodName) prog_21_method_56_code 2 (Option.some Jvm.ClassFile.FieldType.char) :: wAll) ({ frames := 3, cells := 0, slots := 0, locals := 64 } : Room) (va_Pc [.ref (aS l0), .int (iI l1)] (zPre D ca ad lnM nM L aS vS F B sz)) (Q_String_charAt D ca ad L r F9 B9 (zA L sz)) 0 0 (zA L sz) := by
  refine zMet (Qc := Q_String_charAt D ca ad L r F9 B9) (lv := [(0, .ref (aS l0)), (1, .int (iI l1))]) (by decide) (Nat.le_of_ble_eq_true rfl) rfl (fun A p e s m below meth c ls X hZ hS hl => ?_)
  obtain ⟨hx, hb, hr, hml, hown, hts, hlk, hK, hA, hL, hX⟩ := id X
  replace hf : (if l0 < strL.length then zbind (f_String_isLatin1 K l0 F B) (fun r2 F2 B2 => if r32 r2 then (if r2 = 0 then none else zbind (f_StringLatin1_charAt K l0 l1 F2 B2) (fun r5 F5 B5 => if 0 ≤ r5 ∧ r5 < 65536 then some (r5, F5, B5) else none)) else none) else none) = some (r, F9, B9) := hf
  refine lv_aload_n hx hb d_21_56_0 rfl (lv_at hl 0 rfl) ?_
  obtain ⟨g1, hf⟩ := gif hf
  obtain ⟨r2, F2, B2, hc2, hf⟩ := gbind hf
  refine va_calli (va_runV (As := []) (rest := []) ⟨hx, hb, hml, hown, hts⟩ (c_String_isLatin1 (l := l) hc2) (cwV 0 hts (gdV k_3_75 k_3_76 k_3_77 k_1_11 k_3_78) rfl rfl rfl (by decide +kernel) ⟨Nat.le_of_ble_eq_true rfl, Nat.le_of_ble_eq_true rfl⟩) ⟨zBlind, zsrecv hX g1 hS, zAt X hZ hS [.ref (aS l0)]⟩ rfl rfl hl.1 rfl (lv_room (Nat.le_of_ble_eq_true rfl)) d_21_56_1 ⟨Nat.le_of_ble_eq_true rfl, Nat.le_of_ble_eq_true rfl⟩) hS (fun q _ h => zAin X hS q h) (zAin X hS) (fun p2 u2 t2 H2 locs2 ht2 hv2 hw2 hB2 hz2 hk2 hS2 => ?_)
  have hZ2 := zBack X ht2 hB2
  subst hw2
  obtain ⟨g3, hf⟩ := gif hf
  refine z0eq (tgt := 16) hx hb g3 d_21_56_4 (by decide) (fun h4 => ?_) (fun h4 => ?_)
  · replace hf := gpos hf h4
    refine lv_aload_n hx hb d_21_56_16 rfl (lv_at hl 0 rfl) ?_
    refine vk_getf hx hb (zstr hX g1).2.1 hS2 hown (hts _ k_15_170) (fun _ h => h) d_21_56_17 ?_
    refine W.eq (g2 := F0 m 20 ls [.ref (vS l0)]) rfl ?_
    refine lv_iload_n hx hb d_21_56_20 rfl (lv_at hl 1 rfl) ?_
    cases hf
  · replace hf := gneg hf h4
    refine lv_aload_n hx hb d_21_56_7 rfl (lv_at hl 0 rfl) ?_
    refine vk_getf hx hb (zstr hX g1).2.1 hS2 hown (hts _ k_15_170) (fun _ h => h) d_21_56_8 ?_
    refine W.eq (g2 := F0 m 11 ls [.ref (vS l0)]) rfl ?_
    refine lv_iload_n hx hb d_21_56_11 rfl (lv_at hl 1 rfl) ?_
    obtain ⟨r5, F5, B5, hc5, hf⟩ := gbind hf
    refine va_calli (va_runS (As := [.ref (vS l0), .int (iI l1)]) (rest := []) ⟨hx, hb, hml, hown, hts⟩ (c_StringLatin1_charAt (l := l) hc5) (va_cwS 2 hts (gdS k_7_137 k_7_138 k_1_12 k_7_139) rfl rfl rfl (by decide +kernel) ⟨Nat.le_of_ble_eq_true rfl, Nat.le_of_ble_eq_true rfl⟩) (zPS X hZ2 hS2 [.ref (vS l0), .int (iI l1)]) rfl rfl hl.1 rfl (lv_room (Nat.le_of_ble_eq_true rfl)) d_21_56_12 ⟨Nat.le_of_ble_eq_true rfl, Nat.le_of_ble_eq_true rfl⟩) hS2 (fun q _ h => zAin X hS2 q h) (zAin X hS2) (fun p5 u5 t5 H5 locs5 ht5 hv5 hw5 hB5 hz5 hk5 hS5 => ?_)
    have hZ5 := zBack X ht5 hB5
    subst hw5
    obtain ⟨g6, hf⟩ := gif hf
    cases hf
    exact W.zret hx hb hr (zchar g6) (fun t ht hW => ⟨⟨_, (), rfl, rfl, by rw [ht]; exact hZ5, va_K.moved hW.alike hK⟩, hS5.F ht⟩) hS5.2.2 d_21_56_15 hlk

