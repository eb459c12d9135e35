theorem k_4_189 : (Jvm.Cond.methodLink "StaveHouse$Walker" (64 : Nat) ({ cls := "StaveHouse$Piece", name := "barLength", desc := "()J" } : Jvm.MethodName)) ∈ wAll := wA_4 (j := 189) rfl rfl
theorem k_4_195 : (Jvm.Cond.constantLong "StaveHouse$Walker" (73 : Nat) (100 : Int64)) ∈ wAll := wA_4 (j := 195) rfl rfl
theorem k_4_128 : (Jvm.Cond.fieldLink "StaveHouse$Walker" (86 : Nat) "StaveHouse$Part" "root" "I") ∈ wAll := wA_4 (j := 128) rfl rfl
theorem W_prog_13_method_2_code_0 : chW prog_13_method_2_code 0 [42, 43, 181, 0, 24, 42, 45, 181, 0, 28, 42, 3, 181, 0, 32, 42, 3, 181, 0, 36, 42, 7, 181, 0, 39, 42, 3, 181, 0, 42, 42, 3, 181, 0, 45, 42] := chW_of (by decide +kernel)
theorem d_13_2_0 : decode prog_13_method_2_code 0 = .ok (.aload_n 0, 1) := D_42 W_prog_13_method_2_code_0 0 rfl rfl
theorem d_13_2_1 : decode prog_13_method_2_code 1 = .ok (.aload_n 1, 1) := D_43 W_prog_13_method_2_code_0 1 rfl rfl
theorem d_13_2_2 : decode prog_13_method_2_code 2 = .ok (.putfield 24, 3) := D_181 W_prog_13_method_2_code_0 2 rfl rfl rfl
theorem d_13_2_5 : decode prog_13_method_2_code 5 = .ok (.aload_n 0, 1) := D_42 W_prog_13_method_2_code_0 5 rfl rfl
theorem d_13_2_6 : decode prog_13_method_2_code 6 = .ok (.aload_n 3, 1) := D_45 W_prog_13_method_2_code_0 6 rfl rfl
theorem d_13_2_7 : decode prog_13_method_2_code 7 = .ok (.putfield 28, 3) := D_181 W_prog_13_method_2_code_0 7 rfl rfl rfl
theorem d_13_2_10 : decode prog_13_method_2_code 10 = .ok (.aload_n 0, 1) := D_42 W_prog_13_method_2_code_0 10 rfl rfl
theorem d_13_2_11 : decode prog_13_method_2_code 11 = .ok (.iconst 0, 1) := D_3 W_prog_13_method_2_code_0 11 rfl rfl
theorem d_13_2_12 : decode prog_13_method_2_code 12 = .ok (.putfield 32, 3) := D_181 W_prog_13_method_2_code_0 12 rfl rfl rfl
theorem d_13_2_15 : decode prog_13_method_2_code 15 = .ok (.aload_n 0, 1) := D_42 W_prog_13_method_2_code_0 15 rfl rfl
theorem d_13_2_16 : decode prog_13_method_2_code 16 = .ok (.iconst 0, 1) := D_3 W_prog_13_method_2_code_0 16 rfl rfl
theorem d_13_2_17 : decode prog_13_method_2_code 17 = .ok (.putfield 36, 3) := D_181 W_prog_13_method_2_code_0 17 rfl rfl rfl
theorem d_13_2_20 : decode prog_13_method_2_code 20 = .ok (.aload_n 0, 1) := D_42 W_prog_13_method_2_code_0 20 rfl rfl
theorem d_13_2_21 : decode prog_13_method_2_code 21 = .ok (.iconst 4, 1) := D_7 W_prog_13_method_2_code_0 21 rfl rfl
theorem d_13_2_22 : decode prog_13_method_2_code 22 = .ok (.putfield 39, 3) := D_181 W_prog_13_method_2_code_0 22 rfl rfl rfl
theorem d_13_2_25 : decode prog_13_method_2_code 25 = .ok (.aload_n 0, 1) := D_42 W_prog_13_method_2_code_0 25 rfl rfl
theorem d_13_2_26 : decode prog_13_method_2_code 26 = .ok (.iconst 0, 1) := D_3 W_prog_13_method_2_code_0 26 rfl rfl
theorem d_13_2_27 : decode prog_13_method_2_code 27 = .ok (.putfield 42, 3) := D_181 W_prog_13_method_2_code_0 27 rfl rfl rfl
theorem d_13_2_30 : decode prog_13_method_2_code 30 = .ok (.aload_n 0, 1) := D_42 W_prog_13_method_2_code_0 30 rfl rfl
theorem d_13_2_31 : decode prog_13_method_2_code 31 = .ok (.iconst 0, 1) := D_3 W_prog_13_method_2_code_0 31 rfl rfl
theorem W_prog_13_method_2_code_32 : chW prog_13_method_2_code 32 [181, 0, 45, 42, 3, 181, 0, 48, 42, 3, 181, 0, 51, 42, 4, 181, 0, 54, 42, 4, 181, 0, 57, 42, 9, 181, 0, 60, 42, 44, 182, 0, 64, 181, 0, 70] := chW_of (by decide +kernel)
theorem d_13_2_32 : decode prog_13_method_2_code 32 = .ok (.putfield 45, 3) := D_181 W_prog_13_method_2_code_32 0 rfl rfl rfl
theorem d_13_2_35 : decode prog_13_method_2_code 35 = .ok (.aload_n 0, 1) := D_42 W_prog_13_method_2_code_32 3 rfl rfl
theorem d_13_2_36 : decode prog_13_method_2_code 36 = .ok (.iconst 0, 1) := D_3 W_prog_13_method_2_code_32 4 rfl rfl
theorem d_13_2_37 : decode prog_13_method_2_code 37 = .ok (.putfield 48, 3) := D_181 W_prog_13_method_2_code_32 5 rfl rfl rfl
theorem d_13_2_40 : decode prog_13_method_2_code 40 = .ok (.aload_n 0, 1) := D_42 W_prog_13_method_2_code_32 8 rfl rfl
theorem d_13_2_41 : decode prog_13_method_2_code 41 = .ok (.iconst 0, 1) := D_3 W_prog_13_method_2_code_32 9 rfl rfl
theorem d_13_2_42 : decode prog_13_method_2_code 42 = .ok (.putfield 51, 3) := D_181 W_prog_13_method_2_code_32 10 rfl rfl rfl
theorem d_13_2_45 : decode prog_13_method_2_code 45 = .ok (.aload_n 0, 1) := D_42 W_prog_13_method_2_code_32 13 rfl rfl
theorem d_13_2_46 : decode prog_13_method_2_code 46 = .ok (.iconst 1, 1) := D_4 W_prog_13_method_2_code_32 14 rfl rfl
theorem d_13_2_47 : decode prog_13_method_2_code 47 = .ok (.putfield 54, 3) := D_181 W_prog_13_method_2_code_32 15 rfl rfl rfl
theorem d_13_2_50 : decode prog_13_method_2_code 50 = .ok (.aload_n 0, 1) := D_42 W_prog_13_method_2_code_32 18 rfl rfl
theorem d_13_2_51 : decode prog_13_method_2_code 51 = .ok (.iconst 1, 1) := D_4 W_prog_13_method_2_code_32 19 rfl rfl
theorem d_13_2_52 : decode prog_13_method_2_code 52 = .ok (.putfield 57, 3) := D_181 W_prog_13_method_2_code_32 20 rfl rfl rfl
theorem d_13_2_55 : decode prog_13_method_2_code 55 = .ok (.aload_n 0, 1) := D_42 W_prog_13_method_2_code_32 23 rfl rfl
theorem d_13_2_56 : decode prog_13_method_2_code 56 = .ok (.lconst 0, 1) := D_9 W_prog_13_method_2_code_32 24 rfl rfl
theorem d_13_2_57 : decode prog_13_method_2_code 57 = .ok (.putfield 60, 3) := D_181 W_prog_13_method_2_code_32 25 rfl rfl rfl
theorem d_13_2_60 : decode prog_13_method_2_code 60 = .ok (.aload_n 0, 1) := D_42 W_prog_13_method_2_code_32 28 rfl rfl
theorem d_13_2_61 : decode prog_13_method_2_code 61 = .ok (.aload_n 2, 1) := D_44 W_prog_13_method_2_code_32 29 rfl rfl
theorem d_13_2_62 : decode prog_13_method_2_code 62 = .ok (.invokevirtual 64, 3) := D_182 W_prog_13_method_2_code_32 30 rfl rfl rfl
theorem W_prog_13_method_2_code_64 : chW prog_13_method_2_code 64 [64, 181, 0, 70, 42, 20, 0, 73, 42, 180, 0, 70, 105, 181, 0, 75, 42, 3, 181, 0, 78, 3, 54, 4, 21, 4, 42, 180, 0, 9, 190, 162, 0, 17, 42, 180] := chW_of (by decide +kernel)
theorem d_13_2_65 : decode prog_13_method_2_code 65 = .ok (.putfield 70, 3) := D_181 W_prog_13_method_2_code_64 1 rfl rfl rfl
theorem d_13_2_68 : decode prog_13_method_2_code 68 = .ok (.aload_n 0, 1) := D_42 W_prog_13_method_2_code_64 4 rfl rfl
theorem d_13_2_69 : decode prog_13_method_2_code 69 = .ok (.ldc2_w 73, 3) := D_20 W_prog_13_method_2_code_64 5 rfl rfl rfl
theorem d_13_2_72 : decode prog_13_method_2_code 72 = .ok (.aload_n 0, 1) := D_42 W_prog_13_method_2_code_64 8 rfl rfl
theorem d_13_2_73 : decode prog_13_method_2_code 73 = .ok (.getfield 70, 3) := D_180 W_prog_13_method_2_code_64 9 rfl rfl rfl
theorem d_13_2_76 : decode prog_13_method_2_code 76 = .ok (.lmul, 1) := D_105 W_prog_13_method_2_code_64 12 rfl rfl
theorem d_13_2_77 : decode prog_13_method_2_code 77 = .ok (.putfield 75, 3) := D_181 W_prog_13_method_2_code_64 13 rfl rfl rfl
theorem d_13_2_80 : decode prog_13_method_2_code 80 = .ok (.aload_n 0, 1) := D_42 W_prog_13_method_2_code_64 16 rfl rfl
theorem d_13_2_81 : decode prog_13_method_2_code 81 = .ok (.iconst 0, 1) := D_3 W_prog_13_method_2_code_64 17 rfl rfl
theorem d_13_2_82 : decode prog_13_method_2_code 82 = .ok (.putfield 78, 3) := D_181 W_prog_13_method_2_code_64 18 rfl rfl rfl
theorem d_13_2_85 : decode prog_13_method_2_code 85 = .ok (.iconst 0, 1) := D_3 W_prog_13_method_2_code_64 21 rfl rfl
theorem d_13_2_86 : decode prog_13_method_2_code 86 = .ok (.istore 4, 2) := D_54 W_prog_13_method_2_code_64 22 rfl rfl
theorem d_13_2_88 : decode prog_13_method_2_code 88 = .ok (.iload 4, 2) := D_21 W_prog_13_method_2_code_64 24 rfl rfl
theorem d_13_2_90 : decode prog_13_method_2_code 90 = .ok (.aload_n 0, 1) := D_42 W_prog_13_method_2_code_64 26 rfl rfl
theorem d_13_2_91 : decode prog_13_method_2_code 91 = .ok (.getfield 9, 3) := D_180 W_prog_13_method_2_code_64 27 rfl rfl rfl
theorem d_13_2_94 : decode prog_13_method_2_code 94 = .ok (.arraylength, 1) := D_190 W_prog_13_method_2_code_64 30 rfl rfl
theorem d_13_2_95 : decode prog_13_method_2_code 95 = .ok (.if_icmp .ge 17, 3) := D_162 W_prog_13_method_2_code_64 31 rfl rfl rfl
theorem W_prog_13_method_2_code_96 : chW prog_13_method_2_code 96 [0, 17, 42, 180, 0, 9, 21, 4, 3, 79, 132, 4, 1, 167, 255, 235, 42, 42, 180, 0, 24, 180, 0, 81, 42, 180, 0, 28, 180, 0, 86, 46, 3, 182, 0, 91] := chW_of (by decide +kernel)
theorem d_13_2_112 : decode prog_13_method_2_code 112 = .ok (.aload_n 0, 1) := D_42 W_prog_13_method_2_code_96 16 rfl rfl
theorem d_13_2_113 : decode prog_13_method_2_code 113 = .ok (.aload_n 0, 1) := D_42 W_prog_13_method_2_code_96 17 rfl rfl
theorem d_13_2_114 : decode prog_13_method_2_code 114 = .ok (.getfield 24, 3) := D_180 W_prog_13_method_2_code_96 18 rfl rfl rfl
theorem d_13_2_117 : decode prog_13_method_2_code 117 = .ok (.getfield 81, 3) := D_180 W_prog_13_method_2_code_96 21 rfl rfl rfl
theorem d_13_2_120 : decode prog_13_method_2_code 120 = .ok (.aload_n 0, 1) := D_42 W_prog_13_method_2_code_96 24 rfl rfl
theorem d_13_2_121 : decode prog_13_method_2_code 121 = .ok (.getfield 28, 3) := D_180 W_prog_13_method_2_code_96 25 rfl rfl rfl
theorem d_13_2_124 : decode prog_13_method_2_code 124 = .ok (.getfield 86, 3) := D_180 W_prog_13_method_2_code_96 28 rfl rfl rfl
theorem d_13_2_127 : decode prog_13_method_2_code 127 = .ok (.iaload, 1) := D_46 W_prog_13_method_2_code_96 31 rfl rfl
theorem W_prog_13_method_2_code_128 : chW prog_13_method_2_code 128 [3, 182, 0, 91, 42, 180, 0, 32, 172] := chW_of (by decide +kernel)
theorem d_13_2_128 : decode prog_13_method_2_code 128 = .ok (.iconst 0, 1) := D_3 W_prog_13_method_2_code_128 0 rfl rfl
theorem d_13_2_129 : decode prog_13_method_2_code 129 = .ok (.invokevirtual 91, 3) := D_182 W_prog_13_method_2_code_128 1 rfl rfl rfl
theorem d_13_2_132 : decode prog_13_method_2_code 132 = .ok (.aload_n 0, 1) := D_42 W_prog_13_method_2_code_128 4 rfl rfl
theorem d_13_2_133 : decode prog_13_method_2_code 133 = .ok (.getfield 32, 3) := D_180 W_prog_13_method_2_code_128 5 rfl rfl rfl
theorem d_13_2_136 : decode prog_13_method_2_code 136 = .ok (.ireturn, 1) := D_172 W_prog_13_method_2_code_128 8 rfl rfl
theorem d_13_2_98 : decode prog_13_method_2_code 98 = .ok (.aload_n 0, 1) := D_42 W_prog_13_method_2_code_96 2 rfl rfl
theorem d_13_2_99 : decode prog_13_method_2_code 99 = .ok (.getfield 9, 3) := D_180 W_prog_13_method_2_code_96 3 rfl rfl rfl
theorem d_13_2_102 : decode prog_13_method_2_code 102 = .ok (.iload 4, 2) := D_21 W_prog_13_method_2_code_96 6 rfl rfl
theorem d_13_2_104 : decode prog_13_method_2_code 104 = .ok (.iconst 0, 1) := D_3 W_prog_13_method_2_code_96 8 rfl rfl
theorem d_13_2_105 : decode prog_13_method_2_code 105 = .ok (.iastore, 1) := D_79 W_prog_13_method_2_code_96 9 rfl rfl
theorem d_13_2_106 : decode prog_13_method_2_code 106 = .ok (.iinc 4 1, 3) := D_132 W_prog_13_method_2_code_96 10 rfl rfl rfl
theorem d_13_2_109 : decode prog_13_method_2_code 109 = .ok (.goto (-21), 3) := D_167 W_prog_13_method_2_code_96 13 rfl rfl rfl
noncomputable abbrev Q_Walker_goVoice (K : zK) (D : va_G) (ca : Nat → ClassId) (ad : Nat → Int → Nat → Nat) (L : List Nat) (r : Int) (F : zF) (B : zB) (A : Nat → Prop) : Array Value → State → Outcome → State → Prop := va_Qi (S := Unit) (fun p _ => p = iI r) (fun _ => zPo D ca ad lnC K.2 L F B A) A
noncomputable def f_Walker_goVoice_88 (K : zK) : Nat → Int → Int → zF → zB → zO
  | 0, _, _, _, _ => none
  | n + 1, l4, l0, F, B => if 0 ≤ l0 ∧ l0 < K.2 11 then if r32 l4 then (if 4 ≤ l4 then if 0 ≤ (F 11 l0 0) ∧ (F 11 l0 0) < K.2 3 then if 0 ≤ (F 11 l0 1) ∧ (F 11 l0 1) < K.2 4 then if 0 ≤ (F 4 (F 11 l0 1) 4) ∧ (F 4 (F 11 l0 1) 4) < 3000 then zbind (f_Walker_goThrough K l0 (B 3 (F 11 l0 0) 4 (F 4 (F 11 l0 1) 4)) 0 F B) (fun r29 F29 B29 => some (F29 11 l0 2, F29, B29)) else none else none else none else if 0 ≤ l4 ∧ l4 < 4 then f_Walker_goVoice_88 K n (l4 + 1) l0 F (zup4 B 11 l0 14 l4 0) else none) else none else none
set_option maxHeartbeats 4000000 in
set_option maxRecDepth 100000 in
theorem b_Walker_goVoice_88 {D : va_G} {ca : Nat → ClassId} {ad : Nat → Int → Nat → Nat} {L : List Nat} {aS vS : Nat → Nat} {A : Nat → Prop} {p : Program} {l : Launch} {e : Env} {s : State} {m : MethodId} {args : Array Value} {below : List Frame} {meth : Method} {c : Code} {K : zK} {r : Int} {F9 : zF} {B9 : zB} (X : zX D ca L aS vS A p s m args meth c prog_13_method_2_code 5 (Option.some Jvm.ClassFile.FieldType.int) "StaveHouse$Walker") : ∀ {n : Nat} {l4 : Int} {l0 : Int} {F : zF} {B : zB} {H : Heap} {locs : List Loc} {ls : Array Slot}, f_Walker_goVoice_88 K n l4 l0 F B = some (r, F9, B9) → zH D ca ad lnC K.2 L F B A H → va_S A s.heap H locs → lv_has ls 5 [(4, .int (iI l4)), (0, .ref (ad 11 l0 0))] → W p l e ({ frames := 206, cells := 0, slots := 0, locals := 5119 } : Room) s m args below meth c H locs 0 0 (MQ below (Q_Walker_goVoice K D ca ad L r F9 B9 A) args s 0 0 A) (F0 m 88 ls []) := by
  obtain ⟨hx, hb, hr, hml, hown, hts, hlk, hK, hA, hL, hX⟩ := id X
  intro n
  induction n with
  | zero =>
    intros
    rename_i hf _ _ _
    cases hf
  | succ n ih =>
    intro l4 l0 F B H locs ls hf hZ hS hl
    replace hf : (if 0 ≤ l0 ∧ l0 < K.2 11 then if r32 l4 then (if 4 ≤ l4 then if 0 ≤ (F 11 l0 0) ∧ (F 11 l0 0) < K.2 3 then if 0 ≤ (F 11 l0 1) ∧ (F 11 l0 1) < K.2 4 then if 0 ≤ (F 4 (F 11 l0 1) 4) ∧ (F 4 (F 11 l0 1) 4) < 3000 then zbind (f_Walker_goThrough K l0 (B 3 (F 11 l0 0) 4 (F 4 (F 11 l0 1) 4)) 0 F B) (fun r29 F29 B29 => some (F29 11 l0 2, F29, B29)) else none else none else none else if 0 ≤ l4 ∧ l4 < 4 then f_Walker_goVoice_88 K n (l4 + 1) l0 F (zup4 B 11 l0 14 l4 0) else none) else none else none) = some (r, F9, B9) := hf
    refine lv_iload hx hb d_13_2_88 (lv_at hl 0 rfl) ?_
    refine lv_aload_n hx hb d_13_2_90 rfl (lv_at hl 1 rfl) ?_
    obtain ⟨g23, hf⟩ := gif hf
    refine zget (ci := 11) (C := RX11) (T := TX11) (v := .ref (ad 11 l0 (14 + 1))) (k := 14) hx hb hts inW_11 hown hK hZ g23.1 g23.2 rfl (by decide) k_1_204 rfl d_13_2_91 ?_
    refine zlen (t := 0) (x := 0) (ci := 11) (k := 14) hx hb hK rfl (fun _ _ => ⟨_, rfl⟩) hZ g23.1 g23.2 rfl d_13_2_94 ?_
    refine W.eq (g2 := F0 m 95 ls [.int (iI 4), .int (iI l4)]) rfl ?_
    obtain ⟨g24, hf⟩ := gif hf
    refine zge (tgt := 112) hx hb g24 (by decide) d_13_2_95 (by decide) (fun h25 => ?_) (fun h25 => ?_)
    · replace hf := gpos hf h25
      refine lv_aload_n hx hb d_13_2_112 rfl (lv_at hl 1 rfl) ?_
      refine lv_aload_n hx hb d_13_2_113 rfl (lv_at hl 1 rfl) ?_
      refine zget (ci := 11) (C := RX11) (T := TX11) (v := va_rf (zrf ad 3 (F 11 l0 0))) (k := 0) hx hb hts inW_11 hown hK hZ g23.1 g23.2 rfl (by decide) k_1_190 rfl d_13_2_114 ?_
      obtain ⟨g26, hf⟩ := gif hf
      refine zunrf g26.1 ?_
      refine zget (ci := 3) (C := RX3) (T := TX3) (v := .ref (ad 3 (F 11 l0 0) (4 + 1))) (k := 4) hx hb hts inW_3 hown hK hZ g26.1 g26.2 rfl (by decide) k_1_115 rfl d_13_2_117 ?_
      refine lv_aload_n hx hb d_13_2_120 rfl (lv_at hl 1 rfl) ?_
      refine zget (ci := 11) (C := RX11) (T := TX11) (v := va_rf (zrf ad 4 (F 11 l0 1))) (k := 1) hx hb hts inW_11 hown hK hZ g23.1 g23.2 rfl (by decide) k_1_191 rfl d_13_2_121 ?_
      obtain ⟨g27, hf⟩ := gif hf
      refine zunrf g27.1 ?_
      refine zget (ci := 4) (C := RX4) (T := TX4) (v := .int (iI (F 4 (F 11 l0 1) 4))) (k := 4) hx hb hts inW_4 hown hK hZ g27.1 g27.2 rfl (by decide) k_4_128 rfl d_13_2_124 ?_
      obtain ⟨g28, hf⟩ := gif hf
      refine zald (ci := 3) (k := 4) hx hb hK rfl hZ g26.1 g26.2 rfl (Nat.le_of_ble_eq_true rfl) g28.1 g28.2 d_13_2_127 ?_
      refine lv_iconst (v := iI 0) hx hb d_13_2_128 rfl ?_
      obtain ⟨r29, F29, B29, hc29, hf⟩ := gbind hf
      refine va_callv (va_runV (As := [.int (iI (B 3 (F 11 l0 0) 4 (F 4 (F 11 l0 1) 4))), .int (iI 0)]) (rest := []) ⟨hx, hb, hml, hown, hts⟩ (c_Walker_goThrough (l := l) hc29) (cwV 2 hts (gdV k_4_196 k_4_198 ks_34 k_1_6 k_4_199) rfl rfl rfl (by decide +kernel) ⟨Nat.le_of_ble_eq_true rfl, Nat.le_of_ble_eq_true rfl⟩) (zPV X hZ hS (ci := 11) g23.1 g23.2 (r := (RX11, TX11, 19)) rfl [.int (iI (B 3 (F 11 l0 0) 4 (F 4 (F 11 l0 1) 4))), .int (iI 0)]) rfl rfl hl.1 rfl (lv_room (Nat.le_of_ble_eq_true rfl)) d_13_2_129 ⟨Nat.le_of_ble_eq_true rfl, Nat.le_of_ble_eq_true rfl⟩) hS (fun q _ h => zAin X hS q h) (zAin X hS) (fun u29 t29 H29 locs29 ht29 hv29 hw29 hB29 hz29 hk29 hS29 => ?_)
      have hZ29 := zBack X ht29 hB29
      refine lv_aload_n hx hb d_13_2_132 rfl (lv_at hl 1 rfl) ?_
      refine zget (ci := 11) (C := RX11) (T := TX11) (v := .int (iI (F29 11 l0 2))) (k := 2) hx hb hts inW_11 hown hK hZ29 g23.1 g23.2 rfl (by decide) k_1_192 rfl d_13_2_133 ?_
      cases hf
      exact W.iret hx hb hr (fun t ht hW => ⟨⟨_, (), rfl, rfl, by rw [ht]; exact hZ29, va_K.moved hW.alike hK⟩, hS29.F ht⟩) hS29.2.2 d_13_2_136 hlk
    · replace hf := gneg hf h25
      refine lv_aload_n hx hb d_13_2_98 rfl (lv_at hl 1 rfl) ?_
      refine zget (ci := 11) (C := RX11) (T := TX11) (v := .ref (ad 11 l0 (14 + 1))) (k := 14) hx hb hts inW_11 hown hK hZ g23.1 g23.2 rfl (by decide) k_1_204 rfl d_13_2_99 ?_
      refine lv_iload hx hb d_13_2_102 (lv_at hl 0 rfl) ?_
      refine lv_iconst (v := iI 0) hx hb d_13_2_104 rfl ?_
      obtain ⟨g30, hf⟩ := gif hf
      refine zast (ci := 11) (k := 14) hx hb hK rfl hZ hS g23.1 g23.2 rfl (Nat.le_of_ble_eq_true rfl) g30.1 g30.2 d_13_2_105 (fun H31 locs31 hZ31 hS31 => ?_)
      refine lv_iinc (v := iI (l4 + 1)) (lv' := [(4, .int (iI (l4 + 1))), (0, .ref (ad 11 l0 0))]) hx hb d_13_2_106 hl (k := 0) rfl (iI_add _ 1) (by decide) rfl (fun ls hl => ?_)
      refine lv_goto (tgt := 88) hx hb d_13_2_109 (by decide) ?_
      exact ih hf hZ31 hS31 (lv_sub hl [0, 1] rfl)

noncomputable def f_Walker_goVoice (K : zK) (l0 : Int) (l1 : Int) (l2 : Int) (l3 : Int) (F : zF) (B : zB) : zO := if 0 ≤ l0 ∧ l0 < K.2 11 then if 0 ≤ l1 ∧ l1 < K.2 3 then if l1 < K.2 3 then if 0 ≤ l3 ∧ l3 < K.2 4 then if l3 < K.2 4 then if 0 ≤ l2 ∧ l2 < K.2 6 then zbind (f_Piece_barLength K l2 (zup3 (zup3 (zup3 (zup3 (zup3 (zup3 (zup3 (zup3 (zup3 (zup3 (zup3 (zup3 F 11 l0 0 l1) 11 l0 1 l3) 11 l0 2 0) 11 l0 3 0) 11 l0 4 4) 11 l0 5 0) 11 l0 6 0) 11 l0 7 0) 11 l0 8 0) 11 l0 9 1) 11 l0 10 1) 11 l0 11 0) B) (fun r19 F19 B19 => f_Walker_goVoice_88 K K.1 0 l0 (zup3 (zup3 (zup3 F19 11 l0 13 r19) 11 l0 12 (100 * r19)) 11 l0 18 0) B19) else none else none else none else none else none else none
set_option maxHeartbeats 4000000 in
set_option maxRecDepth 100000 in
theorem c_Walker_goVoice {l : Launch} {D : va_G} {ca : Nat → ClassId} {ad : Nat → Int → Nat → Nat} {L : List Nat} {aS vS : Nat → Nat} {sz : Nat} {K : zK}  {l0 : Int} {l1 : Int} {l2 : Int} {l3 : Int} {F F9 : zF} {B B9 : zB} {r : Int} (hf : f_Walker_goVoice K l0 l1 l2 l3 F B = some (r, F9, B9)) : Met l ({ cls := "StaveHouse$Walker", name := "goVoice", desc := "(LStaveHouse$Parser;LStaveHouse$Piece;LStaveHouse$Part;)I" } : Jvm.MethodName) (Cond.code ({ cls := "StaveHouse$Walker", name := "goVoice", desc := "(LStaveHouse$Parser;LStaveHouse$Piece;LStaveHouse$Part;)I" } : Jvm.MethodName) prog_13_method_2_code 5 (Option.some Jvm.ClassFile.FieldType.int) :: wAll) ({ frames := 206, cells := 0, slots := 0, locals := 5119 } : Room) (va_Pc [.ref (ad 11 l0 0), .ref (ad 3 l1 0), .ref (ad 6 l2 0), .ref (ad 4 l3 0)] (zPre D ca ad lnC K.2 L aS vS F B sz)) (Q_Walker_goVoice K D ca ad L r F9 B9 (zA L sz)) 0 0 (zA L sz) := by
  refine zMet (Qc := Q_Walker_goVoice K D ca ad L r F9 B9) (lv := [(0, .ref (ad 11 l0 0)), (1, .ref (ad 3 l1 0)), (2, .ref (ad 6 l2 0)), (3, .ref (ad 4 l3 0))]) (by decide) (Nat.le_of_ble_eq_true rfl) rfl (fun A p e s m below meth c ls X hZ hS hl => ?_)
  obtain ⟨hx, hb, hr, hml, hown, hts, hlk, hK, hA, hL, hX⟩ := id X
  replace hf : (if 0 ≤ l0 ∧ l0 < K.2 11 then if 0 ≤ l1 ∧ l1 < K.2 3 then if l1 < K.2 3 then if 0 ≤ l3 ∧ l3 < K.2 4 then if l3 < K.2 4 then if 0 ≤ l2 ∧ l2 < K.2 6 then zbind (f_Piece_barLength K l2 (zup3 (zup3 (zup3 (zup3 (zup3 (zup3 (zup3 (zup3 (zup3 (zup3 (zup3 (zup3 F 11 l0 0 l1) 11 l0 1 l3) 11 l0 2 0) 11 l0 3 0) 11 l0 4 4) 11 l0 5 0) 11 l0 6 0) 11 l0 7 0) 11 l0 8 0) 11 l0 9 1) 11 l0 10 1) 11 l0 11 0) B) (fun r19 F19 B19 => f_Walker_goVoice_88 K K.1 0 l0 (zup3 (zup3 (zup3 F19 11 l0 13 r19) 11 l0 12 (100 * r19)) 11 l0 18 0) B19) else none else none else none else none else none else none) = some (r, F9, B9) := hf
  refine lv_aload_n hx hb d_13_2_0 rfl (lv_at hl 0 rfl) ?_
  refine lv_aload_n hx hb d_13_2_1 rfl (lv_at hl 1 rfl) ?_
  obtain ⟨g1, hf⟩ := gif hf
  obtain ⟨g3, hf⟩ := gif hf
  refine W.eq (g2 := F0 m 2 ls [va_rf (zrf ad 3 l1), .ref (ad 11 l0 0)]) (by rw [zrf_pos (ad := ad) (t := 3) g3.1]; try rfl) ?_
  obtain ⟨g4, hf⟩ := gif hf
  refine zput (ci := 11) (C := RX11) (T := TX11) (k := 0) (v := l1) (w := va_rf (zrf ad 3 l1)) hx hb hts inW_11 tyX11 tyX11_ok nmX11 hown hK hZ hS g1.1 g1.2 rfl (by decide) k_1_190 rfl (fun G h => congrArg (fun q => va_rf (zrf ad 3 q)) h) (zrf_nar rfl _) (zrf_fit rfl _) (zyes (t0 := 3) rfl g4) d_13_2_2 (fun H2 locs2 hZ2 hS2 => ?_)
  refine lv_aload_n hx hb d_13_2_5 rfl (lv_at hl 0 rfl) ?_
  refine lv_aload_n hx hb d_13_2_6 rfl (lv_at hl 3 rfl) ?_
  obtain ⟨g6, hf⟩ := gif hf
  refine W.eq (g2 := F0 m 7 ls [va_rf (zrf ad 4 l3), .ref (ad 11 l0 0)]) (by rw [zrf_pos (ad := ad) (t := 4) g6.1]; try rfl) ?_
  obtain ⟨g7, hf⟩ := gif hf
  refine zput (ci := 11) (C := RX11) (T := TX11) (k := 1) (v := l3) (w := va_rf (zrf ad 4 l3)) hx hb hts inW_11 tyX11 tyX11_ok nmX11 hown hK hZ2 hS2 g1.1 g1.2 rfl (by decide) k_1_191 rfl (fun G h => congrArg (fun q => va_rf (zrf ad 4 q)) h) (zrf_nar rfl _) (zrf_fit rfl _) (zyes (t0 := 4) rfl g7) d_13_2_7 (fun H5 locs5 hZ5 hS5 => ?_)
  refine lv_aload_n hx hb d_13_2_10 rfl (lv_at hl 0 rfl) ?_
  refine lv_iconst (v := iI 0) hx hb d_13_2_11 rfl ?_
  refine zput (ci := 11) (C := RX11) (T := TX11) (k := 2) (v := 0) (w := .int (iI 0)) hx hb hts inW_11 tyX11 tyX11_ok nmX11 hown hK hZ5 hS5 g1.1 g1.2 rfl (by decide) k_1_192 rfl (fun G h => congrArg (fun q => Value.int (iI q)) h) rfl rfl (zno (by decide)) d_13_2_12 (fun H8 locs8 hZ8 hS8 => ?_)
  refine lv_aload_n hx hb d_13_2_15 rfl (lv_at hl 0 rfl) ?_
  refine lv_iconst (v := iI 0) hx hb d_13_2_16 rfl ?_
  refine zput (ci := 11) (C := RX11) (T := TX11) (k := 3) (v := 0) (w := .int (iI 0)) hx hb hts inW_11 tyX11 tyX11_ok nmX11 hown hK hZ8 hS8 g1.1 g1.2 rfl (by decide) k_1_193 rfl (fun G h => congrArg (fun q => Value.int (iI q)) h) rfl rfl (zno (by decide)) d_13_2_17 (fun H9 locs9 hZ9 hS9 => ?_)
  refine lv_aload_n hx hb d_13_2_20 rfl (lv_at hl 0 rfl) ?_
  refine lv_iconst (v := iI 4) hx hb d_13_2_21 rfl ?_
  refine zput (ci := 11) (C := RX11) (T := TX11) (k := 4) (v := 4) (w := .int (iI 4)) hx hb hts inW_11 tyX11 tyX11_ok nmX11 hown hK hZ9 hS9 g1.1 g1.2 rfl (by decide) k_1_194 rfl (fun G h => congrArg (fun q => Value.int (iI q)) h) rfl rfl (zno (by decide)) d_13_2_22 (fun H10 locs10 hZ10 hS10 => ?_)
  refine lv_aload_n hx hb d_13_2_25 rfl (lv_at hl 0 rfl) ?_
  refine lv_iconst (v := iI 0) hx hb d_13_2_26 rfl ?_
  refine zput (ci := 11) (C := RX11) (T := TX11) (k := 5) (v := 0) (w := .int (iI 0)) hx hb hts inW_11 tyX11 tyX11_ok nmX11 hown hK hZ10 hS10 g1.1 g1.2 rfl (by decide) k_1_195 rfl (fun G h => congrArg (fun q => Value.int (iI q)) h) rfl rfl (zno (by decide)) d_13_2_27 (fun H11 locs11 hZ11 hS11 => ?_)
  refine lv_aload_n hx hb d_13_2_30 rfl (lv_at hl 0 rfl) ?_
  refine lv_iconst (v := iI 0) hx hb d_13_2_31 rfl ?_
  refine zput (ci := 11) (C := RX11) (T := TX11) (k := 6) (v := 0) (w := .int (iI 0)) hx hb hts inW_11 tyX11 tyX11_ok nmX11 hown hK hZ11 hS11 g1.1 g1.2 rfl (by decide) k_1_196 rfl (fun G h => congrArg (fun q => Value.int (iI q)) h) rfl rfl (zno (by decide)) d_13_2_32 (fun H12 locs12 hZ12 hS12 => ?_)
  refine lv_aload_n hx hb d_13_2_35 rfl (lv_at hl 0 rfl) ?_
  refine lv_iconst (v := iI 0) hx hb d_13_2_36 rfl ?_
  refine zput (ci := 11) (C := RX11) (T := TX11) (k := 7) (v := 0) (w := .int (iI 0)) hx hb hts inW_11 tyX11 tyX11_ok nmX11 hown hK hZ12 hS12 g1.1 g1.2 rfl (by decide) k_1_197 rfl (fun G h => congrArg (fun q => Value.int (iI q)) h) rfl rfl (zno (by decide)) d_13_2_37 (fun H13 locs13 hZ13 hS13 => ?_)
  refine lv_aload_n hx hb d_13_2_40 rfl (lv_at hl 0 rfl) ?_
  refine lv_iconst (v := iI 0) hx hb d_13_2_41 rfl ?_
  refine zput (ci := 11) (C := RX11) (T := TX11) (k := 8) (v := 0) (w := .int (iI 0)) hx hb hts inW_11 tyX11 tyX11_ok nmX11 hown hK hZ13 hS13 g1.1 g1.2 rfl (by decide) k_1_198 rfl (fun G h => congrArg (fun q => Value.int (iI q)) h) rfl rfl (zno (by decide)) d_13_2_42 (fun H14 locs14 hZ14 hS14 => ?_)
  refine lv_aload_n hx hb d_13_2_45 rfl (lv_at hl 0 rfl) ?_
  refine lv_iconst (v := iI 1) hx hb d_13_2_46 rfl ?_
  refine zput (ci := 11) (C := RX11) (T := TX11) (k := 9) (v := 1) (w := .int (iI 1)) hx hb hts inW_11 tyX11 tyX11_ok nmX11 hown hK hZ14 hS14 g1.1 g1.2 rfl (by decide) k_1_199 rfl (fun G h => congrArg (fun q => Value.int (iI q)) h) rfl rfl (zno (by decide)) d_13_2_47 (fun H15 locs15 hZ15 hS15 => ?_)
  refine lv_aload_n hx hb d_13_2_50 rfl (lv_at hl 0 rfl) ?_
  refine lv_iconst (v := iI 1) hx hb d_13_2_51 rfl ?_
  refine zput (ci := 11) (C := RX11) (T := TX11) (k := 10) (v := 1) (w := .int (iI 1)) hx hb hts inW_11 tyX11 tyX11_ok nmX11 hown hK hZ15 hS15 g1.1 g1.2 rfl (by decide) k_1_200 rfl (fun G h => congrArg (fun q => Value.int (iI q)) h) rfl rfl (zno (by decide)) d_13_2_52 (fun H16 locs16 hZ16 hS16 => ?_)
  refine lv_aload_n hx hb d_13_2_55 rfl (lv_at hl 0 rfl) ?_
  refine lv_lconst (v := lI 0) hx hb d_13_2_56 (by decide) ?_
  refine zput (ci := 11) (C := RX11) (T := TX11) (k := 11) (v := 0) (w := .long (lI 0)) hx hb hts inW_11 tyX11 tyX11_ok nmX11 hown hK hZ16 hS16 g1.1 g1.2 rfl (by decide) k_1_201 rfl (fun G h => congrArg (fun q => Value.long (lI q)) h) rfl rfl (zno (by decide)) d_13_2_57 (fun H17 locs17 hZ17 hS17 => ?_)
  refine lv_aload_n hx hb d_13_2_60 rfl (lv_at hl 0 rfl) ?_
  refine lv_aload_n hx hb d_13_2_61 rfl (lv_at hl 2 rfl) ?_
  obtain ⟨g18, hf⟩ := gif hf
  obtain ⟨r19, F19, B19, hc19, hf⟩ := gbind hf
  refine va_calll (va_runV (As := []) (rest := [.ref (ad 11 l0 0)]) ⟨hx, hb, hml, hown, hts⟩ (c_Piece_barLength (l := l) hc19) (cwV 0 hts (gdV k_4_189 k_4_190 k_4_191 k_1_15 k_4_192) rfl rfl rfl (by decide +kernel) ⟨Nat.le_of_ble_eq_true rfl, Nat.le_of_ble_eq_true rfl⟩) (zPV X hZ17 hS17 (ci := 6) g18.1 g18.2 (r := (RX6, TX6, 14)) rfl []) rfl rfl hl.1 rfl (lv_room (Nat.le_of_ble_eq_true rfl)) d_13_2_62 ⟨Nat.le_of_ble_eq_true rfl, Nat.le_of_ble_eq_true rfl⟩) hS17 (fun q _ h => zAin X hS17 q h) (zAin X hS17) (fun p19 u19 t19 H19 locs19 ht19 hv19 hw19 hB19 hz19 hk19 hS19 => ?_)
  have hZ19 := zBack X ht19 hB19
  subst hw19
  refine zput (ci := 11) (C := RX11) (T := TX11) (k := 13) (v := r19) (w := .long (lI r19)) hx hb hts inW_11 tyX11 tyX11_ok nmX11 hown hK hZ19 hS19 g1.1 g1.2 rfl (by decide) k_1_203 rfl (fun G h => congrArg (fun q => Value.long (lI q)) h) rfl rfl (zno (by decide)) d_13_2_65 (fun H20 locs20 hZ20 hS20 => ?_)
  refine lv_aload_n hx hb d_13_2_68 rfl (lv_at hl 0 rfl) ?_
  refine lv_ldc2 hx hb hown (hts _ k_4_195) d_13_2_69 ?_
  refine W.eq (g2 := F0 m 72 ls [.long (lI 100), .ref (ad 11 l0 0)]) rfl ?_
  refine lv_aload_n hx hb d_13_2_72 rfl (lv_at hl 0 rfl) ?_
  refine zget (ci := 11) (C := RX11) (T := TX11) (v := .long (lI r19)) (k := 13) hx hb hts inW_11 hown hK hZ20 g1.1 g1.2 rfl (by decide) k_1_203 (congrArg (fun q : Int => Value.long (lI q)) (show (zup3 F19 11 l0 13 r19) 11 l0 13 = r19 by simp [zup3])) d_13_2_73 ?_
  refine zlmul hx hb d_13_2_76 ?_
  refine zput (ci := 11) (C := RX11) (T := TX11) (k := 12) (v := (100 * r19)) (w := .long (lI (100 * r19))) hx hb hts inW_11 tyX11 tyX11_ok nmX11 hown hK hZ20 hS20 g1.1 g1.2 rfl (by decide) k_1_202 rfl (fun G h => congrArg (fun q => Value.long (lI q)) h) rfl rfl (zno (by decide)) d_13_2_77 (fun H21 locs21 hZ21 hS21 => ?_)
  refine lv_aload_n hx hb d_13_2_80 rfl (lv_at hl 0 rfl) ?_
  refine lv_iconst (v := iI 0) hx hb d_13_2_81 rfl ?_
  refine zput (ci := 11) (C := RX11) (T := TX11) (k := 18) (v := 0) (w := .int (iI 0)) hx hb hts inW_11 tyX11 tyX11_ok nmX11 hown hK hZ21 hS21 g1.1 g1.2 rfl (by decide) k_1_208 rfl (fun G h => congrArg (fun q => Value.int (iI q)) h) rfl rfl (zno (by decide)) d_13_2_82 (fun H22 locs22 hZ22 hS22 => ?_)
  refine lv_iconst (v := iI 0) hx hb d_13_2_85 rfl ?_
  refine lv_istore (lv' := [(4, .int (iI 0)), (0, .ref (ad 11 l0 0)), (1, .ref (ad 3 l1 0)), (2, .ref (ad 6 l2 0)), (3, .ref (ad 4 l3 0))]) hx hb d_13_2_86 hl (by decide) rfl (fun ls hl => ?_)
  exact b_Walker_goVoice_88 X hf hZ22 hS22 (lv_sub hl [0, 1] rfl)

