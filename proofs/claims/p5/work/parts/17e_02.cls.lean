theorem d_5_15_92 : decode prog_5_method_15_code 92 = .ok (.getfield 48, 3) := D_180 W_prog_5_method_15_code_64 28 rfl rfl rfl
theorem d_5_15_95 : decode prog_5_method_15_code 95 = .ok (.invokevirtual 122, 3) := D_182 W_prog_5_method_15_code_64 31 rfl rfl rfl
theorem W_prog_5_method_15_code_96 : chW prog_5_method_15_code 96 [0, 122, 4, 172] := chW_of (by decide +kernel)
theorem d_5_15_98 : decode prog_5_method_15_code 98 = .ok (.iconst 1, 1) := D_4 W_prog_5_method_15_code_96 2 rfl rfl
theorem d_5_15_99 : decode prog_5_method_15_code 99 = .ok (.ireturn, 1) := D_172 W_prog_5_method_15_code_96 3 rfl rfl
theorem d_5_15_47 : decode prog_5_method_15_code 47 = .ok (.iconst 0, 1) := D_3 W_prog_5_method_15_code_32 15 rfl rfl
theorem d_5_29_7 : decode prog_5_method_29_code 7 = .ok (.ifCond .ne 5, 3) := D_154 W_prog_5_method_29_code_0 7 rfl rfl rfl
theorem d_5_29_12 : decode prog_5_method_29_code 12 = .ok (.aload_n 0, 1) := D_42 W_prog_5_method_29_code_0 12 rfl rfl
theorem d_5_29_13 : decode prog_5_method_29_code 13 = .ok (.getfield 18, 3) := D_180 W_prog_5_method_29_code_0 13 rfl rfl rfl
theorem d_5_29_16 : decode prog_5_method_29_code 16 = .ok (.iload_n 1, 1) := D_27 W_prog_5_method_29_code_0 16 rfl rfl
theorem d_5_29_17 : decode prog_5_method_29_code 17 = .ok (.aload_n 0, 1) := D_42 W_prog_5_method_29_code_0 17 rfl rfl
theorem d_5_29_18 : decode prog_5_method_29_code 18 = .ok (.getfield 135, 3) := D_180 W_prog_5_method_29_code_0 18 rfl rfl rfl
theorem d_5_29_21 : decode prog_5_method_29_code 21 = .ok (.iastore, 1) := D_79 W_prog_5_method_29_code_0 21 rfl rfl
theorem d_5_29_22 : decode prog_5_method_29_code 22 = .ok (.aload_n 0, 1) := D_42 W_prog_5_method_29_code_0 22 rfl rfl
theorem d_5_29_23 : decode prog_5_method_29_code 23 = .ok (.bipush 47, 2) := D_16 W_prog_5_method_29_code_0 23 rfl rfl rfl
theorem d_5_29_25 : decode prog_5_method_29_code 25 = .ok (.invokevirtual 146, 3) := D_182 W_prog_5_method_29_code_0 25 rfl rfl rfl
theorem d_5_29_28 : decode prog_5_method_29_code 28 = .ok (.ifCond .eq 13, 3) := D_153 W_prog_5_method_29_code_0 28 rfl rfl rfl
theorem d_5_29_31 : decode prog_5_method_29_code 31 = .ok (.aload_n 0, 1) := D_42 W_prog_5_method_29_code_0 31 rfl rfl
theorem W_prog_5_method_29_code_32 : chW prog_5_method_29_code 32 [4, 29, 3, 182, 0, 131, 154, 0, 5, 3, 172, 42, 180, 0, 21, 27, 42, 180, 0, 135, 79, 4, 172] := chW_of (by decide +kernel)
theorem d_5_29_32 : decode prog_5_method_29_code 32 = .ok (.iconst 1, 1) := D_4 W_prog_5_method_29_code_32 0 rfl rfl
theorem d_5_29_33 : decode prog_5_method_29_code 33 = .ok (.iload_n 3, 1) := D_29 W_prog_5_method_29_code_32 1 rfl rfl
theorem d_5_29_34 : decode prog_5_method_29_code 34 = .ok (.iconst 0, 1) := D_3 W_prog_5_method_29_code_32 2 rfl rfl
theorem d_5_29_35 : decode prog_5_method_29_code 35 = .ok (.invokevirtual 131, 3) := D_182 W_prog_5_method_29_code_32 3 rfl rfl rfl
theorem d_5_29_38 : decode prog_5_method_29_code 38 = .ok (.ifCond .ne 5, 3) := D_154 W_prog_5_method_29_code_32 6 rfl rfl rfl
theorem d_5_29_43 : decode prog_5_method_29_code 43 = .ok (.aload_n 0, 1) := D_42 W_prog_5_method_29_code_32 11 rfl rfl
theorem d_5_29_44 : decode prog_5_method_29_code 44 = .ok (.getfield 21, 3) := D_180 W_prog_5_method_29_code_32 12 rfl rfl rfl
theorem d_5_29_47 : decode prog_5_method_29_code 47 = .ok (.iload_n 1, 1) := D_27 W_prog_5_method_29_code_32 15 rfl rfl
theorem d_5_29_48 : decode prog_5_method_29_code 48 = .ok (.aload_n 0, 1) := D_42 W_prog_5_method_29_code_32 16 rfl rfl
theorem d_5_29_49 : decode prog_5_method_29_code 49 = .ok (.getfield 135, 3) := D_180 W_prog_5_method_29_code_32 17 rfl rfl rfl
theorem d_5_29_52 : decode prog_5_method_29_code 52 = .ok (.iastore, 1) := D_79 W_prog_5_method_29_code_32 20 rfl rfl
theorem d_5_29_53 : decode prog_5_method_29_code 53 = .ok (.iconst 1, 1) := D_4 W_prog_5_method_29_code_32 21 rfl rfl
theorem d_5_29_54 : decode prog_5_method_29_code 54 = .ok (.ireturn, 1) := D_172 W_prog_5_method_29_code_32 22 rfl rfl
theorem d_5_29_10 : decode prog_5_method_29_code 10 = .ok (.iconst 0, 1) := D_3 W_prog_5_method_29_code_0 10 rfl rfl
theorem d_5_29_11 : decode prog_5_method_29_code 11 = .ok (.ireturn, 1) := D_172 W_prog_5_method_29_code_0 11 rfl rfl
theorem d_5_29_41 : decode prog_5_method_29_code 41 = .ok (.iconst 0, 1) := D_3 W_prog_5_method_29_code_32 9 rfl rfl
theorem d_5_29_42 : decode prog_5_method_29_code 42 = .ok (.ireturn, 1) := D_172 W_prog_5_method_29_code_32 10 rfl rfl
noncomputable abbrev Q_Performance_turn (K : zK) (D : va_G) (ca : Nat → ClassId) (ad : Nat → Int → Nat → Nat) (L : List Nat) (r : Int) (F : zF) (B : zB) (A : Nat → Prop) : Array Value → State → Outcome → State → Prop := va_Ql (S := Unit) (fun p _ => p = lI r) (fun _ => zPo D ca ad lnC K.2 L F B A) A
noncomputable def f_Performance_turn_35 (K : zK) (s0 : Int) (F : zF) (B : zB) : zO := some (s0, F, B)
set_option maxHeartbeats 4000000 in
set_option maxRecDepth 100000 in
theorem b_Performance_turn_35 {D : va_G} {ca : Nat → ClassId} {ad : Nat → Int → Nat → Nat} {L : List Nat} {aS vS : Nat → Nat} {A : Nat → Prop} {p : Program} {l : Launch} {e : Env} {s : State} {m : MethodId} {args : Array Value} {below : List Frame} {meth : Method} {c : Code} {K : zK} {r : Int} {F9 : zF} {B9 : zB} (X : zX D ca L aS vS A p s m args meth c prog_7_method_26_code 4 (Option.some Jvm.ClassFile.FieldType.long) "StaveHouse$Performance") {s0 : Int} {F : zF} {B : zB} {H : Heap} {locs : List Loc} {ls : Array Slot} (hf : f_Performance_turn_35 K s0 F B = some (r, F9, B9)) (hZ : zH D ca ad lnC K.2 L F B A H) (hS : va_S A s.heap H locs) (hl : lv_has ls 4 []) : W p l e ({ frames := 0, cells := 0, slots := 0, locals := 0 } : Room) s m args below meth c H locs 0 0 (MQ below (Q_Performance_turn K D ca ad L r F9 B9 A) args s 0 0 A) (F0 m 35 ls [.long (lI s0)]) := by
  obtain ⟨hx, hb, hr, hml, hown, hts, hlk, hK, hA, hL, hX⟩ := id X
  replace hf : (some (s0, F, B)) = some (r, F9, B9) := hf
  cases hf
  exact W.lret hx hb hr (fun t ht hW => ⟨⟨_, (), rfl, rfl, by rw [ht]; exact hZ, va_K.moved hW.alike hK⟩, hS.F ht⟩) hS.2.2 d_7_26_35 hlk

noncomputable def f_Performance_turn (K : zK) (l0 : Int) (F : zF) (B : zB) : zO := if 0 ≤ (zrm l0 12) ∧ (zrm l0 12) < ztl 13 then if r32 (zdv l0 12) then (if 9 < (zdv l0 12) then f_Performance_turn_35 K (zlshl (ztv 13 (zrm l0 12)) ((zdv l0 12) - 9)) F B else f_Performance_turn_35 K (zlshr (ztv 13 (zrm l0 12)) (9 - (zdv l0 12))) F B) else none else none
set_option maxHeartbeats 4000000 in
set_option maxRecDepth 100000 in
theorem c_Performance_turn {l : Launch} {D : va_G} {ca : Nat → ClassId} {ad : Nat → Int → Nat → Nat} {L : List Nat} {aS vS : Nat → Nat} {sz : Nat} {K : zK}  {l0 : Int} {F F9 : zF} {B B9 : zB} {r : Int} (hf : f_Performance_turn K l0 F B = some (r, F9, B9)) : Met l ({ cls := "StaveHouse$Performance", name := "turn", desc := "(I)J" } : Jvm.MethodName) (Cond.code ({ cls := "StaveHouse$Performance", name := "turn", desc := "(I)J" } : Jvm.MethodName) prog_7_method_26_code 4 (Option.some Jvm.ClassFile.FieldType.long) :: wAll) ({ frames := 0, cells := 0, slots := 0, locals := 0 } : Room) (va_Pc [.int (iI l0)] (zPre D ca ad lnC K.2 L aS vS F B sz)) (Q_Performance_turn K D ca ad L r F9 B9 (zA L sz)) 0 0 (zA L sz) := by
  refine zMet (Qc := Q_Performance_turn K D ca ad L r F9 B9) (lv := [(0, .int (iI l0))]) (by decide) (Nat.le_of_ble_eq_true rfl) rfl (fun A p e s m below meth c ls X hZ hS hl => ?_)
  obtain ⟨hx, hb, hr, hml, hown, hts, hlk, hK, hA, hL, hX⟩ := id X
  replace hf : (if 0 ≤ (zrm l0 12) ∧ (zrm l0 12) < ztl 13 then if r32 (zdv l0 12) then (if 9 < (zdv l0 12) then f_Performance_turn_35 K (zlshl (ztv 13 (zrm l0 12)) ((zdv l0 12) - 9)) F B else f_Performance_turn_35 K (zlshr (ztv 13 (zrm l0 12)) (9 - (zdv l0 12))) F B) else none else none) = some (r, F9, B9) := hf
  refine lv_iload_n hx hb d_7_26_0 rfl (lv_at hl 0 rfl) ?_
  refine lv_bipush (v := iI 12) hx hb d_7_26_1 (by decide) ?_
  refine zdv_r hx hb (by decide) d_7_26_3 ?_
  refine lv_istore_n (lv' := [(1, .int (iI (zdv l0 12))), (0, .int (iI l0))]) hx hb d_7_26_4 rfl hl (by decide) rfl (fun ls hl => ?_)
  refine va_gets hx hb (hX.2.2.2.2.2.2 13 _ rfl).1 hS hown (hts _ k_9_10) (fun _ h => h) d_7_26_5 ?_
  refine W.eq (g2 := F0 m 8 ls [.ref (vS (1000 + 13))]) rfl ?_
  refine lv_iload_n hx hb d_7_26_8 rfl (lv_at hl 1 rfl) ?_
  refine lv_bipush (v := iI 12) hx hb d_7_26_9 (by decide) ?_
  refine zrm_r hx hb (by decide) d_7_26_11 ?_
  obtain ⟨g1, hf⟩ := gif hf
  refine va_tl (v := .long (lI (ztv 13 (zrm l0 12)))) hx hb (ztL hX (by decide) (by decide)) hS (zt_in (by decide) g1) (ztL_v (by decide) g1) d_7_26_12 ?_
  refine lv_lstore_n (lv' := [(2, .long (lI (ztv 13 (zrm l0 12)))), (1, .int (iI (zdv l0 12))), (0, .int (iI l0))]) hx hb d_7_26_13 rfl hl (by decide) rfl (fun ls hl => ?_)
  refine lv_iload_n hx hb d_7_26_14 rfl (lv_at hl 1 rfl) ?_
  refine lv_bipush (v := iI 9) hx hb d_7_26_15 (by decide) ?_
  obtain ⟨g2, hf⟩ := gif hf
  refine zgt (tgt := 29) hx hb g2 (by decide) d_7_26_17 (by decide) (fun h3 => ?_) (fun h3 => ?_)
  · replace hf := gpos hf h3
    refine lv_lload_n hx hb d_7_26_29 rfl (lv_at hl 0 rfl) ?_
    refine lv_iload_n hx hb d_7_26_30 rfl (lv_at hl 1 rfl) ?_
    refine lv_bipush (v := iI 9) hx hb d_7_26_31 (by decide) ?_
    refine zsub hx hb d_7_26_33 ?_
    refine zlshl_r hx hb d_7_26_34 ?_
    exact b_Performance_turn_35 X hf hZ hS (lv_sub hl [] rfl)
  · replace hf := gneg hf h3
    refine lv_lload_n hx hb d_7_26_20 rfl (lv_at hl 0 rfl) ?_
    refine lv_bipush (v := iI 9) hx hb d_7_26_21 (by decide) ?_
    refine lv_iload_n hx hb d_7_26_23 rfl (lv_at hl 1 rfl) ?_
    refine zsub hx hb d_7_26_24 ?_
    refine zlshr_r hx hb d_7_26_25 ?_
    refine lv_goto (tgt := 35) hx hb d_7_26_26 (by decide) ?_
    exact b_Performance_turn_35 X hf hZ hS (lv_sub hl [] rfl)

noncomputable abbrev Q_Performance_wave (K : zK) (D : va_G) (ca : Nat → ClassId) (ad : Nat → Int → Nat → Nat) (L : List Nat) (r : Int) (F : zF) (B : zB) (A : Nat → Prop) : Array Value → State → Outcome → State → Prop := va_Qi (S := Unit) (fun p _ => p = iI r) (fun _ => zPo D ca ad lnC K.2 L F B A) A
noncomputable def f_Performance_wave_66 (K : zK) (s0 : Int) (F : zF) (B : zB) : zO := some (s0, F, B)
set_option maxHeartbeats 4000000 in
set_option maxRecDepth 100000 in
theorem b_Performance_wave_66 {D : va_G} {ca : Nat → ClassId} {ad : Nat → Int → Nat → Nat} {L : List Nat} {aS vS : Nat → Nat} {A : Nat → Prop} {p : Program} {l : Launch} {e : Env} {s : State} {m : MethodId} {args : Array Value} {below : List Frame} {meth : Method} {c : Code} {K : zK} {r : Int} {F9 : zF} {B9 : zB} (X : zX D ca L aS vS A p s m args meth c prog_7_method_27_code 3 (Option.some Jvm.ClassFile.FieldType.int) "StaveHouse$Performance") {s0 : Int} {F : zF} {B : zB} {H : Heap} {locs : List Loc} {ls : Array Slot} (hf : f_Performance_wave_66 K s0 F B = some (r, F9, B9)) (hZ : zH D ca ad lnC K.2 L F B A H) (hS : va_S A s.heap H locs) (hl : lv_has ls 3 []) : W p l e ({ frames := 1, cells := 0, slots := 0, locals := 15 } : Room) s m args below meth c H locs 0 0 (MQ below (Q_Performance_wave K D ca ad L r F9 B9 A) args s 0 0 A) (F0 m 66 ls [.int (iI s0)]) := by
  obtain ⟨hx, hb, hr, hml, hown, hts, hlk, hK, hA, hL, hX⟩ := id X
  replace hf : (some (s0, F, B)) = some (r, F9, B9) := hf
  cases hf
  exact W.iret hx hb hr (fun t ht hW => ⟨⟨_, (), rfl, rfl, by rw [ht]; exact hZ, va_K.moved hW.alike hK⟩, hS.F ht⟩) hS.2.2 d_7_27_66 hlk

noncomputable def f_Performance_wave_24 (K : zK) (l0 : Int) (l1 : Int) (s0 : Int) (F : zF) (B : zB) : zO := if r32 l0 then (if l0 = 0 then if r32 l1 then (if 128 ≤ l1 then f_Performance_wave_66 K (-96) F B else f_Performance_wave_66 K 96 F B) else none else (if l0 = 1 then some (l1 - 128, F, B) else (if l0 = 2 then some (s0, F, B) else if r32 s0 then some (zdv (s0 * (128 - (zabs s0))) 32, F, B) else none))) else none
set_option maxHeartbeats 4000000 in
set_option maxRecDepth 100000 in
theorem b_Performance_wave_24 {D : va_G} {ca : Nat → ClassId} {ad : Nat → Int → Nat → Nat} {L : List Nat} {aS vS : Nat → Nat} {A : Nat → Prop} {p : Program} {l : Launch} {e : Env} {s : State} {m : MethodId} {args : Array Value} {below : List Frame} {meth : Method} {c : Code} {K : zK} {r : Int} {F9 : zF} {B9 : zB} (X : zX D ca L aS vS A p s m args meth c prog_7_method_27_code 3 (Option.some Jvm.ClassFile.FieldType.int) "StaveHouse$Performance") {l0 : Int} {l1 : Int} {s0 : Int} {F : zF} {B : zB} {H : Heap} {locs : List Loc} {ls : Array Slot} (hf : f_Performance_wave_24 K l0 l1 s0 F B = some (r, F9, B9)) (hZ : zH D ca ad lnC K.2 L F B A H) (hS : va_S A s.heap H locs) (hl : lv_has ls 3 [(0, .int (iI l0)), (1, .int (iI l1))]) : W p l e ({ frames := 1, cells := 0, slots := 0, locals := 15 } : Room) s m args below meth c H locs 0 0 (MQ below (Q_Performance_wave K D ca ad L r F9 B9 A) args s 0 0 A) (F0 m 24 ls [.int (iI s0)]) := by
  obtain ⟨hx, hb, hr, hml, hown, hts, hlk, hK, hA, hL, hX⟩ := id X
  replace hf : (if r32 l0 then (if l0 = 0 then if r32 l1 then (if 128 ≤ l1 then f_Performance_wave_66 K (-96) F B else f_Performance_wave_66 K 96 F B) else none else (if l0 = 1 then some (l1 - 128, F, B) else (if l0 = 2 then some (s0, F, B) else if r32 s0 then some (zdv (s0 * (128 - (zabs s0))) 32, F, B) else none))) else none) = some (r, F9, B9) := hf
  refine lv_istore_n (lv' := [(2, .int (iI s0)), (0, .int (iI l0)), (1, .int (iI l1))]) hx hb d_7_27_24 rfl hl (by decide) rfl (fun ls hl => ?_)
  refine lv_iload_n hx hb d_7_27_25 rfl (lv_at hl 1 rfl) ?_
  obtain ⟨g3, hf⟩ := gif hf
  by_cases h4 : l0 = 0
  · replace hf := gpos hf h4
    refine lv_tableIn (off := 26) (tgt := 52) hx hb d_7_27_26 (by rw [iI_to g3, h4]; decide) (by rw [iI_to g3, h4]; decide) (by rw [iI_to g3, h4]; rfl) (by decide) ?_
    refine lv_iload_n hx hb d_7_27_52 rfl (lv_at hl 2 rfl) ?_
    refine lv_sipush (v := iI 128) hx hb d_7_27_53 (by decide) ?_
    obtain ⟨g5, hf⟩ := gif hf
    refine zge (tgt := 64) hx hb g5 (by decide) d_7_27_56 (by decide) (fun h6 => ?_) (fun h6 => ?_)
    · replace hf := gpos hf h6
      refine lv_bipush (v := iI (-96)) hx hb d_7_27_64 (by decide) ?_
      exact b_Performance_wave_66 X hf hZ hS (lv_sub hl [] rfl)
    · replace hf := gneg hf h6
      refine lv_bipush (v := iI 96) hx hb d_7_27_59 (by decide) ?_
      refine lv_goto (tgt := 66) hx hb d_7_27_61 (by decide) ?_
      exact b_Performance_wave_66 X hf hZ hS (lv_sub hl [] rfl)
  replace hf := gneg hf h4
  by_cases h7 : l0 = 1
  · replace hf := gpos hf h7
    refine lv_tableIn (off := 41) (tgt := 67) hx hb d_7_27_26 (by rw [iI_to g3, h7]; decide) (by rw [iI_to g3, h7]; decide) (by rw [iI_to g3, h7]; rfl) (by decide) ?_
    refine lv_iload_n hx hb d_7_27_67 rfl (lv_at hl 2 rfl) ?_
    refine lv_sipush (v := iI 128) hx hb d_7_27_68 (by decide) ?_
    refine zsub hx hb d_7_27_71 ?_
    cases hf
    exact W.iret hx hb hr (fun t ht hW => ⟨⟨_, (), rfl, rfl, by rw [ht]; exact hZ, va_K.moved hW.alike hK⟩, hS.F ht⟩) hS.2.2 d_7_27_72 hlk
  replace hf := gneg hf h7
  by_cases h8 : l0 = 2
  · replace hf := gpos hf h8
    refine lv_tableIn (off := 47) (tgt := 73) hx hb d_7_27_26 (by rw [iI_to g3, h8]; decide) (by rw [iI_to g3, h8]; decide) (by rw [iI_to g3, h8]; rfl) (by decide) ?_
    refine lv_iload_n hx hb d_7_27_73 rfl (lv_at hl 0 rfl) ?_
    cases hf
    exact W.iret hx hb hr (fun t ht hW => ⟨⟨_, (), rfl, rfl, by rw [ht]; exact hZ, va_K.moved hW.alike hK⟩, hS.F ht⟩) hS.2.2 d_7_27_74 hlk
  replace hf := gneg hf h8
  refine lv_tableOut (tgt := 75) hx hb d_7_27_26 (by rw [iI_to g3]; omega) (by decide) ?_
  refine lv_iload_n hx hb d_7_27_75 rfl (lv_at hl 0 rfl) ?_
  refine lv_sipush (v := iI 128) hx hb d_7_27_76 (by decide) ?_
  refine lv_iload_n hx hb d_7_27_79 rfl (lv_at hl 0 rfl) ?_
  obtain ⟨g9, hf⟩ := gif hf
  refine va_mabs hx hb (by rw [hml]; exact hl.1.symm) hown (hts _ k_9_15) (hts _ k_4_229) (hts _ k_1_3) (hts _ k_4_230) (Nat.le_of_ble_eq_true rfl) (Nat.le_of_ble_eq_true rfl) (Nat.le_of_ble_eq_true rfl) (Nat.le_of_ble_eq_true rfl) d_7_27_80 ?_
  rw [zabs_e g9]
  refine zsub hx hb d_7_27_83 ?_
  refine zmul hx hb d_7_27_84 ?_
  refine lv_bipush (v := iI 32) hx hb d_7_27_85 (by decide) ?_
  refine zdv_r hx hb (by decide) d_7_27_87 ?_
  cases hf
  exact W.iret hx hb hr (fun t ht hW => ⟨⟨_, (), rfl, rfl, by rw [ht]; exact hZ, va_K.moved hW.alike hK⟩, hS.F ht⟩) hS.2.2 d_7_27_88 hlk

noncomputable def f_Performance_wave (K : zK) (l0 : Int) (l1 : Int) (F : zF) (B : zB) : zO := if r32 l1 then (if 128 ≤ l1 then f_Performance_wave_24 K l0 l1 (383 - (2 * l1)) F B else f_Performance_wave_24 K l0 l1 ((2 * l1) - 128) F B) else none
set_option maxHeartbeats 4000000 in
set_option maxRecDepth 100000 in
theorem c_Performance_wave {l : Launch} {D : va_G} {ca : Nat → ClassId} {ad : Nat → Int → Nat → Nat} {L : List Nat} {aS vS : Nat → Nat} {sz : Nat} {K : zK}  {l0 : Int} {l1 : Int} {F F9 : zF} {B B9 : zB} {r : Int} (hf : f_Performance_wave K l0 l1 F B = some (r, F9, B9)) : Met l ({ cls := "StaveHouse$Performance", name := "wave", desc := "(II)I" } : Jvm.MethodName) (Cond.code ({ cls := "StaveHouse$Performance", name := "wave", desc := "(II)I" } : Jvm.MethodName) prog_7_method_27_code 3 (Option.some Jvm.ClassFile.FieldType.int) :: wAll) ({ frames := 1, cells := 0, slots := 0, locals := 15 } : Room) (va_Pc [.int (iI l0), .int (iI l1)] (zPre D ca ad lnC K.2 L aS vS F B sz)) (Q_Performance_wave K D ca ad L r F9 B9 (zA L sz)) 0 0 (zA L sz) := by
  refine zMet (Qc := Q_Performance_wave K D ca ad L r F9 B9) (lv := [(0, .int (iI l0)), (1, .int (iI l1))]) (by decide) (Nat.le_of_ble_eq_true rfl) rfl (fun A p e s m below meth c ls X hZ hS hl => ?_)
  obtain ⟨hx, hb, hr, hml, hown, hts, hlk, hK, hA, hL, hX⟩ := id X
  replace hf : (if r32 l1 then (if 128 ≤ l1 then f_Performance_wave_24 K l0 l1 (383 - (2 * l1)) F B else f_Performance_wave_24 K l0 l1 ((2 * l1) - 128) F B) else none) = some (r, F9, B9) := hf
  refine lv_iload_n hx hb d_7_27_0 rfl (lv_at hl 1 rfl) ?_
  refine lv_sipush (v := iI 128) hx hb d_7_27_1 (by decide) ?_
  obtain ⟨g1, hf⟩ := gif hf
  refine zge (tgt := 17) hx hb g1 (by decide) d_7_27_4 (by decide) (fun h2 => ?_) (fun h2 => ?_)
  · replace hf := gpos hf h2
    refine lv_sipush (v := iI 383) hx hb d_7_27_17 (by decide) ?_
    refine lv_iconst (v := iI 2) hx hb d_7_27_20 rfl ?_
    refine lv_iload_n hx hb d_7_27_21 rfl (lv_at hl 1 rfl) ?_
    refine zmul hx hb d_7_27_22 ?_
    refine zsub hx hb d_7_27_23 ?_
    exact b_Performance_wave_24 X hf hZ hS (lv_sub hl [0, 1] rfl)
  · replace hf := gneg hf h2
    refine lv_iconst (v := iI 2) hx hb d_7_27_7 rfl ?_
    refine lv_iload_n hx hb d_7_27_8 rfl (lv_at hl 1 rfl) ?_
    refine zmul hx hb d_7_27_9 ?_
    refine lv_sipush (v := iI 128) hx hb d_7_27_10 (by decide) ?_
    refine zsub hx hb d_7_27_13 ?_
    refine lv_goto (tgt := 24) hx hb d_7_27_14 (by decide) ?_
    exact b_Performance_wave_24 X hf hZ hS (lv_sub hl [0, 1] rfl)

noncomputable abbrev Q_Performance_rise (K : zK) (D : va_G) (ca : Nat → ClassId) (ad : Nat → Int → Nat → Nat) (L : List Nat) (r : Int) (F : zF) (B : zB) (A : Nat → Prop) : Array Value → State → Outcome → State → Prop := va_Qi (S := Unit) (fun p _ => p = iI r) (fun _ => zPo D ca ad lnC K.2 L F B A) A
noncomputable def f_Performance_rise_34 (K : zK) (s0 : Int) (F : zF) (B : zB) : zO := some (s0, F, B)
set_option maxHeartbeats 4000000 in
set_option maxRecDepth 100000 in
theorem b_Performance_rise_34 {D : va_G} {ca : Nat → ClassId} {ad : Nat → Int → Nat → Nat} {L : List Nat} {aS vS : Nat → Nat} {A : Nat → Prop} {p : Program} {l : Launch} {e : Env} {s : State} {m : MethodId} {args : Array Value} {below : List Frame} {meth : Method} {c : Code} {K : zK} {r : Int} {F9 : zF} {B9 : zB} (X : zX D ca L aS vS A p s m args meth c prog_7_method_28_code 1 (Option.some Jvm.ClassFile.FieldType.int) "StaveHouse$Performance") {s0 : Int} {F : zF} {B : zB} {H : Heap} {locs : List Loc} {ls : Array Slot} (hf : f_Performance_rise_34 K s0 F B = some (r, F9, B9)) (hZ : zH D ca ad lnC K.2 L F B A H) (hS : va_S A s.heap H locs) (hl : lv_has ls 1 []) : W p l e ({ frames := 1, cells := 0, slots := 0, locals := 13 } : Room) s m args below meth c H locs 0 0 (MQ below (Q_Performance_rise K D ca ad L r F9 B9 A) args s 0 0 A) (F0 m 34 ls [.int (iI s0)]) := by
  obtain ⟨hx, hb, hr, hml, hown, hts, hlk, hK, hA, hL, hX⟩ := id X
  replace hf : (some (s0, F, B)) = some (r, F9, B9) := hf
  cases hf
  exact W.iret hx hb hr (fun t ht hW => ⟨⟨_, (), rfl, rfl, by rw [ht]; exact hZ, va_K.moved hW.alike hK⟩, hS.F ht⟩) hS.2.2 d_7_28_34 hlk

noncomputable def f_Performance_rise (K : zK) (l0 : Int) (F : zF) (B : zB) : zO := if r32 l0 then (if 40 ≤ l0 then if r32 (256 - (zdv (l0 - 40) 16)) then f_Performance_rise_34 K (zmax (256 - (zdv (l0 - 40) 16)) 128) F B else none else f_Performance_rise_34 K (zdv (256 * l0) 40) F B) else none
set_option maxHeartbeats 4000000 in
set_option maxRecDepth 100000 in
theorem c_Performance_rise {l : Launch} {D : va_G} {ca : Nat → ClassId} {ad : Nat → Int → Nat → Nat} {L : List Nat} {aS vS : Nat → Nat} {sz : Nat} {K : zK}  {l0 : Int} {F F9 : zF} {B B9 : zB} {r : Int} (hf : f_Performance_rise K l0 F B = some (r, F9, B9)) : Met l ({ cls := "StaveHouse$Performance", name := "rise", desc := "(I)I" } : Jvm.MethodName) (Cond.code ({ cls := "StaveHouse$Performance", name := "rise", desc := "(I)I" } : Jvm.MethodName) prog_7_method_28_code 1 (Option.some Jvm.ClassFile.FieldType.int) :: wAll) ({ frames := 1, cells := 0, slots := 0, locals := 13 } : Room) (va_Pc [.int (iI l0)] (zPre D ca ad lnC K.2 L aS vS F B sz)) (Q_Performance_rise K D ca ad L r F9 B9 (zA L sz)) 0 0 (zA L sz) := by
  refine zMet (Qc := Q_Performance_rise K D ca ad L r F9 B9) (lv := [(0, .int (iI l0))]) (by decide) (Nat.le_of_ble_eq_true rfl) rfl (fun A p e s m below meth c ls X hZ hS hl => ?_)
  obtain ⟨hx, hb, hr, hml, hown, hts, hlk, hK, hA, hL, hX⟩ := id X
  replace hf : (if r32 l0 then (if 40 ≤ l0 then if r32 (256 - (zdv (l0 - 40) 16)) then f_Performance_rise_34 K (zmax (256 - (zdv (l0 - 40) 16)) 128) F B else none else f_Performance_rise_34 K (zdv (256 * l0) 40) F B) else none) = some (r, F9, B9) := hf
  refine lv_iload_n hx hb d_7_28_0 rfl (lv_at hl 0 rfl) ?_
  refine lv_bipush (v := iI 40) hx hb d_7_28_1 (by decide) ?_
  obtain ⟨g1, hf⟩ := gif hf
  refine zge (tgt := 17) hx hb g1 (by decide) d_7_28_3 (by decide) (fun h2 => ?_) (fun h2 => ?_)
  · replace hf := gpos hf h2
    refine lv_sipush (v := iI 256) hx hb d_7_28_17 (by decide) ?_
    refine lv_iload_n hx hb d_7_28_20 rfl (lv_at hl 0 rfl) ?_
    refine lv_bipush (v := iI 40) hx hb d_7_28_21 (by decide) ?_
    refine zsub hx hb d_7_28_23 ?_
    refine lv_bipush (v := iI 16) hx hb d_7_28_24 (by decide) ?_
    refine zdv_r hx hb (by decide) d_7_28_26 ?_
    refine zsub hx hb d_7_28_27 ?_
    refine lv_sipush (v := iI 128) hx hb d_7_28_28 (by decide) ?_
    obtain ⟨g3, hf⟩ := gif hf
    refine va_mmax hx hb (by rw [hml]; exact hl.1.symm) hown (hts _ k_6_153) (hts _ k_1_39) (hts _ k_1_3) (hts _ k_1_40) (Nat.le_of_ble_eq_true rfl) (Nat.le_of_ble_eq_true rfl) (Nat.le_of_ble_eq_true rfl) (Nat.le_of_ble_eq_true rfl) d_7_28_31 ?_
    rw [zmax_e g3 (by decide)]
    exact b_Performance_rise_34 X hf hZ hS (lv_sub hl [] rfl)
  · replace hf := gneg hf h2
    refine lv_sipush (v := iI 256) hx hb d_7_28_6 (by decide) ?_
    refine lv_iload_n hx hb d_7_28_9 rfl (lv_at hl 0 rfl) ?_
    refine zmul hx hb d_7_28_10 ?_
    refine lv_bipush (v := iI 40) hx hb d_7_28_11 (by decide) ?_
    refine zdv_r hx hb (by decide) d_7_28_13 ?_
    refine lv_goto (tgt := 34) hx hb d_7_28_14 (by decide) ?_
    exact b_Performance_rise_34 X hf hZ hS (lv_sub hl [] rfl)

noncomputable abbrev Q_Performance_nextCode (K : zK) (D : va_G) (ca : Nat → ClassId) (ad : Nat → Int → Nat → Nat) (L : List Nat) (r : Int) (F : zF) (B : zB) (A : Nat → Prop) : Array Value → State → Outcome → State → Prop := va_Qi (S := Unit) (fun p _ => p = iI r) (fun _ => zPo D ca ad lnC K.2 L F B A) A
noncomputable def f_Performance_nextCode_124 (K : zK) (l3 : Int) (l0 : Int) (s0 : Int) (F : zF) (B : zB) : zO := if r32 s0 then if r32 (zmin 32767 s0) then if 0 ≤ l0 ∧ l0 < K.2 5 then if 0 ≤ (zand l3 7) ∧ (zand l3 7) < ztl 15 then if r32 ((F 5 l0 13) + (ztv 15 (zand l3 7))) then if r32 (zmin 88 ((F 5 l0 13) + (ztv 15 (zand l3 7)))) then some (l3, (zup3 (zup3 F 5 l0 12 (zmax (-32768) (zmin 32767 s0))) 5 l0 13 (zmax 0 (zmin 88 ((F 5 l0 13) + (ztv 15 (zand l3 7)))))), B) else none else none else none else none else none else none
set_option maxHeartbeats 4000000 in
set_option maxRecDepth 100000 in
theorem b_Performance_nextCode_124 {D : va_G} {ca : Nat → ClassId} {ad : Nat → Int → Nat → Nat} {L : List Nat} {aS vS : Nat → Nat} {A : Nat → Prop} {p : Program} {l : Launch} {e : Env} {s : State} {m : MethodId} {args : Array Value} {below : List Frame} {meth : Method} {c : Code} {K : zK} {r : Int} {F9 : zF} {B9 : zB} (X : zX D ca L aS vS A p s m args meth c prog_7_method_30_code 7 (Option.some Jvm.ClassFile.FieldType.int) "StaveHouse$Performance") {l3 : Int} {l0 : Int} {s0 : Int} {F : zF} {B : zB} {H : Heap} {locs : List Loc} {ls : Array Slot} (hf : f_Performance_nextCode_124 K l3 l0 s0 F B = some (r, F9, B9)) (hZ : zH D ca ad lnC K.2 L F B A H) (hS : va_S A s.heap H locs) (hl : lv_has ls 7 [(3, .int (iI l3)), (0, .ref (ad 5 l0 0))]) : W p l e ({ frames := 1, cells := 0, slots := 0, locals := 15 } : Room) s m args below meth c H locs 0 0 (MQ below (Q_Performance_nextCode K D ca ad L r F9 B9 A) args s 0 0 A) (F0 m 124 ls [.int (iI s0)]) := by
  obtain ⟨hx, hb, hr, hml, hown, hts, hlk, hK, hA, hL, hX⟩ := id X
  replace hf : (if r32 s0 then if r32 (zmin 32767 s0) then if 0 ≤ l0 ∧ l0 < K.2 5 then if 0 ≤ (zand l3 7) ∧ (zand l3 7) < ztl 15 then if r32 ((F 5 l0 13) + (ztv 15 (zand l3 7))) then if r32 (zmin 88 ((F 5 l0 13) + (ztv 15 (zand l3 7)))) then some (l3, (zup3 (zup3 F 5 l0 12 (zmax (-32768) (zmin 32767 s0))) 5 l0 13 (zmax 0 (zmin 88 ((F 5 l0 13) + (ztv 15 (zand l3 7)))))), B) else none else none else none else none else none else none) = some (r, F9, B9) := hf
  refine lv_istore (lv' := [(6, .int (iI s0)), (3, .int (iI l3)), (0, .ref (ad 5 l0 0))]) hx hb d_7_30_124 hl (by decide) rfl (fun ls hl => ?_)
  refine lv_aload_n hx hb d_7_30_126 rfl (lv_at hl 2 rfl) ?_
  refine lv_sipush (v := iI (-32768)) hx hb d_7_30_127 (by decide) ?_
  refine lv_sipush (v := iI 32767) hx hb d_7_30_130 (by decide) ?_
  refine lv_iload hx hb d_7_30_133 (lv_at hl 0 rfl) ?_
  obtain ⟨g17, hf⟩ := gif hf
  refine va_mmin hx hb (by rw [hml]; exact hl.1.symm) hown (hts _ k_6_134) (hts _ k_3_97) (hts _ k_1_3) (hts _ k_3_98) (Nat.le_of_ble_eq_true rfl) (Nat.le_of_ble_eq_true rfl) (Nat.le_of_ble_eq_true rfl) (Nat.le_of_ble_eq_true rfl) d_7_30_135 ?_
  rw [zmin_e (by decide) g17]
  obtain ⟨g18, hf⟩ := gif hf
  refine va_mmax hx hb (by rw [hml]; exact hl.1.symm) hown (hts _ k_6_153) (hts _ k_1_39) (hts _ k_1_3) (hts _ k_1_40) (Nat.le_of_ble_eq_true rfl) (Nat.le_of_ble_eq_true rfl) (Nat.le_of_ble_eq_true rfl) (Nat.le_of_ble_eq_true rfl) d_7_30_138 ?_
  rw [zmax_e (by decide) g18]
  obtain ⟨g19, hf⟩ := gif hf
  refine zput (ci := 5) (C := RX5) (T := TX5) (k := 12) (v := (zmax (-32768) (zmin 32767 s0))) (w := .int (iI (zmax (-32768) (zmin 32767 s0)))) hx hb hts inW_5 tyX5 tyX5_ok nmX5 hown hK hZ hS g19.1 g19.2 rfl (by decide) k_6_81 rfl (fun G h => congrArg (fun q => Value.int (iI q)) h) rfl rfl (zno (by decide)) d_7_30_141 (fun H20 locs20 hZ20 hS20 => ?_)
  refine lv_aload_n hx hb d_7_30_144 rfl (lv_at hl 2 rfl) ?_
  refine lv_iconst (v := iI 0) hx hb d_7_30_145 rfl ?_
  refine lv_bipush (v := iI 88) hx hb d_7_30_146 (by decide) ?_
  refine lv_aload_n hx hb d_7_30_148 rfl (lv_at hl 2 rfl) ?_
  refine zget (ci := 5) (C := RX5) (T := TX5) (v := .int (iI (F 5 l0 13))) (k := 13) hx hb hts inW_5 hown hK hZ20 g19.1 g19.2 rfl (by decide) k_6_82 (congrArg (fun q : Int => Value.int (iI q)) (show (zup3 F 5 l0 12 (zmax (-32768) (zmin 32767 s0))) 5 l0 13 = F 5 l0 13 by simp [zup3])) d_7_30_149 ?_
  refine va_gets hx hb (hX.2.2.2.2.2.2 15 _ rfl).1 hS20 hown (hts _ k_9_28) (fun _ h => h) d_7_30_152 ?_
  refine W.eq (g2 := F0 m 155 ls [.ref (vS (1000 + 15)), .int (iI (F 5 l0 13)), .int (iI 88), .int (iI 0), .ref (ad 5 l0 0)]) rfl ?_
  refine lv_iload_n hx hb d_7_30_155 rfl (lv_at hl 1 rfl) ?_
  refine lv_bipush (v := iI 7) hx hb d_7_30_156 (by decide) ?_
  refine zand_r hx hb d_7_30_158 ?_
  obtain ⟨g21, hf⟩ := gif hf
  refine va_ti (v := .int (iI (ztv 15 (zand l3 7)))) hx hb (ztI hX (by decide) (by decide)) hS20 (zt_in (by decide) g21) (ztI_v (by decide) g21) d_7_30_159 ?_
  refine zadd hx hb d_7_30_160 ?_
  obtain ⟨g22, hf⟩ := gif hf
  refine va_mmin hx hb (by rw [hml]; exact hl.1.symm) hown (hts _ k_6_134) (hts _ k_3_97) (hts _ k_1_3) (hts _ k_3_98) (Nat.le_of_ble_eq_true rfl) (Nat.le_of_ble_eq_true rfl) (Nat.le_of_ble_eq_true rfl) (Nat.le_of_ble_eq_true rfl) d_7_30_161 ?_
  rw [zmin_e (by decide) g22]
  obtain ⟨g23, hf⟩ := gif hf
  refine va_mmax hx hb (by rw [hml]; exact hl.1.symm) hown (hts _ k_6_153) (hts _ k_1_39) (hts _ k_1_3) (hts _ k_1_40) (Nat.le_of_ble_eq_true rfl) (Nat.le_of_ble_eq_true rfl) (Nat.le_of_ble_eq_true rfl) (Nat.le_of_ble_eq_true rfl) d_7_30_164 ?_
  rw [zmax_e (by decide) g23]
  refine zput (ci := 5) (C := RX5) (T := TX5) (k := 13) (v := (zmax 0 (zmin 88 ((F 5 l0 13) + (ztv 15 (zand l3 7)))))) (w := .int (iI (zmax 0 (zmin 88 ((F 5 l0 13) + (ztv 15 (zand l3 7))))))) hx hb hts inW_5 tyX5 tyX5_ok nmX5 hown hK hZ20 hS20 g19.1 g19.2 rfl (by decide) k_6_82 rfl (fun G h => congrArg (fun q => Value.int (iI q)) h) rfl rfl (zno (by decide)) d_7_30_167 (fun H24 locs24 hZ24 hS24 => ?_)
  refine lv_iload_n hx hb d_7_30_170 rfl (lv_at hl 1 rfl) ?_
  cases hf
  exact W.iret hx hb hr (fun t ht hW => ⟨⟨_, (), rfl, rfl, by rw [ht]; exact hZ24, va_K.moved hW.alike hK⟩, hS24.F ht⟩) hS24.2.2 d_7_30_171 hlk

noncomputable def f_Performance_nextCode_90 (rec47 : Int → Int → Int → Int → Int → Int → Int → zF → zB → zO) (K : zK) (l6 : Int) (l4 : Int) (l2 : Int) (l3 : Int) (l1 : Int) (l0 : Int) (s0 : Int) (F : zF) (B : zB) : zO := rec47 (zdv l6 2) s0 l4 l2 l3 l1 l0 F B
set_option maxHeartbeats 4000000 in
set_option maxRecDepth 100000 in
theorem b_Performance_nextCode_90 {D : va_G} {ca : Nat → ClassId} {ad : Nat → Int → Nat → Nat} {L : List Nat} {aS vS : Nat → Nat} {A : Nat → Prop} {p : Program} {l : Launch} {e : Env} {s : State} {m : MethodId} {args : Array Value} {below : List Frame} {meth : Method} {c : Code} {K : zK} {r : Int} {F9 : zF} {B9 : zB} (X : zX D ca L aS vS A p s m args meth c prog_7_method_30_code 7 (Option.some Jvm.ClassFile.FieldType.int) "StaveHouse$Performance") {rec47 : Int → Int → Int → Int → Int → Int → Int → zF → zB → zO} (hrec47 : ∀ {l6 : Int} {l5 : Int} {l4 : Int} {l2 : Int} {l3 : Int} {l1 : Int} {l0 : Int} {F : zF} {B : zB} {H : Heap} {locs : List Loc} {ls : Array Slot}, rec47 l6 l5 l4 l2 l3 l1 l0 F B = some (r, F9, B9) → zH D ca ad lnC K.2 L F B A H → va_S A s.heap H locs → lv_has ls 7 [(6, .int (iI l6)), (5, .int (iI l5)), (4, .int (iI l4)), (2, .int (iI l2)), (3, .int (iI l3)), (1, .int (iI l1)), (0, .ref (ad 5 l0 0))] → W p l e ({ frames := 1, cells := 0, slots := 0, locals := 15 } : Room) s m args below meth c H locs 0 0 (MQ below (Q_Performance_nextCode K D ca ad L r F9 B9 A) args s 0 0 A) (F0 m 47 ls [])) {l6 : Int} {l4 : Int} {l2 : Int} {l3 : Int} {l1 : Int} {l0 : Int} {s0 : Int} {F : zF} {B : zB} {H : Heap} {locs : List Loc} {ls : Array Slot} (hf : f_Performance_nextCode_90 rec47 K l6 l4 l2 l3 l1 l0 s0 F B = some (r, F9, B9)) (hZ : zH D ca ad lnC K.2 L F B A H) (hS : va_S A s.heap H locs) (hl : lv_has ls 7 [(6, .int (iI l6)), (4, .int (iI l4)), (2, .int (iI l2)), (3, .int (iI l3)), (1, .int (iI l1)), (0, .ref (ad 5 l0 0))]) : W p l e ({ frames := 1, cells := 0, slots := 0, locals := 15 } : Room) s m args below meth c H locs 0 0 (MQ below (Q_Performance_nextCode K D ca ad L r F9 B9 A) args s 0 0 A) (F0 m 90 ls [.int (iI s0)]) := by
  obtain ⟨hx, hb, hr, hml, hown, hts, hlk, hK, hA, hL, hX⟩ := id X
  replace hf : (rec47 (zdv l6 2) s0 l4 l2 l3 l1 l0 F B) = some (r, F9, B9) := hf
  refine lv_istore (lv' := [(5, .int (iI s0)), (6, .int (iI l6)), (4, .int (iI l4)), (2, .int (iI l2)), (3, .int (iI l3)), (1, .int (iI l1)), (0, .ref (ad 5 l0 0))]) hx hb d_7_30_90 hl (by decide) rfl (fun ls hl => ?_)
  refine lv_iload hx hb d_7_30_92 (lv_at hl 1 rfl) ?_
  refine lv_iconst (v := iI 2) hx hb d_7_30_94 rfl ?_
  refine zdv_r hx hb (by decide) d_7_30_95 ?_
  refine lv_istore (lv' := [(6, .int (iI (zdv l6 2))), (5, .int (iI s0)), (4, .int (iI l4)), (2, .int (iI l2)), (3, .int (iI l3)), (1, .int (iI l1)), (0, .ref (ad 5 l0 0))]) hx hb d_7_30_96 hl (by decide) rfl (fun ls hl => ?_)
  refine lv_goto (tgt := 47) hx hb d_7_30_98 (by decide) ?_
  exact hrec47 hf hZ hS (lv_sub hl [0, 1, 2, 3, 4, 5, 6] rfl)

noncomputable def f_Performance_nextCode_75 (rec47 : Int → Int → Int → Int → Int → Int → Int → zF → zB → zO) (K : zK) (l6 : Int) (l4 : Int) (l2 : Int) (l3 : Int) (l1 : Int) (l0 : Int) (F : zF) (B : zB) : zO := if r32 l6 then (if l6 = 4 then f_Performance_nextCode_90 rec47 K l6 l4 l2 l3 l1 l0 (zdv l1 2) F B else f_Performance_nextCode_90 rec47 K l6 l4 l2 l3 l1 l0 (zdv l1 4) F B) else none
set_option maxHeartbeats 4000000 in
set_option maxRecDepth 100000 in
theorem b_Performance_nextCode_75 {D : va_G} {ca : Nat → ClassId} {ad : Nat → Int → Nat → Nat} {L : List Nat} {aS vS : Nat → Nat} {A : Nat → Prop} {p : Program} {l : Launch} {e : Env} {s : State} {m : MethodId} {args : Array Value} {below : List Frame} {meth : Method} {c : Code} {K : zK} {r : Int} {F9 : zF} {B9 : zB} (X : zX D ca L aS vS A p s m args meth c prog_7_method_30_code 7 (Option.some Jvm.ClassFile.FieldType.int) "StaveHouse$Performance") {rec47 : Int → Int → Int → Int → Int → Int → Int → zF → zB → zO} (hrec47 : ∀ {l6 : Int} {l5 : Int} {l4 : Int} {l2 : Int} {l3 : Int} {l1 : Int} {l0 : Int} {F : zF} {B : zB} {H : Heap} {locs : List Loc} {ls : Array Slot}, rec47 l6 l5 l4 l2 l3 l1 l0 F B = some (r, F9, B9) → zH D ca ad lnC K.2 L F B A H → va_S A s.heap H locs → lv_has ls 7 [(6, .int (iI l6)), (5, .int (iI l5)), (4, .int (iI l4)), (2, .int (iI l2)), (3, .int (iI l3)), (1, .int (iI l1)), (0, .ref (ad 5 l0 0))] → W p l e ({ frames := 1, cells := 0, slots := 0, locals := 15 } : Room) s m args below meth c H locs 0 0 (MQ below (Q_Performance_nextCode K D ca ad L r F9 B9 A) args s 0 0 A) (F0 m 47 ls [])) {l6 : Int} {l4 : Int} {l2 : Int} {l3 : Int} {l1 : Int} {l0 : Int} {F : zF} {B : zB} {H : Heap} {locs : List Loc} {ls : Array Slot} (hf : f_Performance_nextCode_75 rec47 K l6 l4 l2 l3 l1 l0 F B = some (r, F9, B9)) (hZ : zH D ca ad lnC K.2 L F B A H) (hS : va_S A s.heap H locs) (hl : lv_has ls 7 [(6, .int (iI l6)), (4, .int (iI l4)), (2, .int (iI l2)), (3, .int (iI l3)), (1, .int (iI l1)), (0, .ref (ad 5 l0 0))]) : W p l e ({ frames := 1, cells := 0, slots := 0, locals := 15 } : Room) s m args below meth c H locs 0 0 (MQ below (Q_Performance_nextCode K D ca ad L r F9 B9 A) args s 0 0 A) (F0 m 75 ls []) := by
  obtain ⟨hx, hb, hr, hml, hown, hts, hlk, hK, hA, hL, hX⟩ := id X
  replace hf : (if r32 l6 then (if l6 = 4 then f_Performance_nextCode_90 rec47 K l6 l4 l2 l3 l1 l0 (zdv l1 2) F B else f_Performance_nextCode_90 rec47 K l6 l4 l2 l3 l1 l0 (zdv l1 4) F B) else none) = some (r, F9, B9) := hf
  refine lv_iload hx hb d_7_30_75 (lv_at hl 0 rfl) ?_
  refine lv_iconst (v := iI 4) hx hb d_7_30_77 rfl ?_
  obtain ⟨g15, hf⟩ := gif hf
  refine zne (tgt := 87) hx hb g15 (by decide) d_7_30_78 (by decide) (fun h16 => ?_) (fun h16 => ?_)
  · replace hf := gneg hf h16
    refine lv_iload_n hx hb d_7_30_87 rfl (lv_at hl 4 rfl) ?_
    refine lv_iconst (v := iI 4) hx hb d_7_30_88 rfl ?_
    refine zdv_r hx hb (by decide) d_7_30_89 ?_
    exact b_Performance_nextCode_90 X hrec47 hf hZ hS (lv_sub hl [0, 1, 2, 3, 4, 5] rfl)
  · replace hf := gpos hf h16
    refine lv_iload_n hx hb d_7_30_81 rfl (lv_at hl 4 rfl) ?_
    refine lv_iconst (v := iI 2) hx hb d_7_30_82 rfl ?_
    refine zdv_r hx hb (by decide) d_7_30_83 ?_
    refine lv_goto (tgt := 90) hx hb d_7_30_84 (by decide) ?_
    exact b_Performance_nextCode_90 X hrec47 hf hZ hS (lv_sub hl [0, 1, 2, 3, 4, 5] rfl)

noncomputable def f_Performance_nextCode_47 (K : zK) : Nat → Int → Int → Int → Int → Int → Int → Int → zF → zB → zO
  | 0, _, _, _, _, _, _, _, _, _ => none
  | n + 1, l6, l5, l4, l2, l3, l1, l0, F, B => if r32 l6 then (if l6 ≤ 0 then if r32 l3 then (if l3 < 8 then if 0 ≤ l0 ∧ l0 < K.2 5 then f_Performance_nextCode_124 K l3 l0 ((F 5 l0 12) + l4) F B else none else if 0 ≤ l0 ∧ l0 < K.2 5 then f_Performance_nextCode_124 K l3 l0 ((F 5 l0 12) - l4) F B else none) else none else if r32 l2 then if r32 l5 then (if l2 < l5 then f_Performance_nextCode_75 (f_Performance_nextCode_47 K n) K l6 l4 l2 l3 l1 l0 F B else f_Performance_nextCode_75 (f_Performance_nextCode_47 K n) K l6 (l4 + l5) (l2 - l5) (zor l3 l6) l1 l0 F B) else none else none) else none
set_option maxHeartbeats 4000000 in
set_option maxRecDepth 100000 in
theorem b_Performance_nextCode_47 {D : va_G} {ca : Nat → ClassId} {ad : Nat → Int → Nat → Nat} {L : List Nat} {aS vS : Nat → Nat} {A : Nat → Prop} {p : Program} {l : Launch} {e : Env} {s : State} {m : MethodId} {args : Array Value} {below : List Frame} {meth : Method} {c : Code} {K : zK} {r : Int} {F9 : zF} {B9 : zB} (X : zX D ca L aS vS A p s m args meth c prog_7_method_30_code 7 (Option.some Jvm.ClassFile.FieldType.int) "StaveHouse$Performance") : ∀ {n : Nat} {l6 : Int} {l5 : Int} {l4 : Int} {l2 : Int} {l3 : Int} {l1 : Int} {l0 : Int} {F : zF} {B : zB} {H : Heap} {locs : List Loc} {ls : Array Slot}, f_Performance_nextCode_47 K n l6 l5 l4 l2 l3 l1 l0 F B = some (r, F9, B9) → zH D ca ad lnC K.2 L F B A H → va_S A s.heap H locs → lv_has ls 7 [(6, .int (iI l6)), (5, .int (iI l5)), (4, .int (iI l4)), (2, .int (iI l2)), (3, .int (iI l3)), (1, .int (iI l1)), (0, .ref (ad 5 l0 0))] → W p l e ({ frames := 1, cells := 0, slots := 0, locals := 15 } : Room) s m args below meth c H locs 0 0 (MQ below (Q_Performance_nextCode K D ca ad L r F9 B9 A) args s 0 0 A) (F0 m 47 ls []) := by
  obtain ⟨hx, hb, hr, hml, hown, hts, hlk, hK, hA, hL, hX⟩ := id X
  intro n
  induction n with
  | zero =>
    intros
    rename_i hf _ _ _
    cases hf
  | succ n ih =>
    intro l6 l5 l4 l2 l3 l1 l0 F B H locs ls hf hZ hS hl
    replace hf : (if r32 l6 then (if l6 ≤ 0 then if r32 l3 then (if l3 < 8 then if 0 ≤ l0 ∧ l0 < K.2 5 then f_Performance_nextCode_124 K l3 l0 ((F 5 l0 12) + l4) F B else none else if 0 ≤ l0 ∧ l0 < K.2 5 then f_Performance_nextCode_124 K l3 l0 ((F 5 l0 12) - l4) F B else none) else none else if r32 l2 then if r32 l5 then (if l2 < l5 then f_Performance_nextCode_75 (f_Performance_nextCode_47 K n) K l6 l4 l2 l3 l1 l0 F B else f_Performance_nextCode_75 (f_Performance_nextCode_47 K n) K l6 (l4 + l5) (l2 - l5) (zor l3 l6) l1 l0 F B) else none else none) else none) = some (r, F9, B9) := hf
    refine lv_iload hx hb d_7_30_47 (lv_at hl 0 rfl) ?_
    obtain ⟨g6, hf⟩ := gif hf
    refine z0le (tgt := 101) hx hb g6 d_7_30_49 (by decide) (fun h7 => ?_) (fun h7 => ?_)
    · replace hf := gpos hf h7
      refine lv_iload_n hx hb d_7_30_101 rfl (lv_at hl 4 rfl) ?_
      refine lv_bipush (v := iI 8) hx hb d_7_30_102 (by decide) ?_
      obtain ⟨g8, hf⟩ := gif hf
      refine zlt (tgt := 117) hx hb g8 (by decide) d_7_30_104 (by decide) (fun h9 => ?_) (fun h9 => ?_)
      · replace hf := gpos hf h9
        refine lv_aload_n hx hb d_7_30_117 rfl (lv_at hl 6 rfl) ?_
        obtain ⟨g10, hf⟩ := gif hf
        refine zget (ci := 5) (C := RX5) (T := TX5) (v := .int (iI (F 5 l0 12))) (k := 12) hx hb hts inW_5 hown hK hZ g10.1 g10.2 rfl (by decide) k_6_81 rfl d_7_30_118 ?_
        refine lv_iload hx hb d_7_30_121 (lv_at hl 2 rfl) ?_
        refine zadd hx hb d_7_30_123 ?_
        exact b_Performance_nextCode_124 X hf hZ hS (lv_sub hl [4, 6] rfl)
      · replace hf := gneg hf h9
        refine lv_aload_n hx hb d_7_30_107 rfl (lv_at hl 6 rfl) ?_
        obtain ⟨g11, hf⟩ := gif hf
        refine zget (ci := 5) (C := RX5) (T := TX5) (v := .int (iI (F 5 l0 12))) (k := 12) hx hb hts inW_5 hown hK hZ g11.1 g11.2 rfl (by decide) k_6_81 rfl d_7_30_108 ?_
        refine lv_iload hx hb d_7_30_111 (lv_at hl 2 rfl) ?_
        refine zsub hx hb d_7_30_113 ?_
        refine lv_goto (tgt := 124) hx hb d_7_30_114 (by decide) ?_
        exact b_Performance_nextCode_124 X hf hZ hS (lv_sub hl [4, 6] rfl)
    · replace hf := gneg hf h7
      refine lv_iload_n hx hb d_7_30_52 rfl (lv_at hl 3 rfl) ?_
      refine lv_iload hx hb d_7_30_53 (lv_at hl 1 rfl) ?_
      obtain ⟨g12, hf⟩ := gif hf
      obtain ⟨g13, hf⟩ := gif hf
      refine zlt (tgt := 75) hx hb g12 g13 d_7_30_55 (by decide) (fun h14 => ?_) (fun h14 => ?_)
      · replace hf := gpos hf h14
        exact b_Performance_nextCode_75 X ih hf hZ hS (lv_sub hl [0, 2, 3, 4, 5, 6] rfl)
      · replace hf := gneg hf h14
        refine lv_iload_n hx hb d_7_30_58 rfl (lv_at hl 4 rfl) ?_
        refine lv_iload hx hb d_7_30_59 (lv_at hl 0 rfl) ?_
        refine zor_r hx hb d_7_30_61 ?_
        refine lv_istore_n (lv' := [(3, .int (iI (zor l3 l6))), (6, .int (iI l6)), (5, .int (iI l5)), (4, .int (iI l4)), (2, .int (iI l2)), (1, .int (iI l1)), (0, .ref (ad 5 l0 0))]) hx hb d_7_30_62 rfl hl (by decide) rfl (fun ls hl => ?_)
        refine lv_iload_n hx hb d_7_30_63 rfl (lv_at hl 4 rfl) ?_
        refine lv_iload hx hb d_7_30_64 (lv_at hl 2 rfl) ?_
        refine zsub hx hb d_7_30_66 ?_
        refine lv_istore_n (lv' := [(2, .int (iI (l2 - l5))), (3, .int (iI (zor l3 l6))), (6, .int (iI l6)), (5, .int (iI l5)), (4, .int (iI l4)), (1, .int (iI l1)), (0, .ref (ad 5 l0 0))]) hx hb d_7_30_67 rfl hl (by decide) rfl (fun ls hl => ?_)
        refine lv_iload hx hb d_7_30_68 (lv_at hl 4 rfl) ?_
        refine lv_iload hx hb d_7_30_70 (lv_at hl 3 rfl) ?_
        refine zadd hx hb d_7_30_72 ?_
        refine lv_istore (lv' := [(4, .int (iI (l4 + l5))), (2, .int (iI (l2 - l5))), (3, .int (iI (zor l3 l6))), (6, .int (iI l6)), (5, .int (iI l5)), (1, .int (iI l1)), (0, .ref (ad 5 l0 0))]) hx hb d_7_30_73 hl (by decide) rfl (fun ls hl => ?_)
        exact b_Performance_nextCode_75 X ih hf hZ hS (lv_sub hl [3, 0, 1, 2, 5, 6] rfl)

noncomputable def f_Performance_nextCode_29 (K : zK) (l2 : Int) (l1 : Int) (l0 : Int) (s0 : Int) (F : zF) (B : zB) : zO := if r32 l2 then f_Performance_nextCode_47 K K.1 4 l1 (zdv l1 8) (zabs l2) s0 l1 l0 F B else none
set_option maxHeartbeats 4000000 in
set_option maxRecDepth 100000 in
theorem b_Performance_nextCode_29 {D : va_G} {ca : Nat → ClassId} {ad : Nat → Int → Nat → Nat} {L : List Nat} {aS vS : Nat → Nat} {A : Nat → Prop} {p : Program} {l : Launch} {e : Env} {s : State} {m : MethodId} {args : Array Value} {below : List Frame} {meth : Method} {c : Code} {K : zK} {r : Int} {F9 : zF} {B9 : zB} (X : zX D ca L aS vS A p s m args meth c prog_7_method_30_code 7 (Option.some Jvm.ClassFile.FieldType.int) "StaveHouse$Performance") {l2 : Int} {l1 : Int} {l0 : Int} {s0 : Int} {F : zF} {B : zB} {H : Heap} {locs : List Loc} {ls : Array Slot} (hf : f_Performance_nextCode_29 K l2 l1 l0 s0 F B = some (r, F9, B9)) (hZ : zH D ca ad lnC K.2 L F B A H) (hS : va_S A s.heap H locs) (hl : lv_has ls 7 [(2, .int (iI l2)), (1, .int (iI l1)), (0, .ref (ad 5 l0 0))]) : W p l e ({ frames := 1, cells := 0, slots := 0, locals := 15 } : Room) s m args below meth c H locs 0 0 (MQ below (Q_Performance_nextCode K D ca ad L r F9 B9 A) args s 0 0 A) (F0 m 29 ls [.int (iI s0)]) := by
  obtain ⟨hx, hb, hr, hml, hown, hts, hlk, hK, hA, hL, hX⟩ := id X
  replace hf : (if r32 l2 then f_Performance_nextCode_47 K K.1 4 l1 (zdv l1 8) (zabs l2) s0 l1 l0 F B else none) = some (r, F9, B9) := hf
  refine lv_istore_n (lv' := [(3, .int (iI s0)), (2, .int (iI l2)), (1, .int (iI l1)), (0, .ref (ad 5 l0 0))]) hx hb d_7_30_29 rfl hl (by decide) rfl (fun ls hl => ?_)
  refine lv_iload_n hx hb d_7_30_30 rfl (lv_at hl 1 rfl) ?_
  obtain ⟨g5, hf⟩ := gif hf
  refine va_mabs hx hb (by rw [hml]; exact hl.1.symm) hown (hts _ k_9_15) (hts _ k_4_229) (hts _ k_1_3) (hts _ k_4_230) (Nat.le_of_ble_eq_true rfl) (Nat.le_of_ble_eq_true rfl) (Nat.le_of_ble_eq_true rfl) (Nat.le_of_ble_eq_true rfl) d_7_30_31 ?_
  rw [zabs_e g5]
  refine lv_istore_n (lv' := [(2, .int (iI (zabs l2))), (3, .int (iI s0)), (1, .int (iI l1)), (0, .ref (ad 5 l0 0))]) hx hb d_7_30_34 rfl hl (by decide) rfl (fun ls hl => ?_)
  refine lv_iload_n hx hb d_7_30_35 rfl (lv_at hl 2 rfl) ?_
  refine lv_bipush (v := iI 8) hx hb d_7_30_36 (by decide) ?_
  refine zdv_r hx hb (by decide) d_7_30_38 ?_
  refine lv_istore (lv' := [(4, .int (iI (zdv l1 8))), (2, .int (iI (zabs l2))), (3, .int (iI s0)), (1, .int (iI l1)), (0, .ref (ad 5 l0 0))]) hx hb d_7_30_39 hl (by decide) rfl (fun ls hl => ?_)
  refine lv_iload_n hx hb d_7_30_41 rfl (lv_at hl 3 rfl) ?_
  refine lv_istore (lv' := [(5, .int (iI l1)), (4, .int (iI (zdv l1 8))), (2, .int (iI (zabs l2))), (3, .int (iI s0)), (1, .int (iI l1)), (0, .ref (ad 5 l0 0))]) hx hb d_7_30_42 hl (by decide) rfl (fun ls hl => ?_)
  refine lv_iconst (v := iI 4) hx hb d_7_30_44 rfl ?_
  refine lv_istore (lv' := [(6, .int (iI 4)), (5, .int (iI l1)), (4, .int (iI (zdv l1 8))), (2, .int (iI (zabs l2))), (3, .int (iI s0)), (1, .int (iI l1)), (0, .ref (ad 5 l0 0))]) hx hb d_7_30_45 hl (by decide) rfl (fun ls hl => ?_)
  exact b_Performance_nextCode_47 X hf hZ hS (lv_sub hl [0, 1, 2, 3, 4, 5, 6] rfl)

noncomputable def f_Performance_nextCode (K : zK) (l0 : Int) (F : zF) (B : zB) : zO := if 0 ≤ l0 ∧ l0 < K.2 5 then if 0 ≤ (F 5 l0 13) ∧ (F 5 l0 13) < ztl 14 then if r32 ((F 5 l0 11) - (F 5 l0 12)) then (if 0 ≤ ((F 5 l0 11) - (F 5 l0 12)) then f_Performance_nextCode_29 K ((F 5 l0 11) - (F 5 l0 12)) (ztv 14 (F 5 l0 13)) l0 0 F B else f_Performance_nextCode_29 K ((F 5 l0 11) - (F 5 l0 12)) (ztv 14 (F 5 l0 13)) l0 8 F B) else none else none else none
set_option maxHeartbeats 4000000 in
set_option maxRecDepth 100000 in
theorem c_Performance_nextCode {l : Launch} {D : va_G} {ca : Nat → ClassId} {ad : Nat → Int → Nat → Nat} {L : List Nat} {aS vS : Nat → Nat} {sz : Nat} {K : zK}  {l0 : Int} {F F9 : zF} {B B9 : zB} {r : Int} (hf : f_Performance_nextCode K l0 F B = some (r, F9, B9)) : Met l ({ cls := "StaveHouse$Performance", name := "nextCode", desc := "()I" } : Jvm.MethodName) (Cond.code ({ cls := "StaveHouse$Performance", name := "nextCode", desc := "()I" } : Jvm.MethodName) prog_7_method_30_code 7 (Option.some Jvm.ClassFile.FieldType.int) :: wAll) ({ frames := 1, cells := 0, slots := 0, locals := 15 } : Room) (va_Pc [.ref (ad 5 l0 0)] (zPre D ca ad lnC K.2 L aS vS F B sz)) (Q_Performance_nextCode K D ca ad L r F9 B9 (zA L sz)) 0 0 (zA L sz) := by
  refine zMet (Qc := Q_Performance_nextCode K D ca ad L r F9 B9) (lv := [(0, .ref (ad 5 l0 0))]) (by decide) (Nat.le_of_ble_eq_true rfl) rfl (fun A p e s m below meth c ls X hZ hS hl => ?_)
  obtain ⟨hx, hb, hr, hml, hown, hts, hlk, hK, hA, hL, hX⟩ := id X
  replace hf : (if 0 ≤ l0 ∧ l0 < K.2 5 then if 0 ≤ (F 5 l0 13) ∧ (F 5 l0 13) < ztl 14 then if r32 ((F 5 l0 11) - (F 5 l0 12)) then (if 0 ≤ ((F 5 l0 11) - (F 5 l0 12)) then f_Performance_nextCode_29 K ((F 5 l0 11) - (F 5 l0 12)) (ztv 14 (F 5 l0 13)) l0 0 F B else f_Performance_nextCode_29 K ((F 5 l0 11) - (F 5 l0 12)) (ztv 14 (F 5 l0 13)) l0 8 F B) else none else none else none) = some (r, F9, B9) := hf
  refine va_gets hx hb (hX.2.2.2.2.2.2 14 _ rfl).1 hS hown (hts _ k_9_26) (fun _ h => h) d_7_30_0 ?_
  refine W.eq (g2 := F0 m 3 ls [.ref (vS (1000 + 14))]) rfl ?_
  refine lv_aload_n hx hb d_7_30_3 rfl (lv_at hl 0 rfl) ?_
  obtain ⟨g1, hf⟩ := gif hf
  refine zget (ci := 5) (C := RX5) (T := TX5) (v := .int (iI (F 5 l0 13))) (k := 13) hx hb hts inW_5 hown hK hZ g1.1 g1.2 rfl (by decide) k_6_82 rfl d_7_30_4 ?_
  obtain ⟨g2, hf⟩ := gif hf
  refine va_ti (v := .int (iI (ztv 14 (F 5 l0 13)))) hx hb (ztI hX (by decide) (by decide)) hS (zt_in (by decide) g2) (ztI_v (by decide) g2) d_7_30_7 ?_
  refine lv_istore_n (lv' := [(1, .int (iI (ztv 14 (F 5 l0 13)))), (0, .ref (ad 5 l0 0))]) hx hb d_7_30_8 rfl hl (by decide) rfl (fun ls hl => ?_)
  refine lv_aload_n hx hb d_7_30_9 rfl (lv_at hl 1 rfl) ?_
  refine zget (ci := 5) (C := RX5) (T := TX5) (v := .int (iI (F 5 l0 11))) (k := 11) hx hb hts inW_5 hown hK hZ g1.1 g1.2 rfl (by decide) k_6_80 rfl d_7_30_10 ?_
  refine lv_aload_n hx hb d_7_30_13 rfl (lv_at hl 1 rfl) ?_
  refine zget (ci := 5) (C := RX5) (T := TX5) (v := .int (iI (F 5 l0 12))) (k := 12) hx hb hts inW_5 hown hK hZ g1.1 g1.2 rfl (by decide) k_6_81 rfl d_7_30_14 ?_
  refine zsub hx hb d_7_30_17 ?_
  refine lv_istore_n (lv' := [(2, .int (iI ((F 5 l0 11) - (F 5 l0 12)))), (1, .int (iI (ztv 14 (F 5 l0 13)))), (0, .ref (ad 5 l0 0))]) hx hb d_7_30_18 rfl hl (by decide) rfl (fun ls hl => ?_)
  refine lv_iload_n hx hb d_7_30_19 rfl (lv_at hl 0 rfl) ?_
  obtain ⟨g3, hf⟩ := gif hf
  refine z0ge (tgt := 28) hx hb g3 d_7_30_20 (by decide) (fun h4 => ?_) (fun h4 => ?_)
  · replace hf := gpos hf h4
    refine lv_iconst (v := iI 0) hx hb d_7_30_28 rfl ?_
    exact b_Performance_nextCode_29 X hf hZ hS (lv_sub hl [0, 1, 2] rfl)
  · replace hf := gneg hf h4
    refine lv_bipush (v := iI 8) hx hb d_7_30_23 (by decide) ?_
    refine lv_goto (tgt := 29) hx hb d_7_30_25 (by decide) ?_
    exact b_Performance_nextCode_29 X hf hZ hS (lv_sub hl [0, 1, 2] rfl)

noncomputable abbrev Q_S_sample (K : zK) (D : va_G) (ca : Nat → ClassId) (ad : Nat → Int → Nat → Nat) (L : List Nat) (r : Int) (F : zF) (B : zB) (A : Nat → Prop) : Array Value → State → Outcome → State → Prop := va_Qi (S := Unit) (fun p _ => p = iI r) (fun _ => zPo D ca ad lnC K.2 L F B A) A
noncomputable def f_S_sample_25 (K : zK)  (F : zF) (B : zB) : zO := some ((-2147483648), F, B)
set_option maxHeartbeats 4000000 in
set_option maxRecDepth 100000 in
theorem b_S_sample_25 {D : va_G} {ca : Nat → ClassId} {ad : Nat → Int → Nat → Nat} {L : List Nat} {aS vS : Nat → Nat} {A : Nat → Prop} {p : Program} {l : Launch} {e : Env} {s : State} {m : MethodId} {args : Array Value} {below : List Frame} {meth : Method} {c : Code} {K : zK} {r : Int} {F9 : zF} {B9 : zB} (X : zX D ca L aS vS A p s m args meth c prog_1_method_29_code 5 (Option.some Jvm.ClassFile.FieldType.int) "StaveHouse")  {F : zF} {B : zB} {H : Heap} {locs : List Loc} {ls : Array Slot} (hf : f_S_sample_25 K  F B = some (r, F9, B9)) (hZ : zH D ca ad lnC K.2 L F B A H) (hS : va_S A s.heap H locs) (hl : lv_has ls 5 []) : W p l e ({ frames := 2, cells := 0, slots := 0, locals := 43 } : Room) s m args below meth c H locs 0 0 (MQ below (Q_S_sample K D ca ad L r F9 B9 A) args s 0 0 A) (F0 m 25 ls []) := by
  obtain ⟨hx, hb, hr, hml, hown, hts, hlk, hK, hA, hL, hX⟩ := id X
  replace hf : (some ((-2147483648), F, B)) = some (r, F9, B9) := hf
  refine lv_ldc hx hb hown (hts _ k_6_199) d_1_29_25 ?_
  refine W.eq (g2 := F0 m 27 ls [.int (iI (-2147483648))]) rfl ?_
  cases hf
  exact W.iret hx hb hr (fun t ht hW => ⟨⟨_, (), rfl, rfl, by rw [ht]; exact hZ, va_K.moved hW.alike hK⟩, hS.F ht⟩) hS.2.2 d_1_29_27 hlk

noncomputable def f_S_sample (K : zK) (l0 : Int) (l1 : Int) (l2 : Int) (l3 : Int) (F : zF) (B : zB) : zO := if 0 ≤ l0 ∧ l0 < K.2 12 then zbind (f_S_performanceOf K l0 l1 F B) (fun r2 F2 B2 => (if r2 < 0 then f_S_sample_25 K F2 B2 else if r32 l2 then (if l2 < 0 then f_S_sample_25 K F2 B2 else if 0 ≤ r2 ∧ r2 < K.2 5 then if r32 (F2 5 r2 3) then (if l2 < (F2 5 r2 3) then if r32 l3 then (if l3 = 0 then if 0 ≤ l2 ∧ l2 < 1000 then some (B2 5 r2 4 l2, F2, B2) else none else (if l3 = 1 then if 0 ≤ l2 ∧ l2 < 1000 then some (B2 5 r2 5 l2, F2, B2) else none else some ((-2147483648), F2, B2))) else none else f_S_sample_25 K F2 B2) else none else none) else none)) else none
set_option maxHeartbeats 4000000 in
set_option maxRecDepth 100000 in
theorem c_S_sample {l : Launch} {D : va_G} {ca : Nat → ClassId} {ad : Nat → Int → Nat → Nat} {L : List Nat} {aS vS : Nat → Nat} {sz : Nat} {K : zK}  {l0 : Int} {l1 : Int} {l2 : Int} {l3 : Int} {F F9 : zF} {B B9 : zB} {r : Int} (hf : f_S_sample K l0 l1 l2 l3 F B = some (r, F9, B9)) : Met l ({ cls := "StaveHouse", name := "sample", desc := "(III)I" } : Jvm.MethodName) (Cond.code ({ cls := "StaveHouse", name := "sample", desc := "(III)I" } : Jvm.MethodName) prog_1_method_29_code 5 (Option.some Jvm.ClassFile.FieldType.int) :: wAll) ({ frames := 2, cells := 0, slots := 0, locals := 43 } : Room) (va_Pc [.ref (ad 12 l0 0), .int (iI l1), .int (iI l2), .int (iI l3)] (zPre D ca ad lnC K.2 L aS vS F B sz)) (Q_S_sample K D ca ad L r F9 B9 (zA L sz)) 0 0 (zA L sz) := by
  refine zMet (Qc := Q_S_sample K D ca ad L r F9 B9) (lv := [(0, .ref (ad 12 l0 0)), (1, .int (iI l1)), (2, .int (iI l2)), (3, .int (iI l3))]) (by decide) (Nat.le_of_ble_eq_true rfl) rfl (fun A p e s m below meth c ls X hZ hS hl => ?_)
  obtain ⟨hx, hb, hr, hml, hown, hts, hlk, hK, hA, hL, hX⟩ := id X
  replace hf : (if 0 ≤ l0 ∧ l0 < K.2 12 then zbind (f_S_performanceOf K l0 l1 F B) (fun r2 F2 B2 => (if r2 < 0 then f_S_sample_25 K F2 B2 else if r32 l2 then (if l2 < 0 then f_S_sample_25 K F2 B2 else if 0 ≤ r2 ∧ r2 < K.2 5 then if r32 (F2 5 r2 3) then (if l2 < (F2 5 r2 3) then if r32 l3 then (if l3 = 0 then if 0 ≤ l2 ∧ l2 < 1000 then some (B2 5 r2 4 l2, F2, B2) else none else (if l3 = 1 then if 0 ≤ l2 ∧ l2 < 1000 then some (B2 5 r2 5 l2, F2, B2) else none else some ((-2147483648), F2, B2))) else none else f_S_sample_25 K F2 B2) else none else none) else none)) else none) = some (r, F9, B9) := hf
  refine lv_aload_n hx hb d_1_29_0 rfl (lv_at hl 0 rfl) ?_
  refine lv_iload_n hx hb d_1_29_1 rfl (lv_at hl 1 rfl) ?_
  obtain ⟨g1, hf⟩ := gif hf
  obtain ⟨r2, F2, B2, hc2, hf⟩ := gbind hf
  refine va_callq (va_runV (As := [.int (iI l1)]) (rest := []) ⟨hx, hb, hml, hown, hts⟩ (c_S_performanceOf (l := l) hc2) (cwV 1 hts (gdV k_7_108 k_7_110 ks_89 k_1_1 k_7_111) rfl rfl rfl (by decide +kernel) ⟨Nat.le_of_ble_eq_true rfl, Nat.le_of_ble_eq_true rfl⟩) (zPV X hZ hS (ci := 12) g1.1 g1.2 (r := (RX12, TX12, 10)) rfl [.int (iI l1)]) rfl rfl hl.1 rfl (lv_room (Nat.le_of_ble_eq_true rfl)) d_1_29_2 ⟨Nat.le_of_ble_eq_true rfl, Nat.le_of_ble_eq_true rfl⟩) hS (fun q _ h => zAin X hS q h) (zAin X hS) (fun p2 u2 t2 H2 locs2 ht2 hv2 hw2 hB2 hz2 hk2 hS2 => ?_)
  have hZ2 := zBack X ht2 hB2
  subst hw2
  refine zastore (lv' := [(0, .ref (ad 12 l0 0)), (1, .int (iI l1)), (2, .int (iI l2)), (3, .int (iI l3))]) hx hb d_1_29_5 hl (by decide) (fun _ _ => rfl) (fun ls hl => ?_)
  refine zaload hx hb d_1_29_7 (lv_at hl 0 rfl) ?_
  refine zifnull (tgt := 25) hx hb d_1_29_9 (by decide) (fun h3 => ?_) (fun h3 => ?_)
  · replace hf := gpos hf h3
    exact b_S_sample_25 X hf hZ2 hS2 (lv_sub hl [] rfl)
  · replace hf := gneg hf h3
    refine lv_iload_n hx hb d_1_29_12 rfl (lv_at hl 3 rfl) ?_
    obtain ⟨g4, hf⟩ := gif hf
    refine z0lt (tgt := 25) hx hb g4 d_1_29_13 (by decide) (fun h5 => ?_) (fun h5 => ?_)
    · replace hf := gpos hf h5
      exact b_S_sample_25 X hf hZ2 hS2 (lv_sub hl [] rfl)
    · replace hf := gneg hf h5
      refine lv_iload_n hx hb d_1_29_16 rfl (lv_at hl 3 rfl) ?_
      refine zaload hx hb d_1_29_17 (lv_at hl 0 rfl) ?_
      obtain ⟨g6, hf⟩ := gif hf
      refine zunrf g6.1 ?_
      refine zget (ci := 5) (C := RX5) (T := TX5) (v := .int (iI (F2 5 r2 3))) (k := 3) hx hb hts inW_5 hown hK hZ2 g6.1 g6.2 rfl (by decide) k_6_70 rfl d_1_29_19 ?_
      obtain ⟨g7, hf⟩ := gif hf
      refine zlt (tgt := 28) hx hb g4 g7 d_1_29_22 (by decide) (fun h8 => ?_) (fun h8 => ?_)
      · replace hf := gpos hf h8
        refine lv_iload_n hx hb d_1_29_28 rfl (lv_at hl 4 rfl) ?_
        obtain ⟨g9, hf⟩ := gif hf
        by_cases h10 : l3 = 0
        · replace hf := gpos hf h10
          refine lv_lookup (off := 27) (tgt := 56) hx hb d_1_29_29 (by decide) (by rw [iI_to g9, h10]; rfl) (by decide) ?_
          refine zaload hx hb d_1_29_56 (lv_at hl 0 rfl) ?_
          refine zunrf g6.1 ?_
          refine zget (ci := 5) (C := RX5) (T := TX5) (v := .ref (ad 5 r2 (4 + 1))) (k := 4) hx hb hts inW_5 hown hK hZ2 g6.1 g6.2 rfl (by decide) k_6_72 rfl d_1_29_58 ?_
          refine lv_iload_n hx hb d_1_29_61 rfl (lv_at hl 3 rfl) ?_
          obtain ⟨g11, hf⟩ := gif hf
          refine zald (ci := 5) (k := 4) hx hb hK rfl hZ2 g6.1 g6.2 rfl (Nat.le_of_ble_eq_true rfl) g11.1 g11.2 d_1_29_62 ?_
          cases hf
          exact W.iret hx hb hr (fun t ht hW => ⟨⟨_, (), rfl, rfl, by rw [ht]; exact hZ2, va_K.moved hW.alike hK⟩, hS2.F ht⟩) hS2.2.2 d_1_29_63 hlk
        replace hf := gneg hf h10
        by_cases h12 : l3 = 1
        · replace hf := gpos hf h12
          refine lv_lookup (off := 35) (tgt := 64) hx hb d_1_29_29 (by decide) (by rw [iI_to g9, h12]; rfl) (by decide) ?_
          refine zaload hx hb d_1_29_64 (lv_at hl 0 rfl) ?_
          refine zunrf g6.1 ?_
          refine zget (ci := 5) (C := RX5) (T := TX5) (v := .ref (ad 5 r2 (5 + 1))) (k := 5) hx hb hts inW_5 hown hK hZ2 g6.1 g6.2 rfl (by decide) k_6_74 rfl d_1_29_66 ?_
          refine lv_iload_n hx hb d_1_29_69 rfl (lv_at hl 3 rfl) ?_
          obtain ⟨g13, hf⟩ := gif hf
          refine zald (ci := 5) (k := 5) hx hb hK rfl hZ2 g6.1 g6.2 rfl (Nat.le_of_ble_eq_true rfl) g13.1 g13.2 d_1_29_70 ?_
          cases hf
          exact W.iret hx hb hr (fun t ht hW => ⟨⟨_, (), rfl, rfl, by rw [ht]; exact hZ2, va_K.moved hW.alike hK⟩, hS2.F ht⟩) hS2.2.2 d_1_29_71 hlk
        replace hf := gneg hf h12
        refine lv_lookup (off := 43) (tgt := 72) hx hb d_1_29_29 (by decide) (by rw [iI_to g9, Op.lookupswitch.offset_cons, if_neg (fun q => h10 q.symm), Op.lookupswitch.offset_cons, if_neg (fun q => h12 q.symm)]; rfl) (by decide) ?_
        refine lv_ldc hx hb hown (hts _ k_6_199) d_1_29_72 ?_
        refine W.eq (g2 := F0 m 74 ls [.int (iI (-2147483648))]) rfl ?_
        cases hf
        exact W.iret hx hb hr (fun t ht hW => ⟨⟨_, (), rfl, rfl, by rw [ht]; exact hZ2, va_K.moved hW.alike hK⟩, hS2.F ht⟩) hS2.2.2 d_1_29_74 hlk
      · replace hf := gneg hf h8
        exact b_S_sample_25 X hf hZ2 hS2 (lv_sub hl [] rfl)

noncomputable abbrev Q_Study_takeClasses (K : zK) (D : va_G) (ca : Nat → ClassId) (ad : Nat → Int → Nat → Nat) (L : List Nat) (r : Int) (F : zF) (B : zB) (A : Nat → Prop) : Array Value → State → Outcome → State → Prop := va_Qv (S := Unit) (fun _ => True) (fun _ => zPo D ca ad lnC K.2 L F B A) A
noncomputable def f_Study_takeClasses_95 (rec23 : Int → Int → Int → Int → zF → zB → zO) (K : zK) (l3 : Int) (l0 : Int) (l1 : Int) (l2 : Int) (F : zF) (B : zB) : zO := rec23 (l3 + 1) l0 l1 l2 F B
set_option maxHeartbeats 4000000 in
set_option maxRecDepth 100000 in
theorem b_Study_takeClasses_95 {D : va_G} {ca : Nat → ClassId} {ad : Nat → Int → Nat → Nat} {L : List Nat} {aS vS : Nat → Nat} {A : Nat → Prop} {p : Program} {l : Launch} {e : Env} {s : State} {m : MethodId} {args : Array Value} {below : List Frame} {meth : Method} {c : Code} {K : zK} {r : Int} {F9 : zF} {B9 : zB} (X : zX D ca L aS vS A p s m args meth c prog_11_method_13_code 6 (Option.none : Option Jvm.ClassFile.FieldType) "StaveHouse$Study") {rec23 : Int → Int → Int → Int → zF → zB → zO} (hrec23 : ∀ {l3 : Int} {l0 : Int} {l1 : Int} {l2 : Int} {F : zF} {B : zB} {H : Heap} {locs : List Loc} {ls : Array Slot}, rec23 l3 l0 l1 l2 F B = some (r, F9, B9) → zH D ca ad lnC K.2 L F B A H → va_S A s.heap H locs → lv_has ls 6 [(3, .int (iI l3)), (0, .ref (ad 9 l0 0)), (1, .ref (ad 6 l1 0)), (2, .int (iI l2))] → W p l e ({ frames := 1, cells := 0, slots := 0, locals := 24 } : Room) s m args below meth c H locs 0 0 (MQ below (Q_Study_takeClasses K D ca ad L r F9 B9 A) args s 0 0 A) (F0 m 23 ls [])) {l3 : Int} {l0 : Int} {l1 : Int} {l2 : Int} {F : zF} {B : zB} {H : Heap} {locs : List Loc} {ls : Array Slot} (hf : f_Study_takeClasses_95 rec23 K l3 l0 l1 l2 F B = some (r, F9, B9)) (hZ : zH D ca ad lnC K.2 L F B A H) (hS : va_S A s.heap H locs) (hl : lv_has ls 6 [(3, .int (iI l3)), (0, .ref (ad 9 l0 0)), (1, .ref (ad 6 l1 0)), (2, .int (iI l2))]) : W p l e ({ frames := 1, cells := 0, slots := 0, locals := 24 } : Room) s m args below meth c H locs 0 0 (MQ below (Q_Study_takeClasses K D ca ad L r F9 B9 A) args s 0 0 A) (F0 m 95 ls []) := by
  obtain ⟨hx, hb, hr, hml, hown, hts, hlk, hK, hA, hL, hX⟩ := id X
  replace hf : (rec23 (l3 + 1) l0 l1 l2 F B) = some (r, F9, B9) := hf
  refine lv_iinc (v := iI (l3 + 1)) (lv' := [(3, .int (iI (l3 + 1))), (0, .ref (ad 9 l0 0)), (1, .ref (ad 6 l1 0)), (2, .int (iI l2))]) hx hb d_11_13_95 hl (k := 0) rfl (iI_add _ 1) (by decide) rfl (fun ls hl => ?_)
  refine lv_goto (tgt := 23) hx hb d_11_13_98 (by decide) ?_
  exact hrec23 hf hZ hS (lv_sub hl [0, 1, 2, 3] rfl)

