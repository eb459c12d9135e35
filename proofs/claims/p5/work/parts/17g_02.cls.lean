theorem d_7_13_43 : decode prog_7_method_13_code 43 = .ok (.iconst 2, 1) := D_5 W_prog_7_method_13_code_32 11 rfl rfl
theorem d_7_13_44 : decode prog_7_method_13_code 44 = .ok (.iload_n 2, 1) := D_28 W_prog_7_method_13_code_32 12 rfl rfl
theorem d_7_13_45 : decode prog_7_method_13_code 45 = .ok (.imul, 1) := D_104 W_prog_7_method_13_code_32 13 rfl rfl
theorem d_7_13_46 : decode prog_7_method_13_code 46 = .ok (.iadd, 1) := D_96 W_prog_7_method_13_code_32 14 rfl rfl
theorem d_7_13_47 : decode prog_7_method_13_code 47 = .ok (.istore_n 3, 1) := D_62 W_prog_7_method_13_code_32 15 rfl rfl
theorem d_7_13_48 : decode prog_7_method_13_code 48 = .ok (.goto (-32), 3) := D_167 W_prog_7_method_13_code_32 16 rfl rfl rfl
theorem d_1_20_5 : decode prog_1_method_20_code 5 = .ok (.astore 4, 2) := D_58 W_prog_1_method_20_code_0 5 rfl rfl
theorem d_1_20_7 : decode prog_1_method_20_code 7 = .ok (.aload 4, 2) := D_25 W_prog_1_method_20_code_0 7 rfl rfl
theorem d_1_20_9 : decode prog_1_method_20_code 9 = .ok (.ifnonnull 7, 3) := D_199 W_prog_1_method_20_code_0 9 rfl rfl rfl
theorem d_1_20_16 : decode prog_1_method_20_code 16 = .ok (.aload 4, 2) := D_25 W_prog_1_method_20_code_0 16 rfl rfl
theorem d_1_20_18 : decode prog_1_method_20_code 18 = .ok (.iload_n 2, 1) := D_28 W_prog_1_method_20_code_0 18 rfl rfl
theorem d_1_20_19 : decode prog_1_method_20_code 19 = .ok (.iload_n 3, 1) := D_29 W_prog_1_method_20_code_0 19 rfl rfl
theorem d_1_20_20 : decode prog_1_method_20_code 20 = .ok (.invokevirtual 260, 3) := D_182 W_prog_1_method_20_code_0 20 rfl rfl rfl
theorem d_1_20_12 : decode prog_1_method_20_code 12 = .ok (.iconst (-1), 1) := D_2 W_prog_1_method_20_code_0 12 rfl rfl
theorem d_1_20_13 : decode prog_1_method_20_code 13 = .ok (.goto 10, 3) := D_167 W_prog_1_method_20_code_0 13 rfl rfl rfl
theorem d_1_20_23 : decode prog_1_method_20_code 23 = .ok (.ireturn, 1) := D_172 W_prog_1_method_20_code_0 23 rfl rfl
theorem d_7_19_20 : decode prog_7_method_19_code 20 = .ok (.return_, 1) := D_177 W_prog_7_method_19_code_0 20 rfl rfl
theorem d_7_23_43 : decode prog_7_method_23_code 43 = .ok (.aload_n 0, 1) := D_42 W_prog_7_method_23_code_32 11 rfl rfl
theorem d_7_23_44 : decode prog_7_method_23_code 44 = .ok (.iload 5, 2) := D_21 W_prog_7_method_23_code_32 12 rfl rfl
theorem d_7_23_46 : decode prog_7_method_23_code 46 = .ok (.iconst 0, 1) := D_3 W_prog_7_method_23_code_32 14 rfl rfl
theorem d_7_23_47 : decode prog_7_method_23_code 47 = .ok (.invokevirtual 273, 3) := D_182 W_prog_7_method_23_code_32 15 rfl rfl rfl
theorem d_7_23_50 : decode prog_7_method_23_code 50 = .ok (.istore_n 3, 1) := D_62 W_prog_7_method_23_code_32 18 rfl rfl
theorem d_7_23_51 : decode prog_7_method_23_code 51 = .ok (.iload 4, 2) := D_21 W_prog_7_method_23_code_32 19 rfl rfl
theorem d_7_23_53 : decode prog_7_method_23_code 53 = .ok (.ifCond .ne 12, 3) := D_154 W_prog_7_method_23_code_32 21 rfl rfl rfl
theorem d_7_23_56 : decode prog_7_method_23_code 56 = .ok (.aload_n 2, 1) := D_44 W_prog_7_method_23_code_32 24 rfl rfl
theorem d_7_23_57 : decode prog_7_method_23_code 57 = .ok (.sipush 144, 3) := D_17 W_prog_7_method_23_code_32 25 rfl rfl rfl
theorem d_7_23_60 : decode prog_7_method_23_code 60 = .ok (.iload_n 1, 1) := D_27 W_prog_7_method_23_code_32 28 rfl rfl
theorem d_7_23_61 : decode prog_7_method_23_code 61 = .ok (.iadd, 1) := D_96 W_prog_7_method_23_code_32 29 rfl rfl
theorem d_7_23_62 : decode prog_7_method_23_code 62 = .ok (.invokevirtual 233, 3) := D_182 W_prog_7_method_23_code_32 30 rfl rfl rfl
theorem W_prog_7_method_23_code_64 : chW prog_7_method_23_code 64 [233, 4, 54, 4, 44, 42, 21, 5, 5, 182, 1, 17, 182, 0, 233, 44, 42, 21, 5, 6, 182, 1, 17, 182, 0, 233, 132, 5, 1, 167, 255, 171, 177] := chW_of (by decide +kernel)
theorem d_7_23_65 : decode prog_7_method_23_code 65 = .ok (.iconst 1, 1) := D_4 W_prog_7_method_23_code_64 1 rfl rfl
theorem d_7_23_66 : decode prog_7_method_23_code 66 = .ok (.istore 4, 2) := D_54 W_prog_7_method_23_code_64 2 rfl rfl
theorem d_7_23_68 : decode prog_7_method_23_code 68 = .ok (.aload_n 2, 1) := D_44 W_prog_7_method_23_code_64 4 rfl rfl
theorem d_7_23_69 : decode prog_7_method_23_code 69 = .ok (.aload_n 0, 1) := D_42 W_prog_7_method_23_code_64 5 rfl rfl
theorem d_7_23_70 : decode prog_7_method_23_code 70 = .ok (.iload 5, 2) := D_21 W_prog_7_method_23_code_64 6 rfl rfl
theorem d_7_23_72 : decode prog_7_method_23_code 72 = .ok (.iconst 2, 1) := D_5 W_prog_7_method_23_code_64 8 rfl rfl
theorem d_7_23_73 : decode prog_7_method_23_code 73 = .ok (.invokevirtual 273, 3) := D_182 W_prog_7_method_23_code_64 9 rfl rfl rfl
theorem d_7_23_76 : decode prog_7_method_23_code 76 = .ok (.invokevirtual 233, 3) := D_182 W_prog_7_method_23_code_64 12 rfl rfl rfl
theorem d_7_23_79 : decode prog_7_method_23_code 79 = .ok (.aload_n 2, 1) := D_44 W_prog_7_method_23_code_64 15 rfl rfl
theorem d_7_23_80 : decode prog_7_method_23_code 80 = .ok (.aload_n 0, 1) := D_42 W_prog_7_method_23_code_64 16 rfl rfl
theorem d_7_23_81 : decode prog_7_method_23_code 81 = .ok (.iload 5, 2) := D_21 W_prog_7_method_23_code_64 17 rfl rfl
theorem d_7_23_83 : decode prog_7_method_23_code 83 = .ok (.iconst 3, 1) := D_6 W_prog_7_method_23_code_64 19 rfl rfl
theorem d_7_23_84 : decode prog_7_method_23_code 84 = .ok (.invokevirtual 273, 3) := D_182 W_prog_7_method_23_code_64 20 rfl rfl rfl
theorem d_7_23_87 : decode prog_7_method_23_code 87 = .ok (.invokevirtual 233, 3) := D_182 W_prog_7_method_23_code_64 23 rfl rfl rfl
theorem d_7_23_90 : decode prog_7_method_23_code 90 = .ok (.iinc 5 1, 3) := D_132 W_prog_7_method_23_code_64 26 rfl rfl rfl
theorem d_7_23_93 : decode prog_7_method_23_code 93 = .ok (.goto (-85), 3) := D_167 W_prog_7_method_23_code_64 29 rfl rfl rfl
theorem d_10_5_27 : decode prog_10_method_5_code 27 = .ok (.iconst 0, 1) := D_3 W_prog_10_method_5_code_0 27 rfl rfl
theorem d_10_5_28 : decode prog_10_method_5_code 28 = .ok (.ireturn, 1) := D_172 W_prog_10_method_5_code_0 28 rfl rfl
noncomputable abbrev Q_Event_tone (K : zK) (D : va_G) (ca : Nat → ClassId) (ad : Nat → Int → Nat → Nat) (L : List Nat) (r : Int) (F : zF) (B : zB) (A : Nat → Prop) : Array Value → State → Outcome → State → Prop := va_Qi (S := Unit) (fun p _ => p = iI r) (fun _ => zPo D ca ad lnC K.2 L F B A) A
noncomputable def f_Event_tone (K : zK) (l0 : Int) (l1 : Int) (F : zF) (B : zB) : zO := if 0 ≤ l0 ∧ l0 < K.2 1 then if 0 ≤ l1 ∧ l1 < 6 then zbind (f_S_naturalTone K (B 1 l0 12 l1) F B) (fun r3 F3 B3 => some (r3 + (B3 1 l0 13 l1), F3, B3)) else none else none
set_option maxHeartbeats 4000000 in
set_option maxRecDepth 100000 in
theorem c_Event_tone {l : Launch} {D : va_G} {ca : Nat → ClassId} {ad : Nat → Int → Nat → Nat} {L : List Nat} {aS vS : Nat → Nat} {sz : Nat} {K : zK}  {l0 : Int} {l1 : Int} {F F9 : zF} {B B9 : zB} {r : Int} (hf : f_Event_tone K l0 l1 F B = some (r, F9, B9)) : Met l ({ cls := "StaveHouse$Event", name := "tone", desc := "(I)I" } : Jvm.MethodName) (Cond.code ({ cls := "StaveHouse$Event", name := "tone", desc := "(I)I" } : Jvm.MethodName) prog_3_method_4_code 2 (Option.some Jvm.ClassFile.FieldType.int) :: wAll) ({ frames := 2, cells := 0, slots := 0, locals := 42 } : Room) (va_Pc [.ref (ad 1 l0 0), .int (iI l1)] (zPre D ca ad lnC K.2 L aS vS F B sz)) (Q_Event_tone K D ca ad L r F9 B9 (zA L sz)) 0 0 (zA L sz) := by
  refine zMet (Qc := Q_Event_tone K D ca ad L r F9 B9) (lv := [(0, .ref (ad 1 l0 0)), (1, .int (iI l1))]) (by decide) (Nat.le_of_ble_eq_true rfl) rfl (fun A p e s m below meth c ls X hZ hS hl => ?_)
  obtain ⟨hx, hb, hr, hml, hown, hts, hlk, hK, hA, hL, hX⟩ := id X
  replace hf : (if 0 ≤ l0 ∧ l0 < K.2 1 then if 0 ≤ l1 ∧ l1 < 6 then zbind (f_S_naturalTone K (B 1 l0 12 l1) F B) (fun r3 F3 B3 => some (r3 + (B3 1 l0 13 l1), F3, B3)) else none else none) = some (r, F9, B9) := hf
  refine lv_aload_n hx hb d_3_4_0 rfl (lv_at hl 0 rfl) ?_
  obtain ⟨g1, hf⟩ := gif hf
  refine zget (ci := 1) (C := RX1) (T := TX1) (v := .ref (ad 1 l0 (12 + 1))) (k := 12) hx hb hts inW_1 hown hK hZ g1.1 g1.2 rfl (by decide) k_2_57 rfl d_3_4_1 ?_
  refine lv_iload_n hx hb d_3_4_4 rfl (lv_at hl 1 rfl) ?_
  obtain ⟨g2, hf⟩ := gif hf
  refine zald (ci := 1) (k := 12) hx hb hK rfl hZ g1.1 g1.2 rfl (Nat.le_of_ble_eq_true rfl) g2.1 g2.2 d_3_4_5 ?_
  obtain ⟨r3, F3, B3, hc3, hf⟩ := gbind hf
  refine va_calli (va_runSN (As := [.int (iI (B 1 l0 12 l1))]) (rest := []) ⟨hx, hb, hml, hown, hts⟩ (c_S_naturalTone (l := l) hc3) ⟨va_cnB 1 hts (gdC k_4_64) rfl rfl rfl (hX.1 _ (List.mem_of_getElem? (i := 19) rfl)) (hts _ k_1_1) (by decide +kernel) ⟨Nat.le_of_ble_eq_true rfl, Nat.le_of_ble_eq_true rfl⟩, hts _ k_4_63, trivial⟩ (zPS X hZ hS [.int (iI (B 1 l0 12 l1))]) rfl rfl hl.1 rfl (lv_room (Nat.le_of_ble_eq_true rfl)) d_3_4_6 ⟨Nat.le_of_ble_eq_true rfl, Nat.le_of_ble_eq_true rfl⟩) hS (fun q _ h => zAin X hS q h) (zAin X hS) (fun p3 u3 t3 H3 locs3 ht3 hv3 hw3 hB3 hz3 hk3 hS3 => ?_)
  have hZ3 := zBack X ht3 hB3
  subst hw3
  refine lv_aload_n hx hb d_3_4_9 rfl (lv_at hl 0 rfl) ?_
  refine zget (ci := 1) (C := RX1) (T := TX1) (v := .ref (ad 1 l0 (13 + 1))) (k := 13) hx hb hts inW_1 hown hK hZ3 g1.1 g1.2 rfl (by decide) k_2_63 rfl d_3_4_10 ?_
  refine lv_iload_n hx hb d_3_4_13 rfl (lv_at hl 1 rfl) ?_
  refine zald (ci := 1) (k := 13) hx hb hK rfl hZ3 g1.1 g1.2 rfl (Nat.le_of_ble_eq_true rfl) g2.1 g2.2 d_3_4_14 ?_
  refine zadd hx hb d_3_4_15 ?_
  cases hf
  exact W.iret hx hb hr (fun t ht hW => ⟨⟨_, (), rfl, rfl, by rw [ht]; exact hZ3, va_K.moved hW.alike hK⟩, hS3.F ht⟩) hS3.2.2 d_3_4_16 hlk

noncomputable abbrev Q_Study_isFaultOfTwo (K : zK) (D : va_G) (ca : Nat → ClassId) (ad : Nat → Int → Nat → Nat) (L : List Nat) (r : Int) (F : zF) (B : zB) (A : Nat → Prop) : Array Value → State → Outcome → State → Prop := va_Qi (S := Unit) (fun p _ => p = iI r) (fun _ => zPo D ca ad lnC K.2 L F B A) A
noncomputable def f_Study_isFaultOfTwo_346 (K : zK) (s0 : Int) (F : zF) (B : zB) : zO := if (s0 = 0 ∨ s0 = 1) then some (s0, F, B) else none
set_option maxHeartbeats 4000000 in
set_option maxRecDepth 100000 in
theorem b_Study_isFaultOfTwo_346 {D : va_G} {ca : Nat → ClassId} {ad : Nat → Int → Nat → Nat} {L : List Nat} {aS vS : Nat → Nat} {A : Nat → Prop} {p : Program} {l : Launch} {e : Env} {s : State} {m : MethodId} {args : Array Value} {below : List Frame} {meth : Method} {c : Code} {K : zK} {r : Int} {F9 : zF} {B9 : zB} (X : zX D ca L aS vS A p s m args meth c prog_11_method_9_code 10 (Option.some Jvm.ClassFile.FieldType.boolean) "StaveHouse$Study") {s0 : Int} {F : zF} {B : zB} {H : Heap} {locs : List Loc} {ls : Array Slot} (hf : f_Study_isFaultOfTwo_346 K s0 F B = some (r, F9, B9)) (hZ : zH D ca ad lnC K.2 L F B A H) (hS : va_S A s.heap H locs) (hl : lv_has ls 10 []) : W p l e ({ frames := 2, cells := 0, slots := 0, locals := 48 } : Room) s m args below meth c H locs 0 0 (MQ below (Q_Study_isFaultOfTwo K D ca ad L r F9 B9 A) args s 0 0 A) (F0 m 346 ls [.int (iI s0)]) := by
  obtain ⟨hx, hb, hr, hml, hown, hts, hlk, hK, hA, hL, hX⟩ := id X
  replace hf : (if (s0 = 0 ∨ s0 = 1) then some (s0, F, B) else none) = some (r, F9, B9) := hf
  obtain ⟨g83, hf⟩ := gif hf
  cases hf
  exact W.zret hx hb hr (zbool g83) (fun t ht hW => ⟨⟨_, (), rfl, rfl, by rw [ht]; exact hZ, va_K.moved hW.alike hK⟩, hS.F ht⟩) hS.2.2 d_11_9_346 hlk

noncomputable def f_Study_isFaultOfTwo_345 (K : zK)  (F : zF) (B : zB) : zO := f_Study_isFaultOfTwo_346 K 0 F B
set_option maxHeartbeats 4000000 in
set_option maxRecDepth 100000 in
theorem b_Study_isFaultOfTwo_345 {D : va_G} {ca : Nat → ClassId} {ad : Nat → Int → Nat → Nat} {L : List Nat} {aS vS : Nat → Nat} {A : Nat → Prop} {p : Program} {l : Launch} {e : Env} {s : State} {m : MethodId} {args : Array Value} {below : List Frame} {meth : Method} {c : Code} {K : zK} {r : Int} {F9 : zF} {B9 : zB} (X : zX D ca L aS vS A p s m args meth c prog_11_method_9_code 10 (Option.some Jvm.ClassFile.FieldType.boolean) "StaveHouse$Study")  {F : zF} {B : zB} {H : Heap} {locs : List Loc} {ls : Array Slot} (hf : f_Study_isFaultOfTwo_345 K  F B = some (r, F9, B9)) (hZ : zH D ca ad lnC K.2 L F B A H) (hS : va_S A s.heap H locs) (hl : lv_has ls 10 []) : W p l e ({ frames := 2, cells := 0, slots := 0, locals := 48 } : Room) s m args below meth c H locs 0 0 (MQ below (Q_Study_isFaultOfTwo K D ca ad L r F9 B9 A) args s 0 0 A) (F0 m 345 ls []) := by
  obtain ⟨hx, hb, hr, hml, hown, hts, hlk, hK, hA, hL, hX⟩ := id X
  replace hf : (f_Study_isFaultOfTwo_346 K 0 F B) = some (r, F9, B9) := hf
  refine lv_iconst (v := iI 0) hx hb d_11_9_345 rfl ?_
  exact b_Study_isFaultOfTwo_346 X hf hZ hS (lv_sub hl [] rfl)

noncomputable def f_Study_isFaultOfTwo_305 (K : zK) (l8 : Int) (l7 : Int) (l0 : Int) (s0 : Int) (F : zF) (B : zB) : zO := if r32 l7 then (if l7 = 0 then f_Study_isFaultOfTwo_345 K F B else if r32 l8 then (if l7 = l8 then f_Study_isFaultOfTwo_345 K F B else if 0 ≤ l0 ∧ l0 < K.2 9 then if 0 ≤ s0 ∧ s0 < 4 then if r32 ((B 9 l0 5 s0) - (B 9 l0 7 s0)) then if r32 (zabs ((B 9 l0 5 s0) - (B 9 l0 7 s0))) then (if (zabs ((B 9 l0 5 s0) - (B 9 l0 7 s0))) ≤ 2 then f_Study_isFaultOfTwo_345 K F B else f_Study_isFaultOfTwo_346 K 1 F B) else none else none else none else none) else none) else none
set_option maxHeartbeats 4000000 in
set_option maxRecDepth 100000 in
theorem b_Study_isFaultOfTwo_305 {D : va_G} {ca : Nat → ClassId} {ad : Nat → Int → Nat → Nat} {L : List Nat} {aS vS : Nat → Nat} {A : Nat → Prop} {p : Program} {l : Launch} {e : Env} {s : State} {m : MethodId} {args : Array Value} {below : List Frame} {meth : Method} {c : Code} {K : zK} {r : Int} {F9 : zF} {B9 : zB} (X : zX D ca L aS vS A p s m args meth c prog_11_method_9_code 10 (Option.some Jvm.ClassFile.FieldType.boolean) "StaveHouse$Study") {l8 : Int} {l7 : Int} {l0 : Int} {s0 : Int} {F : zF} {B : zB} {H : Heap} {locs : List Loc} {ls : Array Slot} (hf : f_Study_isFaultOfTwo_305 K l8 l7 l0 s0 F B = some (r, F9, B9)) (hZ : zH D ca ad lnC K.2 L F B A H) (hS : va_S A s.heap H locs) (hl : lv_has ls 10 [(8, .int (iI l8)), (7, .int (iI l7)), (0, .ref (ad 9 l0 0))]) : W p l e ({ frames := 2, cells := 0, slots := 0, locals := 48 } : Room) s m args below meth c H locs 0 0 (MQ below (Q_Study_isFaultOfTwo K D ca ad L r F9 B9 A) args s 0 0 A) (F0 m 305 ls [.int (iI s0)]) := by
  obtain ⟨hx, hb, hr, hml, hown, hts, hlk, hK, hA, hL, hX⟩ := id X
  replace hf : (if r32 l7 then (if l7 = 0 then f_Study_isFaultOfTwo_345 K F B else if r32 l8 then (if l7 = l8 then f_Study_isFaultOfTwo_345 K F B else if 0 ≤ l0 ∧ l0 < K.2 9 then if 0 ≤ s0 ∧ s0 < 4 then if r32 ((B 9 l0 5 s0) - (B 9 l0 7 s0)) then if r32 (zabs ((B 9 l0 5 s0) - (B 9 l0 7 s0))) then (if (zabs ((B 9 l0 5 s0) - (B 9 l0 7 s0))) ≤ 2 then f_Study_isFaultOfTwo_345 K F B else f_Study_isFaultOfTwo_346 K 1 F B) else none else none else none else none) else none) else none) = some (r, F9, B9) := hf
  refine lv_istore (lv' := [(9, .int (iI s0)), (8, .int (iI l8)), (7, .int (iI l7)), (0, .ref (ad 9 l0 0))]) hx hb d_11_9_305 hl (by decide) rfl (fun ls hl => ?_)
  refine lv_iload hx hb d_11_9_307 (lv_at hl 2 rfl) ?_
  obtain ⟨g74, hf⟩ := gif hf
  refine z0eq (tgt := 345) hx hb g74 d_11_9_309 (by decide) (fun h75 => ?_) (fun h75 => ?_)
  · replace hf := gpos hf h75
    exact b_Study_isFaultOfTwo_345 X hf hZ hS (lv_sub hl [] rfl)
  · replace hf := gneg hf h75
    refine lv_iload hx hb d_11_9_312 (lv_at hl 2 rfl) ?_
    refine lv_iload hx hb d_11_9_314 (lv_at hl 1 rfl) ?_
    obtain ⟨g76, hf⟩ := gif hf
    refine zeq (tgt := 345) hx hb g74 g76 d_11_9_316 (by decide) (fun h77 => ?_) (fun h77 => ?_)
    · replace hf := gpos hf h77
      exact b_Study_isFaultOfTwo_345 X hf hZ hS (lv_sub hl [] rfl)
    · replace hf := gneg hf h77
      refine lv_aload_n hx hb d_11_9_319 rfl (lv_at hl 3 rfl) ?_
      obtain ⟨g78, hf⟩ := gif hf
      refine zget (ci := 9) (C := RX9) (T := TX9) (v := .ref (ad 9 l0 (5 + 1))) (k := 5) hx hb hts inW_9 hown hK hZ g78.1 g78.2 rfl (by decide) k_5_206 rfl d_11_9_320 ?_
      refine lv_iload hx hb d_11_9_323 (lv_at hl 0 rfl) ?_
      obtain ⟨g79, hf⟩ := gif hf
      refine zald (ci := 9) (k := 5) hx hb hK rfl hZ g78.1 g78.2 rfl (Nat.le_of_ble_eq_true rfl) g79.1 g79.2 d_11_9_325 ?_
      refine lv_aload_n hx hb d_11_9_326 rfl (lv_at hl 3 rfl) ?_
      refine zget (ci := 9) (C := RX9) (T := TX9) (v := .ref (ad 9 l0 (7 + 1))) (k := 7) hx hb hts inW_9 hown hK hZ g78.1 g78.2 rfl (by decide) k_5_208 rfl d_11_9_327 ?_
      refine lv_iload hx hb d_11_9_330 (lv_at hl 0 rfl) ?_
      refine zald (ci := 9) (k := 7) hx hb hK rfl hZ g78.1 g78.2 rfl (Nat.le_of_ble_eq_true rfl) g79.1 g79.2 d_11_9_332 ?_
      refine zsub hx hb d_11_9_333 ?_
      obtain ⟨g80, hf⟩ := gif hf
      refine va_mabs hx hb (by rw [hml]; exact hl.1.symm) hown (hts _ k_6_39) (hts _ k_4_229) (hts _ k_1_3) (hts _ k_4_230) (Nat.le_of_ble_eq_true rfl) (Nat.le_of_ble_eq_true rfl) (Nat.le_of_ble_eq_true rfl) (Nat.le_of_ble_eq_true rfl) d_11_9_334 ?_
      rw [zabs_e g80]
      refine lv_iconst (v := iI 2) hx hb d_11_9_337 rfl ?_
      obtain ⟨g81, hf⟩ := gif hf
      refine zle (tgt := 345) hx hb g81 (by decide) d_11_9_338 (by decide) (fun h82 => ?_) (fun h82 => ?_)
      · replace hf := gpos hf h82
        exact b_Study_isFaultOfTwo_345 X hf hZ hS (lv_sub hl [] rfl)
      · replace hf := gneg hf h82
        refine lv_iconst (v := iI 1) hx hb d_11_9_341 rfl ?_
        refine lv_goto (tgt := 346) hx hb d_11_9_342 (by decide) ?_
        exact b_Study_isFaultOfTwo_346 X hf hZ hS (lv_sub hl [] rfl)

noncomputable def f_Study_isFaultOfTwo_284 (K : zK) (s0 : Int) (F : zF) (B : zB) : zO := if (s0 = 0 ∨ s0 = 1) then some (s0, F, B) else none
set_option maxHeartbeats 4000000 in
set_option maxRecDepth 100000 in
theorem b_Study_isFaultOfTwo_284 {D : va_G} {ca : Nat → ClassId} {ad : Nat → Int → Nat → Nat} {L : List Nat} {aS vS : Nat → Nat} {A : Nat → Prop} {p : Program} {l : Launch} {e : Env} {s : State} {m : MethodId} {args : Array Value} {below : List Frame} {meth : Method} {c : Code} {K : zK} {r : Int} {F9 : zF} {B9 : zB} (X : zX D ca L aS vS A p s m args meth c prog_11_method_9_code 10 (Option.some Jvm.ClassFile.FieldType.boolean) "StaveHouse$Study") {s0 : Int} {F : zF} {B : zB} {H : Heap} {locs : List Loc} {ls : Array Slot} (hf : f_Study_isFaultOfTwo_284 K s0 F B = some (r, F9, B9)) (hZ : zH D ca ad lnC K.2 L F B A H) (hS : va_S A s.heap H locs) (hl : lv_has ls 10 []) : W p l e ({ frames := 2, cells := 0, slots := 0, locals := 48 } : Room) s m args below meth c H locs 0 0 (MQ below (Q_Study_isFaultOfTwo K D ca ad L r F9 B9 A) args s 0 0 A) (F0 m 284 ls [.int (iI s0)]) := by
  obtain ⟨hx, hb, hr, hml, hown, hts, hlk, hK, hA, hL, hX⟩ := id X
  replace hf : (if (s0 = 0 ∨ s0 = 1) then some (s0, F, B) else none) = some (r, F9, B9) := hf
  obtain ⟨g73, hf⟩ := gif hf
  cases hf
  exact W.zret hx hb hr (zbool g73) (fun t ht hW => ⟨⟨_, (), rfl, rfl, by rw [ht]; exact hZ, va_K.moved hW.alike hK⟩, hS.F ht⟩) hS.2.2 d_11_9_284 hlk

noncomputable def f_Study_isFaultOfTwo_283 (K : zK)  (F : zF) (B : zB) : zO := f_Study_isFaultOfTwo_284 K 0 F B
set_option maxHeartbeats 4000000 in
set_option maxRecDepth 100000 in
theorem b_Study_isFaultOfTwo_283 {D : va_G} {ca : Nat → ClassId} {ad : Nat → Int → Nat → Nat} {L : List Nat} {aS vS : Nat → Nat} {A : Nat → Prop} {p : Program} {l : Launch} {e : Env} {s : State} {m : MethodId} {args : Array Value} {below : List Frame} {meth : Method} {c : Code} {K : zK} {r : Int} {F9 : zF} {B9 : zB} (X : zX D ca L aS vS A p s m args meth c prog_11_method_9_code 10 (Option.some Jvm.ClassFile.FieldType.boolean) "StaveHouse$Study")  {F : zF} {B : zB} {H : Heap} {locs : List Loc} {ls : Array Slot} (hf : f_Study_isFaultOfTwo_283 K  F B = some (r, F9, B9)) (hZ : zH D ca ad lnC K.2 L F B A H) (hS : va_S A s.heap H locs) (hl : lv_has ls 10 []) : W p l e ({ frames := 2, cells := 0, slots := 0, locals := 48 } : Room) s m args below meth c H locs 0 0 (MQ below (Q_Study_isFaultOfTwo K D ca ad L r F9 B9 A) args s 0 0 A) (F0 m 283 ls []) := by
  obtain ⟨hx, hb, hr, hml, hown, hts, hlk, hK, hA, hL, hX⟩ := id X
  replace hf : (f_Study_isFaultOfTwo_284 K 0 F B) = some (r, F9, B9) := hf
  refine lv_iconst (v := iI 0) hx hb d_11_9_283 rfl ?_
  exact b_Study_isFaultOfTwo_284 X hf hZ hS (lv_sub hl [] rfl)

noncomputable def f_Study_isFaultOfTwo_204 (K : zK) (l0 : Int) (l1 : Int) (l2 : Int) (l3 : Int) (F : zF) (B : zB) : zO := if 0 ≤ l0 ∧ l0 < K.2 9 then if 0 ≤ l2 ∧ l2 < 4 then if 0 ≤ l3 ∧ l3 < 4 then zbind (f_Study_consonance K (B 9 l0 5 l2) (B 9 l0 6 l2) (B 9 l0 5 l3) (B 9 l0 6 l3) F B) (fun r61 F61 B61 => zbind (f_Study_consonance K (B61 9 l0 7 l2) (B61 9 l0 8 l2) (B61 9 l0 7 l3) (B61 9 l0 8 l3) F61 B61) (fun r62 F62 B62 => if r32 l1 then (if 3 ≤ l1 then if r32 (B62 9 l0 6 l3) then if r32 (B62 9 l0 6 l2) then (if (B62 9 l0 6 l3) ≤ (B62 9 l0 6 l2) then f_Study_isFaultOfTwo_305 K r62 r61 l0 l2 F62 B62 else f_Study_isFaultOfTwo_305 K r62 r61 l0 l3 F62 B62) else none else none else if r32 r61 then (if r61 = l1 then if r32 r62 then (if r62 = l1 then f_Study_isFaultOfTwo_284 K 1 F62 B62 else f_Study_isFaultOfTwo_283 K F62 B62) else none else f_Study_isFaultOfTwo_283 K F62 B62) else none) else none)) else none else none else none
set_option maxHeartbeats 4000000 in
set_option maxRecDepth 100000 in
theorem b_Study_isFaultOfTwo_204 {D : va_G} {ca : Nat → ClassId} {ad : Nat → Int → Nat → Nat} {L : List Nat} {aS vS : Nat → Nat} {A : Nat → Prop} {p : Program} {l : Launch} {e : Env} {s : State} {m : MethodId} {args : Array Value} {below : List Frame} {meth : Method} {c : Code} {K : zK} {r : Int} {F9 : zF} {B9 : zB} (X : zX D ca L aS vS A p s m args meth c prog_11_method_9_code 10 (Option.some Jvm.ClassFile.FieldType.boolean) "StaveHouse$Study") {l0 : Int} {l1 : Int} {l2 : Int} {l3 : Int} {F : zF} {B : zB} {H : Heap} {locs : List Loc} {ls : Array Slot} (hf : f_Study_isFaultOfTwo_204 K l0 l1 l2 l3 F B = some (r, F9, B9)) (hZ : zH D ca ad lnC K.2 L F B A H) (hS : va_S A s.heap H locs) (hl : lv_has ls 10 [(0, .ref (ad 9 l0 0)), (1, .int (iI l1)), (2, .int (iI l2)), (3, .int (iI l3))]) : W p l e ({ frames := 2, cells := 0, slots := 0, locals := 48 } : Room) s m args below meth c H locs 0 0 (MQ below (Q_Study_isFaultOfTwo K D ca ad L r F9 B9 A) args s 0 0 A) (F0 m 204 ls []) := by
  obtain ⟨hx, hb, hr, hml, hown, hts, hlk, hK, hA, hL, hX⟩ := id X
  replace hf : (if 0 ≤ l0 ∧ l0 < K.2 9 then if 0 ≤ l2 ∧ l2 < 4 then if 0 ≤ l3 ∧ l3 < 4 then zbind (f_Study_consonance K (B 9 l0 5 l2) (B 9 l0 6 l2) (B 9 l0 5 l3) (B 9 l0 6 l3) F B) (fun r61 F61 B61 => zbind (f_Study_consonance K (B61 9 l0 7 l2) (B61 9 l0 8 l2) (B61 9 l0 7 l3) (B61 9 l0 8 l3) F61 B61) (fun r62 F62 B62 => if r32 l1 then (if 3 ≤ l1 then if r32 (B62 9 l0 6 l3) then if r32 (B62 9 l0 6 l2) then (if (B62 9 l0 6 l3) ≤ (B62 9 l0 6 l2) then f_Study_isFaultOfTwo_305 K r62 r61 l0 l2 F62 B62 else f_Study_isFaultOfTwo_305 K r62 r61 l0 l3 F62 B62) else none else none else if r32 r61 then (if r61 = l1 then if r32 r62 then (if r62 = l1 then f_Study_isFaultOfTwo_284 K 1 F62 B62 else f_Study_isFaultOfTwo_283 K F62 B62) else none else f_Study_isFaultOfTwo_283 K F62 B62) else none) else none)) else none else none else none) = some (r, F9, B9) := hf
  refine lv_aload_n hx hb d_11_9_204 rfl (lv_at hl 0 rfl) ?_
  obtain ⟨g58, hf⟩ := gif hf
  refine zget (ci := 9) (C := RX9) (T := TX9) (v := .ref (ad 9 l0 (5 + 1))) (k := 5) hx hb hts inW_9 hown hK hZ g58.1 g58.2 rfl (by decide) k_5_206 rfl d_11_9_205 ?_
  refine lv_iload_n hx hb d_11_9_208 rfl (lv_at hl 2 rfl) ?_
  obtain ⟨g59, hf⟩ := gif hf
  refine zald (ci := 9) (k := 5) hx hb hK rfl hZ g58.1 g58.2 rfl (Nat.le_of_ble_eq_true rfl) g59.1 g59.2 d_11_9_209 ?_
  refine lv_aload_n hx hb d_11_9_210 rfl (lv_at hl 0 rfl) ?_
  refine zget (ci := 9) (C := RX9) (T := TX9) (v := .ref (ad 9 l0 (6 + 1))) (k := 6) hx hb hts inW_9 hown hK hZ g58.1 g58.2 rfl (by decide) k_5_207 rfl d_11_9_211 ?_
  refine lv_iload_n hx hb d_11_9_214 rfl (lv_at hl 2 rfl) ?_
  refine zald (ci := 9) (k := 6) hx hb hK rfl hZ g58.1 g58.2 rfl (Nat.le_of_ble_eq_true rfl) g59.1 g59.2 d_11_9_215 ?_
  refine lv_aload_n hx hb d_11_9_216 rfl (lv_at hl 0 rfl) ?_
  refine zget (ci := 9) (C := RX9) (T := TX9) (v := .ref (ad 9 l0 (5 + 1))) (k := 5) hx hb hts inW_9 hown hK hZ g58.1 g58.2 rfl (by decide) k_5_206 rfl d_11_9_217 ?_
  refine lv_iload_n hx hb d_11_9_220 rfl (lv_at hl 3 rfl) ?_
  obtain ⟨g60, hf⟩ := gif hf
  refine zald (ci := 9) (k := 5) hx hb hK rfl hZ g58.1 g58.2 rfl (Nat.le_of_ble_eq_true rfl) g60.1 g60.2 d_11_9_221 ?_
  refine lv_aload_n hx hb d_11_9_222 rfl (lv_at hl 0 rfl) ?_
  refine zget (ci := 9) (C := RX9) (T := TX9) (v := .ref (ad 9 l0 (6 + 1))) (k := 6) hx hb hts inW_9 hown hK hZ g58.1 g58.2 rfl (by decide) k_5_207 rfl d_11_9_223 ?_
  refine lv_iload_n hx hb d_11_9_226 rfl (lv_at hl 3 rfl) ?_
  refine zald (ci := 9) (k := 6) hx hb hK rfl hZ g58.1 g58.2 rfl (Nat.le_of_ble_eq_true rfl) g60.1 g60.2 d_11_9_227 ?_
  obtain ⟨r61, F61, B61, hc61, hf⟩ := gbind hf
  refine va_calli (va_runS (As := [.int (iI (B 9 l0 5 l2)), .int (iI (B 9 l0 6 l2)), .int (iI (B 9 l0 5 l3)), .int (iI (B 9 l0 6 l3))]) (rest := []) ⟨hx, hb, hml, hown, hts⟩ (c_Study_consonance (l := l) hc61) (va_cwS 4 hts (gdS k_6_35 k_6_36 k_1_19 k_6_37) rfl rfl rfl (by decide +kernel) ⟨Nat.le_of_ble_eq_true rfl, Nat.le_of_ble_eq_true rfl⟩) (zPS X hZ hS [.int (iI (B 9 l0 5 l2)), .int (iI (B 9 l0 6 l2)), .int (iI (B 9 l0 5 l3)), .int (iI (B 9 l0 6 l3))]) rfl rfl hl.1 rfl (lv_room (Nat.le_of_ble_eq_true rfl)) d_11_9_228 ⟨Nat.le_of_ble_eq_true rfl, Nat.le_of_ble_eq_true rfl⟩) hS (fun q _ h => zAin X hS q h) (zAin X hS) (fun p61 u61 t61 H61 locs61 ht61 hv61 hw61 hB61 hz61 hk61 hS61 => ?_)
  have hZ61 := zBack X ht61 hB61
  subst hw61
  refine lv_istore (lv' := [(7, .int (iI r61)), (0, .ref (ad 9 l0 0)), (1, .int (iI l1)), (2, .int (iI l2)), (3, .int (iI l3))]) hx hb d_11_9_231 hl (by decide) rfl (fun ls hl => ?_)
  refine lv_aload_n hx hb d_11_9_233 rfl (lv_at hl 1 rfl) ?_
  refine zget (ci := 9) (C := RX9) (T := TX9) (v := .ref (ad 9 l0 (7 + 1))) (k := 7) hx hb hts inW_9 hown hK hZ61 g58.1 g58.2 rfl (by decide) k_5_208 rfl d_11_9_234 ?_
  refine lv_iload_n hx hb d_11_9_237 rfl (lv_at hl 3 rfl) ?_
  refine zald (ci := 9) (k := 7) hx hb hK rfl hZ61 g58.1 g58.2 rfl (Nat.le_of_ble_eq_true rfl) g59.1 g59.2 d_11_9_238 ?_
  refine lv_aload_n hx hb d_11_9_239 rfl (lv_at hl 1 rfl) ?_
  refine zget (ci := 9) (C := RX9) (T := TX9) (v := .ref (ad 9 l0 (8 + 1))) (k := 8) hx hb hts inW_9 hown hK hZ61 g58.1 g58.2 rfl (by decide) k_5_209 rfl d_11_9_240 ?_
  refine lv_iload_n hx hb d_11_9_243 rfl (lv_at hl 3 rfl) ?_
  refine zald (ci := 9) (k := 8) hx hb hK rfl hZ61 g58.1 g58.2 rfl (Nat.le_of_ble_eq_true rfl) g59.1 g59.2 d_11_9_244 ?_
  refine lv_aload_n hx hb d_11_9_245 rfl (lv_at hl 1 rfl) ?_
  refine zget (ci := 9) (C := RX9) (T := TX9) (v := .ref (ad 9 l0 (7 + 1))) (k := 7) hx hb hts inW_9 hown hK hZ61 g58.1 g58.2 rfl (by decide) k_5_208 rfl d_11_9_246 ?_
  refine lv_iload_n hx hb d_11_9_249 rfl (lv_at hl 4 rfl) ?_
  refine zald (ci := 9) (k := 7) hx hb hK rfl hZ61 g58.1 g58.2 rfl (Nat.le_of_ble_eq_true rfl) g60.1 g60.2 d_11_9_250 ?_
  refine lv_aload_n hx hb d_11_9_251 rfl (lv_at hl 1 rfl) ?_
  refine zget (ci := 9) (C := RX9) (T := TX9) (v := .ref (ad 9 l0 (8 + 1))) (k := 8) hx hb hts inW_9 hown hK hZ61 g58.1 g58.2 rfl (by decide) k_5_209 rfl d_11_9_252 ?_
  refine lv_iload_n hx hb d_11_9_255 rfl (lv_at hl 4 rfl) ?_
  refine zald (ci := 9) (k := 8) hx hb hK rfl hZ61 g58.1 g58.2 rfl (Nat.le_of_ble_eq_true rfl) g60.1 g60.2 d_11_9_256 ?_
  obtain ⟨r62, F62, B62, hc62, hf⟩ := gbind hf
  refine va_calli (va_runS (As := [.int (iI (B61 9 l0 7 l2)), .int (iI (B61 9 l0 8 l2)), .int (iI (B61 9 l0 7 l3)), .int (iI (B61 9 l0 8 l3))]) (rest := []) ⟨hx, hb, hml, hown, hts⟩ (c_Study_consonance (l := l) hc62) (va_cwS 4 hts (gdS k_6_35 k_6_36 k_1_19 k_6_37) rfl rfl rfl (by decide +kernel) ⟨Nat.le_of_ble_eq_true rfl, Nat.le_of_ble_eq_true rfl⟩) (zPS X hZ61 hS61 [.int (iI (B61 9 l0 7 l2)), .int (iI (B61 9 l0 8 l2)), .int (iI (B61 9 l0 7 l3)), .int (iI (B61 9 l0 8 l3))]) rfl rfl hl.1 rfl (lv_room (Nat.le_of_ble_eq_true rfl)) d_11_9_257 ⟨Nat.le_of_ble_eq_true rfl, Nat.le_of_ble_eq_true rfl⟩) hS61 (fun q _ h => zAin X hS61 q h) (zAin X hS61) (fun p62 u62 t62 H62 locs62 ht62 hv62 hw62 hB62 hz62 hk62 hS62 => ?_)
  have hZ62 := zBack X ht62 hB62
  subst hw62
  refine lv_istore (lv' := [(8, .int (iI r62)), (7, .int (iI r61)), (0, .ref (ad 9 l0 0)), (1, .int (iI l1)), (2, .int (iI l2)), (3, .int (iI l3))]) hx hb d_11_9_260 hl (by decide) rfl (fun ls hl => ?_)
  refine lv_iload_n hx hb d_11_9_262 rfl (lv_at hl 3 rfl) ?_
  refine lv_iconst (v := iI 3) hx hb d_11_9_263 rfl ?_
  obtain ⟨g63, hf⟩ := gif hf
  refine zge (tgt := 285) hx hb g63 (by decide) d_11_9_264 (by decide) (fun h65 => ?_) (fun h65 => ?_)
  · replace hf := gpos hf h65
    refine lv_aload_n hx hb d_11_9_285 rfl (lv_at hl 2 rfl) ?_
    refine zget (ci := 9) (C := RX9) (T := TX9) (v := .ref (ad 9 l0 (6 + 1))) (k := 6) hx hb hts inW_9 hown hK hZ62 g58.1 g58.2 rfl (by decide) k_5_207 rfl d_11_9_286 ?_
    refine lv_iload_n hx hb d_11_9_289 rfl (lv_at hl 5 rfl) ?_
    refine zald (ci := 9) (k := 6) hx hb hK rfl hZ62 g58.1 g58.2 rfl (Nat.le_of_ble_eq_true rfl) g60.1 g60.2 d_11_9_290 ?_
    refine lv_aload_n hx hb d_11_9_291 rfl (lv_at hl 2 rfl) ?_
    refine zget (ci := 9) (C := RX9) (T := TX9) (v := .ref (ad 9 l0 (6 + 1))) (k := 6) hx hb hts inW_9 hown hK hZ62 g58.1 g58.2 rfl (by decide) k_5_207 rfl d_11_9_292 ?_
    refine lv_iload_n hx hb d_11_9_295 rfl (lv_at hl 4 rfl) ?_
    refine zald (ci := 9) (k := 6) hx hb hK rfl hZ62 g58.1 g58.2 rfl (Nat.le_of_ble_eq_true rfl) g59.1 g59.2 d_11_9_296 ?_
    obtain ⟨g66, hf⟩ := gif hf
    obtain ⟨g67, hf⟩ := gif hf
    refine zle (tgt := 304) hx hb g66 g67 d_11_9_297 (by decide) (fun h68 => ?_) (fun h68 => ?_)
    · replace hf := gpos hf h68
      refine lv_iload_n hx hb d_11_9_304 rfl (lv_at hl 4 rfl) ?_
      exact b_Study_isFaultOfTwo_305 X hf hZ62 hS62 (lv_sub hl [0, 1, 2] rfl)
    · replace hf := gneg hf h68
      refine lv_iload_n hx hb d_11_9_300 rfl (lv_at hl 5 rfl) ?_
      refine lv_goto (tgt := 305) hx hb d_11_9_301 (by decide) ?_
      exact b_Study_isFaultOfTwo_305 X hf hZ62 hS62 (lv_sub hl [0, 1, 2] rfl)
  · replace hf := gneg hf h65
    refine lv_iload hx hb d_11_9_267 (lv_at hl 1 rfl) ?_
    refine lv_iload_n hx hb d_11_9_269 rfl (lv_at hl 3 rfl) ?_
    obtain ⟨g69, hf⟩ := gif hf
    refine zne (tgt := 283) hx hb g69 g63 d_11_9_270 (by decide) (fun h70 => ?_) (fun h70 => ?_)
    · replace hf := gneg hf h70
      exact b_Study_isFaultOfTwo_283 X hf hZ62 hS62 (lv_sub hl [] rfl)
    · replace hf := gpos hf h70
      refine lv_iload hx hb d_11_9_273 (lv_at hl 0 rfl) ?_
      refine lv_iload_n hx hb d_11_9_275 rfl (lv_at hl 3 rfl) ?_
      obtain ⟨g71, hf⟩ := gif hf
      refine zne (tgt := 283) hx hb g71 g63 d_11_9_276 (by decide) (fun h72 => ?_) (fun h72 => ?_)
      · replace hf := gneg hf h72
        exact b_Study_isFaultOfTwo_283 X hf hZ62 hS62 (lv_sub hl [] rfl)
      · replace hf := gpos hf h72
        refine lv_iconst (v := iI 1) hx hb d_11_9_279 rfl ?_
        refine lv_goto (tgt := 284) hx hb d_11_9_280 (by decide) ?_
        exact b_Study_isFaultOfTwo_284 X hf hZ62 hS62 (lv_sub hl [] rfl)

noncomputable def f_Study_isFaultOfTwo_202 (K : zK)  (F : zF) (B : zB) : zO := some (0, F, B)
set_option maxHeartbeats 4000000 in
set_option maxRecDepth 100000 in
theorem b_Study_isFaultOfTwo_202 {D : va_G} {ca : Nat → ClassId} {ad : Nat → Int → Nat → Nat} {L : List Nat} {aS vS : Nat → Nat} {A : Nat → Prop} {p : Program} {l : Launch} {e : Env} {s : State} {m : MethodId} {args : Array Value} {below : List Frame} {meth : Method} {c : Code} {K : zK} {r : Int} {F9 : zF} {B9 : zB} (X : zX D ca L aS vS A p s m args meth c prog_11_method_9_code 10 (Option.some Jvm.ClassFile.FieldType.boolean) "StaveHouse$Study")  {F : zF} {B : zB} {H : Heap} {locs : List Loc} {ls : Array Slot} (hf : f_Study_isFaultOfTwo_202 K  F B = some (r, F9, B9)) (hZ : zH D ca ad lnC K.2 L F B A H) (hS : va_S A s.heap H locs) (hl : lv_has ls 10 []) : W p l e ({ frames := 2, cells := 0, slots := 0, locals := 48 } : Room) s m args below meth c H locs 0 0 (MQ below (Q_Study_isFaultOfTwo K D ca ad L r F9 B9 A) args s 0 0 A) (F0 m 202 ls []) := by
  obtain ⟨hx, hb, hr, hml, hown, hts, hlk, hK, hA, hL, hX⟩ := id X
  replace hf : (some (0, F, B)) = some (r, F9, B9) := hf
  refine lv_iconst (v := iI 0) hx hb d_11_9_202 rfl ?_
  cases hf
  exact W.zret hx hb hr rfl (fun t ht hW => ⟨⟨_, (), rfl, rfl, by rw [ht]; exact hZ, va_K.moved hW.alike hK⟩, hS.F ht⟩) hS.2.2 d_11_9_203 hlk

noncomputable def f_Study_isFaultOfTwo_167 (K : zK) (l5 : Int) (l4 : Int) (l0 : Int) (l1 : Int) (l2 : Int) (l3 : Int) (s0 : Int) (F : zF) (B : zB) : zO := if r32 l4 then (if l4 = 0 then f_Study_isFaultOfTwo_202 K F B else if 0 ≤ l0 ∧ l0 < K.2 9 then if 0 ≤ l2 ∧ l2 < 4 then if r32 (B 9 l0 9 l2) then (if (B 9 l0 9 l2) = 0 then f_Study_isFaultOfTwo_202 K F B else if 0 ≤ l3 ∧ l3 < 4 then if r32 (B 9 l0 9 l3) then (if (B 9 l0 9 l3) = 0 then f_Study_isFaultOfTwo_202 K F B else if r32 l5 then (if l5 = 0 then if r32 s0 then (if s0 = 0 then f_Study_isFaultOfTwo_202 K F B else f_Study_isFaultOfTwo_204 K l0 l1 l2 l3 F B) else none else f_Study_isFaultOfTwo_204 K l0 l1 l2 l3 F B) else none) else none else none) else none else none else none) else none
set_option maxHeartbeats 4000000 in
set_option maxRecDepth 100000 in
theorem b_Study_isFaultOfTwo_167 {D : va_G} {ca : Nat → ClassId} {ad : Nat → Int → Nat → Nat} {L : List Nat} {aS vS : Nat → Nat} {A : Nat → Prop} {p : Program} {l : Launch} {e : Env} {s : State} {m : MethodId} {args : Array Value} {below : List Frame} {meth : Method} {c : Code} {K : zK} {r : Int} {F9 : zF} {B9 : zB} (X : zX D ca L aS vS A p s m args meth c prog_11_method_9_code 10 (Option.some Jvm.ClassFile.FieldType.boolean) "StaveHouse$Study") {l5 : Int} {l4 : Int} {l0 : Int} {l1 : Int} {l2 : Int} {l3 : Int} {s0 : Int} {F : zF} {B : zB} {H : Heap} {locs : List Loc} {ls : Array Slot} (hf : f_Study_isFaultOfTwo_167 K l5 l4 l0 l1 l2 l3 s0 F B = some (r, F9, B9)) (hZ : zH D ca ad lnC K.2 L F B A H) (hS : va_S A s.heap H locs) (hl : lv_has ls 10 [(5, .int (iI l5)), (4, .int (iI l4)), (0, .ref (ad 9 l0 0)), (1, .int (iI l1)), (2, .int (iI l2)), (3, .int (iI l3))]) : W p l e ({ frames := 2, cells := 0, slots := 0, locals := 48 } : Room) s m args below meth c H locs 0 0 (MQ below (Q_Study_isFaultOfTwo K D ca ad L r F9 B9 A) args s 0 0 A) (F0 m 167 ls [.int (iI s0)]) := by
  obtain ⟨hx, hb, hr, hml, hown, hts, hlk, hK, hA, hL, hX⟩ := id X
  replace hf : (if r32 l4 then (if l4 = 0 then f_Study_isFaultOfTwo_202 K F B else if 0 ≤ l0 ∧ l0 < K.2 9 then if 0 ≤ l2 ∧ l2 < 4 then if r32 (B 9 l0 9 l2) then (if (B 9 l0 9 l2) = 0 then f_Study_isFaultOfTwo_202 K F B else if 0 ≤ l3 ∧ l3 < 4 then if r32 (B 9 l0 9 l3) then (if (B 9 l0 9 l3) = 0 then f_Study_isFaultOfTwo_202 K F B else if r32 l5 then (if l5 = 0 then if r32 s0 then (if s0 = 0 then f_Study_isFaultOfTwo_202 K F B else f_Study_isFaultOfTwo_204 K l0 l1 l2 l3 F B) else none else f_Study_isFaultOfTwo_204 K l0 l1 l2 l3 F B) else none) else none else none) else none else none else none) else none) = some (r, F9, B9) := hf
  refine lv_istore (lv' := [(6, .int (iI s0)), (5, .int (iI l5)), (4, .int (iI l4)), (0, .ref (ad 9 l0 0)), (1, .int (iI l1)), (2, .int (iI l2)), (3, .int (iI l3))]) hx hb d_11_9_167 hl (by decide) rfl (fun ls hl => ?_)
  refine lv_iload hx hb d_11_9_169 (lv_at hl 2 rfl) ?_
  obtain ⟨g45, hf⟩ := gif hf
  refine z0eq (tgt := 202) hx hb g45 d_11_9_171 (by decide) (fun h46 => ?_) (fun h46 => ?_)
  · replace hf := gpos hf h46
    exact b_Study_isFaultOfTwo_202 X hf hZ hS (lv_sub hl [] rfl)
  · replace hf := gneg hf h46
    refine lv_aload_n hx hb d_11_9_174 rfl (lv_at hl 3 rfl) ?_
    obtain ⟨g47, hf⟩ := gif hf
    refine zget (ci := 9) (C := RX9) (T := TX9) (v := .ref (ad 9 l0 (9 + 1))) (k := 9) hx hb hts inW_9 hown hK hZ g47.1 g47.2 rfl (by decide) k_5_210 rfl d_11_9_175 ?_
    refine lv_iload_n hx hb d_11_9_178 rfl (lv_at hl 5 rfl) ?_
    obtain ⟨g48, hf⟩ := gif hf
    refine zzald (ci := 9) (k := 9) hx hb hK rfl hZ g47.1 g47.2 rfl (Nat.le_of_ble_eq_true rfl) g48.1 g48.2 d_11_9_179 ?_
    obtain ⟨g49, hf⟩ := gif hf
    refine z0eq (tgt := 202) hx hb g49 d_11_9_180 (by decide) (fun h50 => ?_) (fun h50 => ?_)
    · replace hf := gpos hf h50
      exact b_Study_isFaultOfTwo_202 X hf hZ hS (lv_sub hl [] rfl)
    · replace hf := gneg hf h50
      refine lv_aload_n hx hb d_11_9_183 rfl (lv_at hl 3 rfl) ?_
      refine zget (ci := 9) (C := RX9) (T := TX9) (v := .ref (ad 9 l0 (9 + 1))) (k := 9) hx hb hts inW_9 hown hK hZ g47.1 g47.2 rfl (by decide) k_5_210 rfl d_11_9_184 ?_
      refine lv_iload_n hx hb d_11_9_187 rfl (lv_at hl 6 rfl) ?_
      obtain ⟨g51, hf⟩ := gif hf
      refine zzald (ci := 9) (k := 9) hx hb hK rfl hZ g47.1 g47.2 rfl (Nat.le_of_ble_eq_true rfl) g51.1 g51.2 d_11_9_188 ?_
      obtain ⟨g52, hf⟩ := gif hf
      refine z0eq (tgt := 202) hx hb g52 d_11_9_189 (by decide) (fun h53 => ?_) (fun h53 => ?_)
      · replace hf := gpos hf h53
        exact b_Study_isFaultOfTwo_202 X hf hZ hS (lv_sub hl [] rfl)
      · replace hf := gneg hf h53
        refine lv_iload hx hb d_11_9_192 (lv_at hl 1 rfl) ?_
        obtain ⟨g54, hf⟩ := gif hf
        refine z0ne (tgt := 204) hx hb g54 d_11_9_194 (by decide) (fun h55 => ?_) (fun h55 => ?_)
        · replace hf := gneg hf h55
          exact b_Study_isFaultOfTwo_204 X hf hZ hS (lv_sub hl [3, 4, 5, 6] rfl)
        · replace hf := gpos hf h55
          refine lv_iload hx hb d_11_9_197 (lv_at hl 0 rfl) ?_
          obtain ⟨g56, hf⟩ := gif hf
          refine z0ne (tgt := 204) hx hb g56 d_11_9_199 (by decide) (fun h57 => ?_) (fun h57 => ?_)
          · replace hf := gneg hf h57
            exact b_Study_isFaultOfTwo_204 X hf hZ hS (lv_sub hl [3, 4, 5, 6] rfl)
          · replace hf := gpos hf h57
            exact b_Study_isFaultOfTwo_202 X hf hZ hS (lv_sub hl [] rfl)

noncomputable def f_Study_isFaultOfTwo_166 (K : zK) (l5 : Int) (l4 : Int) (l0 : Int) (l1 : Int) (l2 : Int) (l3 : Int) (F : zF) (B : zB) : zO := f_Study_isFaultOfTwo_167 K l5 l4 l0 l1 l2 l3 0 F B
set_option maxHeartbeats 4000000 in
set_option maxRecDepth 100000 in
theorem b_Study_isFaultOfTwo_166 {D : va_G} {ca : Nat → ClassId} {ad : Nat → Int → Nat → Nat} {L : List Nat} {aS vS : Nat → Nat} {A : Nat → Prop} {p : Program} {l : Launch} {e : Env} {s : State} {m : MethodId} {args : Array Value} {below : List Frame} {meth : Method} {c : Code} {K : zK} {r : Int} {F9 : zF} {B9 : zB} (X : zX D ca L aS vS A p s m args meth c prog_11_method_9_code 10 (Option.some Jvm.ClassFile.FieldType.boolean) "StaveHouse$Study") {l5 : Int} {l4 : Int} {l0 : Int} {l1 : Int} {l2 : Int} {l3 : Int} {F : zF} {B : zB} {H : Heap} {locs : List Loc} {ls : Array Slot} (hf : f_Study_isFaultOfTwo_166 K l5 l4 l0 l1 l2 l3 F B = some (r, F9, B9)) (hZ : zH D ca ad lnC K.2 L F B A H) (hS : va_S A s.heap H locs) (hl : lv_has ls 10 [(5, .int (iI l5)), (4, .int (iI l4)), (0, .ref (ad 9 l0 0)), (1, .int (iI l1)), (2, .int (iI l2)), (3, .int (iI l3))]) : W p l e ({ frames := 2, cells := 0, slots := 0, locals := 48 } : Room) s m args below meth c H locs 0 0 (MQ below (Q_Study_isFaultOfTwo K D ca ad L r F9 B9 A) args s 0 0 A) (F0 m 166 ls []) := by
  obtain ⟨hx, hb, hr, hml, hown, hts, hlk, hK, hA, hL, hX⟩ := id X
  replace hf : (f_Study_isFaultOfTwo_167 K l5 l4 l0 l1 l2 l3 0 F B) = some (r, F9, B9) := hf
  refine lv_iconst (v := iI 0) hx hb d_11_9_166 rfl ?_
  exact b_Study_isFaultOfTwo_167 X hf hZ hS (lv_sub hl [0, 1, 2, 3, 4, 5] rfl)

noncomputable def f_Study_isFaultOfTwo_130 (K : zK) (l4 : Int) (l0 : Int) (l1 : Int) (l2 : Int) (l3 : Int) (s0 : Int) (F : zF) (B : zB) : zO := if 0 ≤ l0 ∧ l0 < K.2 9 then if 0 ≤ l2 ∧ l2 < 4 then if r32 (B 9 l0 6 l2) then if r32 (B 9 l0 8 l2) then (if (B 9 l0 8 l2) ≤ (B 9 l0 6 l2) then f_Study_isFaultOfTwo_166 K s0 l4 l0 l1 l2 l3 F B else if 0 ≤ l3 ∧ l3 < 4 then if r32 (B 9 l0 6 l3) then if r32 (B 9 l0 8 l3) then (if (B 9 l0 8 l3) ≤ (B 9 l0 6 l3) then f_Study_isFaultOfTwo_166 K s0 l4 l0 l1 l2 l3 F B else f_Study_isFaultOfTwo_167 K s0 l4 l0 l1 l2 l3 1 F B) else none else none else none) else none else none else none else none
set_option maxHeartbeats 4000000 in
set_option maxRecDepth 100000 in
theorem b_Study_isFaultOfTwo_130 {D : va_G} {ca : Nat → ClassId} {ad : Nat → Int → Nat → Nat} {L : List Nat} {aS vS : Nat → Nat} {A : Nat → Prop} {p : Program} {l : Launch} {e : Env} {s : State} {m : MethodId} {args : Array Value} {below : List Frame} {meth : Method} {c : Code} {K : zK} {r : Int} {F9 : zF} {B9 : zB} (X : zX D ca L aS vS A p s m args meth c prog_11_method_9_code 10 (Option.some Jvm.ClassFile.FieldType.boolean) "StaveHouse$Study") {l4 : Int} {l0 : Int} {l1 : Int} {l2 : Int} {l3 : Int} {s0 : Int} {F : zF} {B : zB} {H : Heap} {locs : List Loc} {ls : Array Slot} (hf : f_Study_isFaultOfTwo_130 K l4 l0 l1 l2 l3 s0 F B = some (r, F9, B9)) (hZ : zH D ca ad lnC K.2 L F B A H) (hS : va_S A s.heap H locs) (hl : lv_has ls 10 [(4, .int (iI l4)), (0, .ref (ad 9 l0 0)), (1, .int (iI l1)), (2, .int (iI l2)), (3, .int (iI l3))]) : W p l e ({ frames := 2, cells := 0, slots := 0, locals := 48 } : Room) s m args below meth c H locs 0 0 (MQ below (Q_Study_isFaultOfTwo K D ca ad L r F9 B9 A) args s 0 0 A) (F0 m 130 ls [.int (iI s0)]) := by
  obtain ⟨hx, hb, hr, hml, hown, hts, hlk, hK, hA, hL, hX⟩ := id X
  replace hf : (if 0 ≤ l0 ∧ l0 < K.2 9 then if 0 ≤ l2 ∧ l2 < 4 then if r32 (B 9 l0 6 l2) then if r32 (B 9 l0 8 l2) then (if (B 9 l0 8 l2) ≤ (B 9 l0 6 l2) then f_Study_isFaultOfTwo_166 K s0 l4 l0 l1 l2 l3 F B else if 0 ≤ l3 ∧ l3 < 4 then if r32 (B 9 l0 6 l3) then if r32 (B 9 l0 8 l3) then (if (B 9 l0 8 l3) ≤ (B 9 l0 6 l3) then f_Study_isFaultOfTwo_166 K s0 l4 l0 l1 l2 l3 F B else f_Study_isFaultOfTwo_167 K s0 l4 l0 l1 l2 l3 1 F B) else none else none else none) else none else none else none else none) = some (r, F9, B9) := hf
  refine lv_istore (lv' := [(5, .int (iI s0)), (4, .int (iI l4)), (0, .ref (ad 9 l0 0)), (1, .int (iI l1)), (2, .int (iI l2)), (3, .int (iI l3))]) hx hb d_11_9_130 hl (by decide) rfl (fun ls hl => ?_)
  refine lv_aload_n hx hb d_11_9_132 rfl (lv_at hl 2 rfl) ?_
  obtain ⟨g36, hf⟩ := gif hf
  refine zget (ci := 9) (C := RX9) (T := TX9) (v := .ref (ad 9 l0 (6 + 1))) (k := 6) hx hb hts inW_9 hown hK hZ g36.1 g36.2 rfl (by decide) k_5_207 rfl d_11_9_133 ?_
  refine lv_iload_n hx hb d_11_9_136 rfl (lv_at hl 4 rfl) ?_
  obtain ⟨g37, hf⟩ := gif hf
  refine zald (ci := 9) (k := 6) hx hb hK rfl hZ g36.1 g36.2 rfl (Nat.le_of_ble_eq_true rfl) g37.1 g37.2 d_11_9_137 ?_
  refine lv_aload_n hx hb d_11_9_138 rfl (lv_at hl 2 rfl) ?_
  refine zget (ci := 9) (C := RX9) (T := TX9) (v := .ref (ad 9 l0 (8 + 1))) (k := 8) hx hb hts inW_9 hown hK hZ g36.1 g36.2 rfl (by decide) k_5_209 rfl d_11_9_139 ?_
  refine lv_iload_n hx hb d_11_9_142 rfl (lv_at hl 4 rfl) ?_
  refine zald (ci := 9) (k := 8) hx hb hK rfl hZ g36.1 g36.2 rfl (Nat.le_of_ble_eq_true rfl) g37.1 g37.2 d_11_9_143 ?_
  obtain ⟨g38, hf⟩ := gif hf
  obtain ⟨g39, hf⟩ := gif hf
  refine zge (tgt := 166) hx hb g38 g39 d_11_9_144 (by decide) (fun h40 => ?_) (fun h40 => ?_)
  · replace hf := gpos hf h40
    exact b_Study_isFaultOfTwo_166 X hf hZ hS (lv_sub hl [0, 1, 2, 3, 4, 5] rfl)
  · replace hf := gneg hf h40
    refine lv_aload_n hx hb d_11_9_147 rfl (lv_at hl 2 rfl) ?_
    refine zget (ci := 9) (C := RX9) (T := TX9) (v := .ref (ad 9 l0 (6 + 1))) (k := 6) hx hb hts inW_9 hown hK hZ g36.1 g36.2 rfl (by decide) k_5_207 rfl d_11_9_148 ?_
    refine lv_iload_n hx hb d_11_9_151 rfl (lv_at hl 5 rfl) ?_
    obtain ⟨g41, hf⟩ := gif hf
    refine zald (ci := 9) (k := 6) hx hb hK rfl hZ g36.1 g36.2 rfl (Nat.le_of_ble_eq_true rfl) g41.1 g41.2 d_11_9_152 ?_
    refine lv_aload_n hx hb d_11_9_153 rfl (lv_at hl 2 rfl) ?_
    refine zget (ci := 9) (C := RX9) (T := TX9) (v := .ref (ad 9 l0 (8 + 1))) (k := 8) hx hb hts inW_9 hown hK hZ g36.1 g36.2 rfl (by decide) k_5_209 rfl d_11_9_154 ?_
    refine lv_iload_n hx hb d_11_9_157 rfl (lv_at hl 5 rfl) ?_
    refine zald (ci := 9) (k := 8) hx hb hK rfl hZ g36.1 g36.2 rfl (Nat.le_of_ble_eq_true rfl) g41.1 g41.2 d_11_9_158 ?_
    obtain ⟨g42, hf⟩ := gif hf
    obtain ⟨g43, hf⟩ := gif hf
    refine zge (tgt := 166) hx hb g42 g43 d_11_9_159 (by decide) (fun h44 => ?_) (fun h44 => ?_)
    · replace hf := gpos hf h44
      exact b_Study_isFaultOfTwo_166 X hf hZ hS (lv_sub hl [0, 1, 2, 3, 4, 5] rfl)
    · replace hf := gneg hf h44
      refine lv_iconst (v := iI 1) hx hb d_11_9_162 rfl ?_
      refine lv_goto (tgt := 167) hx hb d_11_9_163 (by decide) ?_
      exact b_Study_isFaultOfTwo_167 X hf hZ hS (lv_sub hl [0, 1, 2, 3, 4, 5] rfl)

noncomputable def f_Study_isFaultOfTwo_129 (K : zK) (l4 : Int) (l0 : Int) (l1 : Int) (l2 : Int) (l3 : Int) (F : zF) (B : zB) : zO := f_Study_isFaultOfTwo_130 K l4 l0 l1 l2 l3 0 F B
set_option maxHeartbeats 4000000 in
set_option maxRecDepth 100000 in
theorem b_Study_isFaultOfTwo_129 {D : va_G} {ca : Nat → ClassId} {ad : Nat → Int → Nat → Nat} {L : List Nat} {aS vS : Nat → Nat} {A : Nat → Prop} {p : Program} {l : Launch} {e : Env} {s : State} {m : MethodId} {args : Array Value} {below : List Frame} {meth : Method} {c : Code} {K : zK} {r : Int} {F9 : zF} {B9 : zB} (X : zX D ca L aS vS A p s m args meth c prog_11_method_9_code 10 (Option.some Jvm.ClassFile.FieldType.boolean) "StaveHouse$Study") {l4 : Int} {l0 : Int} {l1 : Int} {l2 : Int} {l3 : Int} {F : zF} {B : zB} {H : Heap} {locs : List Loc} {ls : Array Slot} (hf : f_Study_isFaultOfTwo_129 K l4 l0 l1 l2 l3 F B = some (r, F9, B9)) (hZ : zH D ca ad lnC K.2 L F B A H) (hS : va_S A s.heap H locs) (hl : lv_has ls 10 [(4, .int (iI l4)), (0, .ref (ad 9 l0 0)), (1, .int (iI l1)), (2, .int (iI l2)), (3, .int (iI l3))]) : W p l e ({ frames := 2, cells := 0, slots := 0, locals := 48 } : Room) s m args below meth c H locs 0 0 (MQ below (Q_Study_isFaultOfTwo K D ca ad L r F9 B9 A) args s 0 0 A) (F0 m 129 ls []) := by
  obtain ⟨hx, hb, hr, hml, hown, hts, hlk, hK, hA, hL, hX⟩ := id X
  replace hf : (f_Study_isFaultOfTwo_130 K l4 l0 l1 l2 l3 0 F B) = some (r, F9, B9) := hf
  refine lv_iconst (v := iI 0) hx hb d_11_9_129 rfl ?_
  exact b_Study_isFaultOfTwo_130 X hf hZ hS (lv_sub hl [0, 1, 2, 3, 4] rfl)

noncomputable def f_Study_isFaultOfTwo_94 (K : zK) (s0 : Int) (F : zF) (B : zB) : zO := if (s0 = 0 ∨ s0 = 1) then some (s0, F, B) else none
set_option maxHeartbeats 4000000 in
set_option maxRecDepth 100000 in
theorem b_Study_isFaultOfTwo_94 {D : va_G} {ca : Nat → ClassId} {ad : Nat → Int → Nat → Nat} {L : List Nat} {aS vS : Nat → Nat} {A : Nat → Prop} {p : Program} {l : Launch} {e : Env} {s : State} {m : MethodId} {args : Array Value} {below : List Frame} {meth : Method} {c : Code} {K : zK} {r : Int} {F9 : zF} {B9 : zB} (X : zX D ca L aS vS A p s m args meth c prog_11_method_9_code 10 (Option.some Jvm.ClassFile.FieldType.boolean) "StaveHouse$Study") {s0 : Int} {F : zF} {B : zB} {H : Heap} {locs : List Loc} {ls : Array Slot} (hf : f_Study_isFaultOfTwo_94 K s0 F B = some (r, F9, B9)) (hZ : zH D ca ad lnC K.2 L F B A H) (hS : va_S A s.heap H locs) (hl : lv_has ls 10 []) : W p l e ({ frames := 2, cells := 0, slots := 0, locals := 48 } : Room) s m args below meth c H locs 0 0 (MQ below (Q_Study_isFaultOfTwo K D ca ad L r F9 B9 A) args s 0 0 A) (F0 m 94 ls [.int (iI s0)]) := by
  obtain ⟨hx, hb, hr, hml, hown, hts, hlk, hK, hA, hL, hX⟩ := id X
  replace hf : (if (s0 = 0 ∨ s0 = 1) then some (s0, F, B) else none) = some (r, F9, B9) := hf
  obtain ⟨g35, hf⟩ := gif hf
  cases hf
  exact W.zret hx hb hr (zbool g35) (fun t ht hW => ⟨⟨_, (), rfl, rfl, by rw [ht]; exact hZ, va_K.moved hW.alike hK⟩, hS.F ht⟩) hS.2.2 d_11_9_94 hlk

noncomputable def f_Study_isFaultOfTwo_93 (K : zK)  (F : zF) (B : zB) : zO := f_Study_isFaultOfTwo_94 K 0 F B
set_option maxHeartbeats 4000000 in
set_option maxRecDepth 100000 in
theorem b_Study_isFaultOfTwo_93 {D : va_G} {ca : Nat → ClassId} {ad : Nat → Int → Nat → Nat} {L : List Nat} {aS vS : Nat → Nat} {A : Nat → Prop} {p : Program} {l : Launch} {e : Env} {s : State} {m : MethodId} {args : Array Value} {below : List Frame} {meth : Method} {c : Code} {K : zK} {r : Int} {F9 : zF} {B9 : zB} (X : zX D ca L aS vS A p s m args meth c prog_11_method_9_code 10 (Option.some Jvm.ClassFile.FieldType.boolean) "StaveHouse$Study")  {F : zF} {B : zB} {H : Heap} {locs : List Loc} {ls : Array Slot} (hf : f_Study_isFaultOfTwo_93 K  F B = some (r, F9, B9)) (hZ : zH D ca ad lnC K.2 L F B A H) (hS : va_S A s.heap H locs) (hl : lv_has ls 10 []) : W p l e ({ frames := 2, cells := 0, slots := 0, locals := 48 } : Room) s m args below meth c H locs 0 0 (MQ below (Q_Study_isFaultOfTwo K D ca ad L r F9 B9 A) args s 0 0 A) (F0 m 93 ls []) := by
  obtain ⟨hx, hb, hr, hml, hown, hts, hlk, hK, hA, hL, hX⟩ := id X
  replace hf : (f_Study_isFaultOfTwo_94 K 0 F B) = some (r, F9, B9) := hf
  refine lv_iconst (v := iI 0) hx hb d_11_9_93 rfl ?_
  exact b_Study_isFaultOfTwo_94 X hf hZ hS (lv_sub hl [] rfl)

noncomputable def f_Study_isFaultOfTwo_89 (K : zK)  (F : zF) (B : zB) : zO := f_Study_isFaultOfTwo_94 K 1 F B
set_option maxHeartbeats 4000000 in
set_option maxRecDepth 100000 in
theorem b_Study_isFaultOfTwo_89 {D : va_G} {ca : Nat → ClassId} {ad : Nat → Int → Nat → Nat} {L : List Nat} {aS vS : Nat → Nat} {A : Nat → Prop} {p : Program} {l : Launch} {e : Env} {s : State} {m : MethodId} {args : Array Value} {below : List Frame} {meth : Method} {c : Code} {K : zK} {r : Int} {F9 : zF} {B9 : zB} (X : zX D ca L aS vS A p s m args meth c prog_11_method_9_code 10 (Option.some Jvm.ClassFile.FieldType.boolean) "StaveHouse$Study")  {F : zF} {B : zB} {H : Heap} {locs : List Loc} {ls : Array Slot} (hf : f_Study_isFaultOfTwo_89 K  F B = some (r, F9, B9)) (hZ : zH D ca ad lnC K.2 L F B A H) (hS : va_S A s.heap H locs) (hl : lv_has ls 10 []) : W p l e ({ frames := 2, cells := 0, slots := 0, locals := 48 } : Room) s m args below meth c H locs 0 0 (MQ below (Q_Study_isFaultOfTwo K D ca ad L r F9 B9 A) args s 0 0 A) (F0 m 89 ls []) := by
  obtain ⟨hx, hb, hr, hml, hown, hts, hlk, hK, hA, hL, hX⟩ := id X
  replace hf : (f_Study_isFaultOfTwo_94 K 1 F B) = some (r, F9, B9) := hf
  refine lv_iconst (v := iI 1) hx hb d_11_9_89 rfl ?_
  refine lv_goto (tgt := 94) hx hb d_11_9_90 (by decide) ?_
  exact b_Study_isFaultOfTwo_94 X hf hZ hS (lv_sub hl [] rfl)

noncomputable def f_Study_isFaultOfTwo_47 (K : zK) (l0 : Int) (l1 : Int) (l2 : Int) (l3 : Int) (s0 : Int) (F : zF) (B : zB) : zO := if r32 l1 then (if l1 = 4 then if 0 ≤ l0 ∧ l0 < K.2 9 then if 0 ≤ l3 ∧ l3 < 4 then if 0 ≤ l2 ∧ l2 < 4 then if r32 (B 9 l0 6 l3) then if r32 (B 9 l0 6 l2) then (if (B 9 l0 6 l3) ≤ (B 9 l0 6 l2) then f_Study_isFaultOfTwo_93 K F B else if r32 s0 then (if s0 = 0 then f_Study_isFaultOfTwo_89 K F B else if r32 (B 9 l0 8 l3) then if r32 (B 9 l0 8 l2) then (if (B 9 l0 8 l2) < (B 9 l0 8 l3) then f_Study_isFaultOfTwo_93 K F B else f_Study_isFaultOfTwo_89 K F B) else none else none) else none) else none else none else none else none else none else if 0 ≤ l0 ∧ l0 < K.2 9 then if 0 ≤ l2 ∧ l2 < 4 then if r32 (B 9 l0 6 l2) then if r32 (B 9 l0 8 l2) then (if (B 9 l0 6 l2) ≤ (B 9 l0 8 l2) then f_Study_isFaultOfTwo_129 K s0 l0 l1 l2 l3 F B else if 0 ≤ l3 ∧ l3 < 4 then if r32 (B 9 l0 6 l3) then if r32 (B 9 l0 8 l3) then (if (B 9 l0 6 l3) ≤ (B 9 l0 8 l3) then f_Study_isFaultOfTwo_129 K s0 l0 l1 l2 l3 F B else f_Study_isFaultOfTwo_130 K s0 l0 l1 l2 l3 1 F B) else none else none else none) else none else none else none else none) else none
set_option maxHeartbeats 4000000 in
set_option maxRecDepth 100000 in
theorem b_Study_isFaultOfTwo_47 {D : va_G} {ca : Nat → ClassId} {ad : Nat → Int → Nat → Nat} {L : List Nat} {aS vS : Nat → Nat} {A : Nat → Prop} {p : Program} {l : Launch} {e : Env} {s : State} {m : MethodId} {args : Array Value} {below : List Frame} {meth : Method} {c : Code} {K : zK} {r : Int} {F9 : zF} {B9 : zB} (X : zX D ca L aS vS A p s m args meth c prog_11_method_9_code 10 (Option.some Jvm.ClassFile.FieldType.boolean) "StaveHouse$Study") {l0 : Int} {l1 : Int} {l2 : Int} {l3 : Int} {s0 : Int} {F : zF} {B : zB} {H : Heap} {locs : List Loc} {ls : Array Slot} (hf : f_Study_isFaultOfTwo_47 K l0 l1 l2 l3 s0 F B = some (r, F9, B9)) (hZ : zH D ca ad lnC K.2 L F B A H) (hS : va_S A s.heap H locs) (hl : lv_has ls 10 [(0, .ref (ad 9 l0 0)), (1, .int (iI l1)), (2, .int (iI l2)), (3, .int (iI l3))]) : W p l e ({ frames := 2, cells := 0, slots := 0, locals := 48 } : Room) s m args below meth c H locs 0 0 (MQ below (Q_Study_isFaultOfTwo K D ca ad L r F9 B9 A) args s 0 0 A) (F0 m 47 ls [.int (iI s0)]) := by
  obtain ⟨hx, hb, hr, hml, hown, hts, hlk, hK, hA, hL, hX⟩ := id X
  replace hf : (if r32 l1 then (if l1 = 4 then if 0 ≤ l0 ∧ l0 < K.2 9 then if 0 ≤ l3 ∧ l3 < 4 then if 0 ≤ l2 ∧ l2 < 4 then if r32 (B 9 l0 6 l3) then if r32 (B 9 l0 6 l2) then (if (B 9 l0 6 l3) ≤ (B 9 l0 6 l2) then f_Study_isFaultOfTwo_93 K F B else if r32 s0 then (if s0 = 0 then f_Study_isFaultOfTwo_89 K F B else if r32 (B 9 l0 8 l3) then if r32 (B 9 l0 8 l2) then (if (B 9 l0 8 l2) < (B 9 l0 8 l3) then f_Study_isFaultOfTwo_93 K F B else f_Study_isFaultOfTwo_89 K F B) else none else none) else none) else none else none else none else none else none else if 0 ≤ l0 ∧ l0 < K.2 9 then if 0 ≤ l2 ∧ l2 < 4 then if r32 (B 9 l0 6 l2) then if r32 (B 9 l0 8 l2) then (if (B 9 l0 6 l2) ≤ (B 9 l0 8 l2) then f_Study_isFaultOfTwo_129 K s0 l0 l1 l2 l3 F B else if 0 ≤ l3 ∧ l3 < 4 then if r32 (B 9 l0 6 l3) then if r32 (B 9 l0 8 l3) then (if (B 9 l0 6 l3) ≤ (B 9 l0 8 l3) then f_Study_isFaultOfTwo_129 K s0 l0 l1 l2 l3 F B else f_Study_isFaultOfTwo_130 K s0 l0 l1 l2 l3 1 F B) else none else none else none) else none else none else none else none) else none) = some (r, F9, B9) := hf
  refine lv_istore (lv' := [(4, .int (iI s0)), (0, .ref (ad 9 l0 0)), (1, .int (iI l1)), (2, .int (iI l2)), (3, .int (iI l3))]) hx hb d_11_9_47 hl (by decide) rfl (fun ls hl => ?_)
  refine lv_iload_n hx hb d_11_9_49 rfl (lv_at hl 2 rfl) ?_
  refine lv_iconst (v := iI 4) hx hb d_11_9_50 rfl ?_
  obtain ⟨g12, hf⟩ := gif hf
  refine zne (tgt := 95) hx hb g12 (by decide) d_11_9_51 (by decide) (fun h13 => ?_) (fun h13 => ?_)
  · replace hf := gneg hf h13
    refine lv_aload_n hx hb d_11_9_95 rfl (lv_at hl 1 rfl) ?_
    obtain ⟨g14, hf⟩ := gif hf
    refine zget (ci := 9) (C := RX9) (T := TX9) (v := .ref (ad 9 l0 (6 + 1))) (k := 6) hx hb hts inW_9 hown hK hZ g14.1 g14.2 rfl (by decide) k_5_207 rfl d_11_9_96 ?_
    refine lv_iload_n hx hb d_11_9_99 rfl (lv_at hl 3 rfl) ?_
    obtain ⟨g15, hf⟩ := gif hf
    refine zald (ci := 9) (k := 6) hx hb hK rfl hZ g14.1 g14.2 rfl (Nat.le_of_ble_eq_true rfl) g15.1 g15.2 d_11_9_100 ?_
    refine lv_aload_n hx hb d_11_9_101 rfl (lv_at hl 1 rfl) ?_
    refine zget (ci := 9) (C := RX9) (T := TX9) (v := .ref (ad 9 l0 (8 + 1))) (k := 8) hx hb hts inW_9 hown hK hZ g14.1 g14.2 rfl (by decide) k_5_209 rfl d_11_9_102 ?_
    refine lv_iload_n hx hb d_11_9_105 rfl (lv_at hl 3 rfl) ?_
    refine zald (ci := 9) (k := 8) hx hb hK rfl hZ g14.1 g14.2 rfl (Nat.le_of_ble_eq_true rfl) g15.1 g15.2 d_11_9_106 ?_
    obtain ⟨g16, hf⟩ := gif hf
    obtain ⟨g17, hf⟩ := gif hf
    refine zle (tgt := 129) hx hb g16 g17 d_11_9_107 (by decide) (fun h18 => ?_) (fun h18 => ?_)
    · replace hf := gpos hf h18
      exact b_Study_isFaultOfTwo_129 X hf hZ hS (lv_sub hl [0, 1, 2, 3, 4] rfl)
    · replace hf := gneg hf h18
      refine lv_aload_n hx hb d_11_9_110 rfl (lv_at hl 1 rfl) ?_
      refine zget (ci := 9) (C := RX9) (T := TX9) (v := .ref (ad 9 l0 (6 + 1))) (k := 6) hx hb hts inW_9 hown hK hZ g14.1 g14.2 rfl (by decide) k_5_207 rfl d_11_9_111 ?_
      refine lv_iload_n hx hb d_11_9_114 rfl (lv_at hl 4 rfl) ?_
      obtain ⟨g19, hf⟩ := gif hf
      refine zald (ci := 9) (k := 6) hx hb hK rfl hZ g14.1 g14.2 rfl (Nat.le_of_ble_eq_true rfl) g19.1 g19.2 d_11_9_115 ?_
      refine lv_aload_n hx hb d_11_9_116 rfl (lv_at hl 1 rfl) ?_
      refine zget (ci := 9) (C := RX9) (T := TX9) (v := .ref (ad 9 l0 (8 + 1))) (k := 8) hx hb hts inW_9 hown hK hZ g14.1 g14.2 rfl (by decide) k_5_209 rfl d_11_9_117 ?_
      refine lv_iload_n hx hb d_11_9_120 rfl (lv_at hl 4 rfl) ?_
      refine zald (ci := 9) (k := 8) hx hb hK rfl hZ g14.1 g14.2 rfl (Nat.le_of_ble_eq_true rfl) g19.1 g19.2 d_11_9_121 ?_
      obtain ⟨g20, hf⟩ := gif hf
      obtain ⟨g21, hf⟩ := gif hf
      refine zle (tgt := 129) hx hb g20 g21 d_11_9_122 (by decide) (fun h22 => ?_) (fun h22 => ?_)
      · replace hf := gpos hf h22
        exact b_Study_isFaultOfTwo_129 X hf hZ hS (lv_sub hl [0, 1, 2, 3, 4] rfl)
      · replace hf := gneg hf h22
        refine lv_iconst (v := iI 1) hx hb d_11_9_125 rfl ?_
        refine lv_goto (tgt := 130) hx hb d_11_9_126 (by decide) ?_
        exact b_Study_isFaultOfTwo_130 X hf hZ hS (lv_sub hl [0, 1, 2, 3, 4] rfl)
  · replace hf := gpos hf h13
    refine lv_aload_n hx hb d_11_9_54 rfl (lv_at hl 1 rfl) ?_
    obtain ⟨g23, hf⟩ := gif hf
    refine zget (ci := 9) (C := RX9) (T := TX9) (v := .ref (ad 9 l0 (6 + 1))) (k := 6) hx hb hts inW_9 hown hK hZ g23.1 g23.2 rfl (by decide) k_5_207 rfl d_11_9_55 ?_
    refine lv_iload_n hx hb d_11_9_58 rfl (lv_at hl 4 rfl) ?_
    obtain ⟨g24, hf⟩ := gif hf
    refine zald (ci := 9) (k := 6) hx hb hK rfl hZ g23.1 g23.2 rfl (Nat.le_of_ble_eq_true rfl) g24.1 g24.2 d_11_9_59 ?_
    refine lv_aload_n hx hb d_11_9_60 rfl (lv_at hl 1 rfl) ?_
    refine zget (ci := 9) (C := RX9) (T := TX9) (v := .ref (ad 9 l0 (6 + 1))) (k := 6) hx hb hts inW_9 hown hK hZ g23.1 g23.2 rfl (by decide) k_5_207 rfl d_11_9_61 ?_
    refine lv_iload_n hx hb d_11_9_64 rfl (lv_at hl 3 rfl) ?_
    obtain ⟨g25, hf⟩ := gif hf
    refine zald (ci := 9) (k := 6) hx hb hK rfl hZ g23.1 g23.2 rfl (Nat.le_of_ble_eq_true rfl) g25.1 g25.2 d_11_9_65 ?_
    obtain ⟨g26, hf⟩ := gif hf
    obtain ⟨g27, hf⟩ := gif hf
    refine zle (tgt := 93) hx hb g26 g27 d_11_9_66 (by decide) (fun h28 => ?_) (fun h28 => ?_)
    · replace hf := gpos hf h28
      exact b_Study_isFaultOfTwo_93 X hf hZ hS (lv_sub hl [] rfl)
    · replace hf := gneg hf h28
      refine lv_iload hx hb d_11_9_69 (lv_at hl 0 rfl) ?_
      obtain ⟨g29, hf⟩ := gif hf
      refine z0eq (tgt := 89) hx hb g29 d_11_9_71 (by decide) (fun h30 => ?_) (fun h30 => ?_)
      · replace hf := gpos hf h30
        exact b_Study_isFaultOfTwo_89 X hf hZ hS (lv_sub hl [] rfl)
      · replace hf := gneg hf h30
        refine lv_aload_n hx hb d_11_9_74 rfl (lv_at hl 1 rfl) ?_
        refine zget (ci := 9) (C := RX9) (T := TX9) (v := .ref (ad 9 l0 (8 + 1))) (k := 8) hx hb hts inW_9 hown hK hZ g23.1 g23.2 rfl (by decide) k_5_209 rfl d_11_9_75 ?_
        refine lv_iload_n hx hb d_11_9_78 rfl (lv_at hl 4 rfl) ?_
        refine zald (ci := 9) (k := 8) hx hb hK rfl hZ g23.1 g23.2 rfl (Nat.le_of_ble_eq_true rfl) g24.1 g24.2 d_11_9_79 ?_
        refine lv_aload_n hx hb d_11_9_80 rfl (lv_at hl 1 rfl) ?_
        refine zget (ci := 9) (C := RX9) (T := TX9) (v := .ref (ad 9 l0 (8 + 1))) (k := 8) hx hb hts inW_9 hown hK hZ g23.1 g23.2 rfl (by decide) k_5_209 rfl d_11_9_81 ?_
        refine lv_iload_n hx hb d_11_9_84 rfl (lv_at hl 3 rfl) ?_
        refine zald (ci := 9) (k := 8) hx hb hK rfl hZ g23.1 g23.2 rfl (Nat.le_of_ble_eq_true rfl) g25.1 g25.2 d_11_9_85 ?_
        obtain ⟨g31, hf⟩ := gif hf
        obtain ⟨g33, hf⟩ := gif hf
        refine zgt (tgt := 93) hx hb g31 g33 d_11_9_86 (by decide) (fun h34 => ?_) (fun h34 => ?_)
        · replace hf := gpos hf h34
          exact b_Study_isFaultOfTwo_93 X hf hZ hS (lv_sub hl [] rfl)
        · replace hf := gneg hf h34
          exact b_Study_isFaultOfTwo_89 X hf hZ hS (lv_sub hl [] rfl)

noncomputable def f_Study_isFaultOfTwo_46 (K : zK) (l0 : Int) (l1 : Int) (l2 : Int) (l3 : Int) (F : zF) (B : zB) : zO := f_Study_isFaultOfTwo_47 K l0 l1 l2 l3 0 F B
