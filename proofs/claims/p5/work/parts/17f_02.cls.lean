set_option maxHeartbeats 4000000 in
set_option maxRecDepth 100000 in
theorem c_Parser_takeUse {l : Launch} {D : va_G} {ca : Nat → ClassId} {ad : Nat → Int → Nat → Nat} {L : List Nat} {aS vS : Nat → Nat} {sz : Nat} {K : zK}  {l0 : Int} {l1 : Int} {F F9 : zF} {B B9 : zB} {r : Int} (hf : f_Parser_takeUse K l0 l1 F B = some (r, F9, B9)) : Met l ({ cls := "StaveHouse$Parser", name := "takeUse", desc := "(I)Z" } : Jvm.MethodName) (Cond.code ({ cls := "StaveHouse$Parser", name := "takeUse", desc := "(I)Z" } : Jvm.MethodName) prog_5_method_33_code 3 (Option.some Jvm.ClassFile.FieldType.boolean) :: wAll) ({ frames := 2, cells := 0, slots := 0, locals := 45 } : Room) (va_Pc [.ref (ad 3 l0 0), .int (iI l1)] (zPre D ca ad lnC K.2 L aS vS F B sz)) (Q_Parser_takeUse K D ca ad L r F9 B9 (zA L sz)) 0 0 (zA L sz) := by
  refine zMet (Qc := Q_Parser_takeUse K D ca ad L r F9 B9) (lv := [(0, .ref (ad 3 l0 0)), (1, .int (iI l1))]) (by decide) (Nat.le_of_ble_eq_true rfl) rfl (fun A p e s m below meth c ls X hZ hS hl => ?_)
  obtain ⟨hx, hb, hr, hml, hown, hts, hlk, hK, hA, hL, hX⟩ := id X
  replace hf : (if 0 ≤ l0 ∧ l0 < K.2 3 then zbind (f_Parser_isName K l0 F B) (fun r2 F2 B2 => if r32 r2 then (if r2 = 0 then zbind (f_Parser_refuse K l0 2 F2 B2) (fun r15 F15 B15 => if (r15 = 0 ∨ r15 = 1) then some (r15, F15, B15) else none) else if 0 ≤ (F2 3 l0 11) ∧ (F2 3 l0 11) < K.2 10 then zbind (f_Parser_letNamed K l0 (F2 10 (F2 3 l0 11) 2) F2 B2) (fun r6 F6 B6 => if r32 r6 then (if r6 = (-1) then zbind (f_Parser_refuse K l0 4 F6 B6) (fun r13 F13 B13 => if (r13 = 0 ∨ r13 = 1) then some (r13, F13, B13) else none) else if 0 ≤ l1 ∧ l1 < 3000 then if 0 ≤ (F6 3 l0 11) ∧ (F6 3 l0 11) < K.2 10 then zbind (f_Tokens_advance K (F6 3 l0 11) F6 (zup4 B6 3 l0 2 l1 r6)) (fun r12 F12 B12 => some (1, F12, B12)) else none else none) else none) else none) else none) else none) = some (r, F9, B9) := hf
  refine lv_aload_n hx hb d_5_33_0 rfl (lv_at hl 0 rfl) ?_
  obtain ⟨g1, hf⟩ := gif hf
  obtain ⟨r2, F2, B2, hc2, hf⟩ := gbind hf
  refine va_calli (va_runV (As := []) (rest := []) ⟨hx, hb, hml, hown, hts⟩ (c_Parser_isName (l := l) hc2) (cwV 0 hts (gdV k_3_181 k_3_183 ks_6 k_1_4 k_3_184) rfl rfl rfl (by decide +kernel) ⟨Nat.le_of_ble_eq_true rfl, Nat.le_of_ble_eq_true rfl⟩) (zPV X hZ hS (ci := 3) g1.1 g1.2 (r := (RX3, TX3, 22)) rfl []) rfl rfl hl.1 rfl (lv_room (Nat.le_of_ble_eq_true rfl)) d_5_33_1 ⟨Nat.le_of_ble_eq_true rfl, Nat.le_of_ble_eq_true rfl⟩) hS (fun q _ h => zAin X hS q h) (zAin X hS) (fun p2 u2 t2 H2 locs2 ht2 hv2 hw2 hB2 hz2 hk2 hS2 => ?_)
  have hZ2 := zBack X ht2 hB2
  subst hw2
  obtain ⟨g3, hf⟩ := gif hf
  refine z0ne (tgt := 13) hx hb g3 d_5_33_4 (by decide) (fun h4 => ?_) (fun h4 => ?_)
  · replace hf := gneg hf h4
    refine lv_aload_n hx hb d_5_33_13 rfl (lv_at hl 0 rfl) ?_
    refine lv_aload_n hx hb d_5_33_14 rfl (lv_at hl 0 rfl) ?_
    refine zget (ci := 3) (C := RX3) (T := TX3) (v := va_rf (zrf ad 10 (F2 3 l0 11))) (k := 11) hx hb hts inW_3 hown hK hZ2 g1.1 g1.2 rfl (by decide) k_1_128 rfl d_5_33_15 ?_
    obtain ⟨g5, hf⟩ := gif hf
    refine zunrf g5.1 ?_
    refine zget (ci := 10) (C := RX10) (T := TX10) (v := .long (lI (F2 10 (F2 3 l0 11) 2))) (k := 2) hx hb hts inW_10 hown hK hZ2 g5.1 g5.2 rfl (by decide) k_1_77 rfl d_5_33_18 ?_
    obtain ⟨r6, F6, B6, hc6, hf⟩ := gbind hf
    refine va_calli (va_runV (As := [.long (lI (F2 10 (F2 3 l0 11) 2))]) (rest := []) ⟨hx, hb, hml, hown, hts⟩ (c_Parser_letNamed (l := l) hc6) (cwV 1 hts (gdV k_3_200 k_3_202 ks_8 k_1_4 k_3_203) rfl rfl rfl (by decide +kernel) ⟨Nat.le_of_ble_eq_true rfl, Nat.le_of_ble_eq_true rfl⟩) (zPV X hZ2 hS2 (ci := 3) g1.1 g1.2 (r := (RX3, TX3, 22)) rfl [.long (lI (F2 10 (F2 3 l0 11) 2))]) rfl rfl hl.1 rfl (lv_room (Nat.le_of_ble_eq_true rfl)) d_5_33_21 ⟨Nat.le_of_ble_eq_true rfl, Nat.le_of_ble_eq_true rfl⟩) hS2 (fun q _ h => zAin X hS2 q h) (zAin X hS2) (fun p6 u6 t6 H6 locs6 ht6 hv6 hw6 hB6 hz6 hk6 hS6 => ?_)
    have hZ6 := zBack X ht6 hB6
    subst hw6
    refine lv_istore_n (lv' := [(2, .int (iI r6)), (0, .ref (ad 3 l0 0)), (1, .int (iI l1))]) hx hb d_5_33_24 rfl hl (by decide) rfl (fun ls hl => ?_)
    refine lv_iload_n hx hb d_5_33_25 rfl (lv_at hl 0 rfl) ?_
    refine lv_iconst (v := iI (-1)) hx hb d_5_33_26 rfl ?_
    obtain ⟨g7, hf⟩ := gif hf
    refine zne (tgt := 36) hx hb g7 (by decide) d_5_33_27 (by decide) (fun h8 => ?_) (fun h8 => ?_)
    · replace hf := gneg hf h8
      refine lv_aload_n hx hb d_5_33_36 rfl (lv_at hl 1 rfl) ?_
      refine zget (ci := 3) (C := RX3) (T := TX3) (v := .ref (ad 3 l0 (2 + 1))) (k := 2) hx hb hts inW_3 hown hK hZ6 g1.1 g1.2 rfl (by decide) k_1_110 rfl d_5_33_37 ?_
      refine lv_iload_n hx hb d_5_33_40 rfl (lv_at hl 2 rfl) ?_
      refine lv_iload_n hx hb d_5_33_41 rfl (lv_at hl 0 rfl) ?_
      obtain ⟨g9, hf⟩ := gif hf
      refine zast (ci := 3) (k := 2) hx hb hK rfl hZ6 hS6 g1.1 g1.2 rfl (Nat.le_of_ble_eq_true rfl) g9.1 g9.2 d_5_33_42 (fun H10 locs10 hZ10 hS10 => ?_)
      refine lv_aload_n hx hb d_5_33_43 rfl (lv_at hl 1 rfl) ?_
      refine zget (ci := 3) (C := RX3) (T := TX3) (v := va_rf (zrf ad 10 (F6 3 l0 11))) (k := 11) hx hb hts inW_3 hown hK hZ10 g1.1 g1.2 rfl (by decide) k_1_128 rfl d_5_33_44 ?_
      obtain ⟨g11, hf⟩ := gif hf
      refine W.eq (g2 := F0 m 47 ls [.ref (ad 10 (F6 3 l0 11) 0)]) (by rw [zrf_pos (ad := ad) (t := 10) g11.1]; try rfl) ?_
      obtain ⟨r12, F12, B12, hc12, hf⟩ := gbind hf
      refine va_callv (va_runV (As := []) (rest := []) ⟨hx, hb, hml, hown, hts⟩ (c_Tokens_advance (l := l) hc12) (cwV 0 hts (gdV k_3_180 k_3_152 k_3_153 k_1_5 k_3_154) rfl rfl rfl (by decide +kernel) ⟨Nat.le_of_ble_eq_true rfl, Nat.le_of_ble_eq_true rfl⟩) (zPV X hZ10 hS10 (ci := 10) g11.1 g11.2 (r := (RX10, TX10, 9)) rfl []) rfl rfl hl.1 rfl (lv_room (Nat.le_of_ble_eq_true rfl)) d_5_33_47 ⟨Nat.le_of_ble_eq_true rfl, Nat.le_of_ble_eq_true rfl⟩) hS10 (fun q _ h => zAin X hS10 q h) (zAin X hS10) (fun u12 t12 H12 locs12 ht12 hv12 hw12 hB12 hz12 hk12 hS12 => ?_)
      have hZ12 := zBack X ht12 hB12
      refine lv_iconst (v := iI 1) hx hb d_5_33_50 rfl ?_
      cases hf
      exact W.zret hx hb hr rfl (fun t ht hW => ⟨⟨_, (), rfl, rfl, by rw [ht]; exact hZ12, va_K.moved hW.alike hK⟩, hS12.F ht⟩) hS12.2.2 d_5_33_51 hlk
    · replace hf := gpos hf h8
      refine lv_aload_n hx hb d_5_33_30 rfl (lv_at hl 1 rfl) ?_
      refine lv_iconst (v := iI 4) hx hb d_5_33_31 rfl ?_
      obtain ⟨r13, F13, B13, hc13, hf⟩ := gbind hf
      refine va_calli (va_runV (As := [.int (iI 4)]) (rest := []) ⟨hx, hb, hml, hown, hts⟩ (c_Parser_refuse (l := l) hc13) (cwV 1 hts (gdV k_3_196 k_3_198 ks_7 k_1_4 k_3_199) rfl rfl rfl (by decide +kernel) ⟨Nat.le_of_ble_eq_true rfl, Nat.le_of_ble_eq_true rfl⟩) (zPV X hZ6 hS6 (ci := 3) g1.1 g1.2 (r := (RX3, TX3, 22)) rfl [.int (iI 4)]) rfl rfl hl.1 rfl (lv_room (Nat.le_of_ble_eq_true rfl)) d_5_33_32 ⟨Nat.le_of_ble_eq_true rfl, Nat.le_of_ble_eq_true rfl⟩) hS6 (fun q _ h => zAin X hS6 q h) (zAin X hS6) (fun p13 u13 t13 H13 locs13 ht13 hv13 hw13 hB13 hz13 hk13 hS13 => ?_)
      have hZ13 := zBack X ht13 hB13
      subst hw13
      obtain ⟨g14, hf⟩ := gif hf
      cases hf
      exact W.zret hx hb hr (zbool g14) (fun t ht hW => ⟨⟨_, (), rfl, rfl, by rw [ht]; exact hZ13, va_K.moved hW.alike hK⟩, hS13.F ht⟩) hS13.2.2 d_5_33_35 hlk
  · replace hf := gpos hf h4
    refine lv_aload_n hx hb d_5_33_7 rfl (lv_at hl 0 rfl) ?_
    refine lv_iconst (v := iI 2) hx hb d_5_33_8 rfl ?_
    obtain ⟨r15, F15, B15, hc15, hf⟩ := gbind hf
    refine va_calli (va_runV (As := [.int (iI 2)]) (rest := []) ⟨hx, hb, hml, hown, hts⟩ (c_Parser_refuse (l := l) hc15) (cwV 1 hts (gdV k_3_196 k_3_198 ks_7 k_1_4 k_3_199) rfl rfl rfl (by decide +kernel) ⟨Nat.le_of_ble_eq_true rfl, Nat.le_of_ble_eq_true rfl⟩) (zPV X hZ2 hS2 (ci := 3) g1.1 g1.2 (r := (RX3, TX3, 22)) rfl [.int (iI 2)]) rfl rfl hl.1 rfl (lv_room (Nat.le_of_ble_eq_true rfl)) d_5_33_9 ⟨Nat.le_of_ble_eq_true rfl, Nat.le_of_ble_eq_true rfl⟩) hS2 (fun q _ h => zAin X hS2 q h) (zAin X hS2) (fun p15 u15 t15 H15 locs15 ht15 hv15 hw15 hB15 hz15 hk15 hS15 => ?_)
    have hZ15 := zBack X ht15 hB15
    subst hw15
    obtain ⟨g16, hf⟩ := gif hf
    cases hf
    exact W.zret hx hb hr (zbool g16) (fun t ht hW => ⟨⟨_, (), rfl, rfl, by rw [ht]; exact hZ15, va_K.moved hW.alike hK⟩, hS15.F ht⟩) hS15.2.2 d_5_33_12 hlk

noncomputable abbrev Q_S_naturalTone (K : zK) (D : va_G) (ca : Nat → ClassId) (ad : Nat → Int → Nat → Nat) (L : List Nat) (r : Int) (F : zF) (B : zB) (A : Nat → Prop) : Array Value → State → Outcome → State → Prop := va_Qi (S := Unit) (fun p _ => p = iI r) (fun _ => zPo D ca ad lnC K.2 L F B A) A
noncomputable def f_S_naturalTone (K : zK) (l0 : Int) (F : zF) (B : zB) : zO := zbind (f_Math_floorDiv K l0 7 F B) (fun r1 F1 B1 => zbind (f_Math_floorMod K l0 7 F1 B1) (fun r2 F2 B2 => if 0 ≤ r2 ∧ r2 < ztl 5 then some ((12 * (r1 + 1)) + (ztv 5 r2), F2, B2) else none))
set_option maxHeartbeats 4000000 in
set_option maxRecDepth 100000 in
theorem c_S_naturalTone {l : Launch} {D : va_G} {ca : Nat → ClassId} {ad : Nat → Int → Nat → Nat} {L : List Nat} {aS vS : Nat → Nat} {sz : Nat} {K : zK}  {l0 : Int} {F F9 : zF} {B B9 : zB} {r : Int} (hf : f_S_naturalTone K l0 F B = some (r, F9, B9)) : Met l ({ cls := "StaveHouse", name := "naturalTone", desc := "(I)I" } : Jvm.MethodName) (Cond.code ({ cls := "StaveHouse", name := "naturalTone", desc := "(I)I" } : Jvm.MethodName) prog_1_method_37_code 1 (Option.some Jvm.ClassFile.FieldType.int) :: wAll) ({ frames := 1, cells := 0, slots := 0, locals := 22 } : Room) (va_Pc [.int (iI l0)] (zPre D ca ad lnC K.2 L aS vS F B sz)) (Q_S_naturalTone K D ca ad L r F9 B9 (zA L sz)) 0 0 (zA L sz) := by
  refine zMet (Qc := Q_S_naturalTone K D ca ad L r F9 B9) (lv := [(0, .int (iI l0))]) (by decide) (Nat.le_of_ble_eq_true rfl) rfl (fun A p e s m below meth c ls X hZ hS hl => ?_)
  obtain ⟨hx, hb, hr, hml, hown, hts, hlk, hK, hA, hL, hX⟩ := id X
  replace hf : (zbind (f_Math_floorDiv K l0 7 F B) (fun r1 F1 B1 => zbind (f_Math_floorMod K l0 7 F1 B1) (fun r2 F2 B2 => if 0 ≤ r2 ∧ r2 < ztl 5 then some ((12 * (r1 + 1)) + (ztv 5 r2), F2, B2) else none))) = some (r, F9, B9) := hf
  refine lv_bipush (v := iI 12) hx hb d_1_37_0 (by decide) ?_
  refine lv_iload_n hx hb d_1_37_2 rfl (lv_at hl 0 rfl) ?_
  refine lv_bipush (v := iI 7) hx hb d_1_37_3 (by decide) ?_
  obtain ⟨r1, F1, B1, hc1, hf⟩ := gbind hf
  refine va_calli (va_runS (As := [.int (iI l0), .int (iI 7)]) (rest := [.int (iI 12)]) ⟨hx, hb, hml, hown, hts⟩ (c_Math_floorDiv (l := l) hc1) (va_cwS 2 hts (gdS k_4_65 k_4_66 k_1_3 k_4_67) rfl rfl rfl (by decide +kernel) ⟨Nat.le_of_ble_eq_true rfl, Nat.le_of_ble_eq_true rfl⟩) (zPS X hZ hS [.int (iI l0), .int (iI 7)]) rfl rfl hl.1 rfl (lv_room (Nat.le_of_ble_eq_true rfl)) d_1_37_5 ⟨Nat.le_of_ble_eq_true rfl, Nat.le_of_ble_eq_true rfl⟩) hS (fun q _ h => zAin X hS q h) (zAin X hS) (fun p1 u1 t1 H1 locs1 ht1 hv1 hw1 hB1 hz1 hk1 hS1 => ?_)
  have hZ1 := zBack X ht1 hB1
  subst hw1
  refine lv_iconst (v := iI 1) hx hb d_1_37_8 rfl ?_
  refine zadd hx hb d_1_37_9 ?_
  refine zmul hx hb d_1_37_10 ?_
  refine va_gets hx hb (hX.2.2.2.2.2.2 5 _ rfl).1 hS1 hown (hts _ k_4_68) (fun _ h => h) d_1_37_11 ?_
  refine W.eq (g2 := F0 m 14 ls [.ref (vS (1000 + 5)), .int (iI (12 * (r1 + 1)))]) rfl ?_
  refine lv_iload_n hx hb d_1_37_14 rfl (lv_at hl 0 rfl) ?_
  refine lv_bipush (v := iI 7) hx hb d_1_37_15 (by decide) ?_
  obtain ⟨r2, F2, B2, hc2, hf⟩ := gbind hf
  refine va_calli (va_runS (As := [.int (iI l0), .int (iI 7)]) (rest := [.ref (vS (1000 + 5)), .int (iI (12 * (r1 + 1)))]) ⟨hx, hb, hml, hown, hts⟩ (c_Math_floorMod (l := l) hc2) (va_cwS 2 hts (gdS k_4_70 k_4_71 k_1_3 k_4_72) rfl rfl rfl (by decide +kernel) ⟨Nat.le_of_ble_eq_true rfl, Nat.le_of_ble_eq_true rfl⟩) (zPS X hZ1 hS1 [.int (iI l0), .int (iI 7)]) rfl rfl hl.1 rfl (lv_room (Nat.le_of_ble_eq_true rfl)) d_1_37_17 ⟨Nat.le_of_ble_eq_true rfl, Nat.le_of_ble_eq_true rfl⟩) hS1 (fun q _ h => zAin X hS1 q h) (zAin X hS1) (fun p2 u2 t2 H2 locs2 ht2 hv2 hw2 hB2 hz2 hk2 hS2 => ?_)
  have hZ2 := zBack X ht2 hB2
  subst hw2
  obtain ⟨g3, hf⟩ := gif hf
  refine va_ti (v := .int (iI (ztv 5 r2))) hx hb (ztI hX (by decide) (by decide)) hS2 (zt_in (by decide) g3) (ztI_v (by decide) g3) d_1_37_20 ?_
  refine zadd hx hb d_1_37_21 ?_
  cases hf
  exact W.iret hx hb hr (fun t ht hW => ⟨⟨_, (), rfl, rfl, by rw [ht]; exact hZ2, va_K.moved hW.alike hK⟩, hS2.F ht⟩) hS2.2.2 d_1_37_22 hlk

noncomputable abbrev Q_Parser_takeKey (K : zK) (D : va_G) (ca : Nat → ClassId) (ad : Nat → Int → Nat → Nat) (L : List Nat) (r : Int) (F : zF) (B : zB) (A : Nat → Prop) : Array Value → State → Outcome → State → Prop := va_Qi (S := Unit) (fun p _ => p = iI r) (fun _ => zPo D ca ad lnC K.2 L F B A) A
noncomputable def f_Parser_takeKey_108 (K : zK) (l0 : Int) (F : zF) (B : zB) : zO := if 0 ≤ l0 ∧ l0 < K.2 3 then if 0 ≤ (F 3 l0 11) ∧ (F 3 l0 11) < K.2 10 then zbind (f_Tokens_advance K (F 3 l0 11) F B) (fun r41 F41 B41 => some (1, F41, B41)) else none else none
set_option maxHeartbeats 4000000 in
set_option maxRecDepth 100000 in
theorem b_Parser_takeKey_108 {D : va_G} {ca : Nat → ClassId} {ad : Nat → Int → Nat → Nat} {L : List Nat} {aS vS : Nat → Nat} {A : Nat → Prop} {p : Program} {l : Launch} {e : Env} {s : State} {m : MethodId} {args : Array Value} {below : List Frame} {meth : Method} {c : Code} {K : zK} {r : Int} {F9 : zF} {B9 : zB} (X : zX D ca L aS vS A p s m args meth c prog_5_method_8_code 3 (Option.some Jvm.ClassFile.FieldType.boolean) "StaveHouse$Parser") {l0 : Int} {F : zF} {B : zB} {H : Heap} {locs : List Loc} {ls : Array Slot} (hf : f_Parser_takeKey_108 K l0 F B = some (r, F9, B9)) (hZ : zH D ca ad lnC K.2 L F B A H) (hS : va_S A s.heap H locs) (hl : lv_has ls 3 [(0, .ref (ad 3 l0 0))]) : W p l e ({ frames := 2, cells := 0, slots := 0, locals := 45 } : Room) s m args below meth c H locs 0 0 (MQ below (Q_Parser_takeKey K D ca ad L r F9 B9 A) args s 0 0 A) (F0 m 108 ls []) := by
  obtain ⟨hx, hb, hr, hml, hown, hts, hlk, hK, hA, hL, hX⟩ := id X
  replace hf : (if 0 ≤ l0 ∧ l0 < K.2 3 then if 0 ≤ (F 3 l0 11) ∧ (F 3 l0 11) < K.2 10 then zbind (f_Tokens_advance K (F 3 l0 11) F B) (fun r41 F41 B41 => some (1, F41, B41)) else none else none) = some (r, F9, B9) := hf
  refine lv_aload_n hx hb d_5_8_108 rfl (lv_at hl 0 rfl) ?_
  obtain ⟨g39, hf⟩ := gif hf
  refine zget (ci := 3) (C := RX3) (T := TX3) (v := va_rf (zrf ad 10 (F 3 l0 11))) (k := 11) hx hb hts inW_3 hown hK hZ g39.1 g39.2 rfl (by decide) k_1_128 rfl d_5_8_109 ?_
  obtain ⟨g40, hf⟩ := gif hf
  refine W.eq (g2 := F0 m 112 ls [.ref (ad 10 (F 3 l0 11) 0)]) (by rw [zrf_pos (ad := ad) (t := 10) g40.1]; try rfl) ?_
  obtain ⟨r41, F41, B41, hc41, hf⟩ := gbind hf
  refine va_callv (va_runV (As := []) (rest := []) ⟨hx, hb, hml, hown, hts⟩ (c_Tokens_advance (l := l) hc41) (cwV 0 hts (gdV k_3_180 k_3_152 k_3_153 k_1_5 k_3_154) rfl rfl rfl (by decide +kernel) ⟨Nat.le_of_ble_eq_true rfl, Nat.le_of_ble_eq_true rfl⟩) (zPV X hZ hS (ci := 10) g40.1 g40.2 (r := (RX10, TX10, 9)) rfl []) rfl rfl hl.1 rfl (lv_room (Nat.le_of_ble_eq_true rfl)) d_5_8_112 ⟨Nat.le_of_ble_eq_true rfl, Nat.le_of_ble_eq_true rfl⟩) hS (fun q _ h => zAin X hS q h) (zAin X hS) (fun u41 t41 H41 locs41 ht41 hv41 hw41 hB41 hz41 hk41 hS41 => ?_)
  have hZ41 := zBack X ht41 hB41
  refine lv_iconst (v := iI 1) hx hb d_5_8_115 rfl ?_
  cases hf
  exact W.zret hx hb hr rfl (fun t ht hW => ⟨⟨_, (), rfl, rfl, by rw [ht]; exact hZ41, va_K.moved hW.alike hK⟩, hS41.F ht⟩) hS41.2.2 d_5_8_116 hlk

noncomputable def f_Parser_takeKey_73 (K : zK) (l0 : Int) (s0 : Int) (s1 : Int) (F : zF) (B : zB) : zO := if 0 ≤ s0 ∧ s0 < K.2 6 then if 0 ≤ l0 ∧ l0 < K.2 3 then if 0 ≤ (F 3 l0 11) ∧ (F 3 l0 11) < K.2 10 then zbind (f_Tokens_isWord K (F 3 l0 11) 469920280434 (zup3 F 6 s0 3 s1) B) (fun r29 F29 B29 => if r32 r29 then (if r29 = 0 then if 0 ≤ (F29 3 l0 11) ∧ (F29 3 l0 11) < K.2 10 then zbind (f_Tokens_isWord K (F29 3 l0 11) 469785800562 F29 B29) (fun r34 F34 B34 => if r32 r34 then (if r34 = 0 then zbind (f_Parser_refuse K l0 2 F34 B34) (fun r37 F37 B37 => if (r37 = 0 ∨ r37 = 1) then some (r37, F37, B37) else none) else f_Parser_takeKey_108 K l0 F34 B34) else none) else none else f_Parser_takeKey_108 K l0 F29 B29) else none) else none else none else none
set_option maxHeartbeats 4000000 in
set_option maxRecDepth 100000 in
theorem b_Parser_takeKey_73 {D : va_G} {ca : Nat → ClassId} {ad : Nat → Int → Nat → Nat} {L : List Nat} {aS vS : Nat → Nat} {A : Nat → Prop} {p : Program} {l : Launch} {e : Env} {s : State} {m : MethodId} {args : Array Value} {below : List Frame} {meth : Method} {c : Code} {K : zK} {r : Int} {F9 : zF} {B9 : zB} (X : zX D ca L aS vS A p s m args meth c prog_5_method_8_code 3 (Option.some Jvm.ClassFile.FieldType.boolean) "StaveHouse$Parser") {l0 : Int} {s0 : Int} {s1 : Int} {F : zF} {B : zB} {H : Heap} {locs : List Loc} {ls : Array Slot} (hf : f_Parser_takeKey_73 K l0 s0 s1 F B = some (r, F9, B9)) (hZ : zH D ca ad lnC K.2 L F B A H) (hS : va_S A s.heap H locs) (hl : lv_has ls 3 [(0, .ref (ad 3 l0 0))]) : W p l e ({ frames := 2, cells := 0, slots := 0, locals := 45 } : Room) s m args below meth c H locs 0 0 (MQ below (Q_Parser_takeKey K D ca ad L r F9 B9 A) args s 0 0 A) (F0 m 73 ls [.int (iI s1), va_rf (zrf ad 6 s0)]) := by
  obtain ⟨hx, hb, hr, hml, hown, hts, hlk, hK, hA, hL, hX⟩ := id X
  replace hf : (if 0 ≤ s0 ∧ s0 < K.2 6 then if 0 ≤ l0 ∧ l0 < K.2 3 then if 0 ≤ (F 3 l0 11) ∧ (F 3 l0 11) < K.2 10 then zbind (f_Tokens_isWord K (F 3 l0 11) 469920280434 (zup3 F 6 s0 3 s1) B) (fun r29 F29 B29 => if r32 r29 then (if r29 = 0 then if 0 ≤ (F29 3 l0 11) ∧ (F29 3 l0 11) < K.2 10 then zbind (f_Tokens_isWord K (F29 3 l0 11) 469785800562 F29 B29) (fun r34 F34 B34 => if r32 r34 then (if r34 = 0 then zbind (f_Parser_refuse K l0 2 F34 B34) (fun r37 F37 B37 => if (r37 = 0 ∨ r37 = 1) then some (r37, F37, B37) else none) else f_Parser_takeKey_108 K l0 F34 B34) else none) else none else f_Parser_takeKey_108 K l0 F29 B29) else none) else none else none else none) = some (r, F9, B9) := hf
  obtain ⟨g25, hf⟩ := gif hf
  refine W.eq (g2 := F0 m 73 ls [.int (iI s1), .ref (ad 6 s0 0)]) (by rw [zrf_pos (ad := ad) (t := 6) g25.1]; try rfl) ?_
  refine zput (ci := 6) (C := RX6) (T := TX6) (k := 3) (v := s1) (w := .int (iI s1)) hx hb hts inW_6 tyX6 tyX6_ok nmX6 hown hK hZ hS g25.1 g25.2 rfl (by decide) k_2_203 rfl (fun G h => congrArg (fun q => Value.int (iI q)) h) rfl rfl (zno (by decide)) d_5_8_73 (fun H26 locs26 hZ26 hS26 => ?_)
  refine lv_aload_n hx hb d_5_8_76 rfl (lv_at hl 0 rfl) ?_
  obtain ⟨g27, hf⟩ := gif hf
  refine zget (ci := 3) (C := RX3) (T := TX3) (v := va_rf (zrf ad 10 (F 3 l0 11))) (k := 11) hx hb hts inW_3 hown hK hZ26 g27.1 g27.2 rfl (by decide) k_1_128 (congrArg (fun q : Int => va_rf (zrf ad 10 q)) (show (zup3 F 6 s0 3 s1) 3 l0 11 = F 3 l0 11 by simp [zup3])) d_5_8_77 ?_
  refine lv_ldc2 hx hb hown (hts _ k_4_85) d_5_8_80 ?_
  refine W.eq (g2 := F0 m 83 ls [.long (lI 469920280434), va_rf (zrf ad 10 (F 3 l0 11))]) rfl ?_
  obtain ⟨g28, hf⟩ := gif hf
  refine W.eq (g2 := F0 m 83 ls [.long (lI 469920280434), .ref (ad 10 (F 3 l0 11) 0)]) (by rw [zrf_pos (ad := ad) (t := 10) g28.1]; try rfl) ?_
  obtain ⟨r29, F29, B29, hc29, hf⟩ := gbind hf
  refine va_calli (va_runV (As := [.long (lI 469920280434)]) (rest := []) ⟨hx, hb, hml, hown, hts⟩ (c_Tokens_isWord (l := l) hc29) (cwV 1 hts (gdV k_3_160 k_3_161 k_3_162 k_1_5 k_3_163) rfl rfl rfl (by decide +kernel) ⟨Nat.le_of_ble_eq_true rfl, Nat.le_of_ble_eq_true rfl⟩) (zPV X hZ26 hS26 (ci := 10) g28.1 g28.2 (r := (RX10, TX10, 9)) rfl [.long (lI 469920280434)]) rfl rfl hl.1 rfl (lv_room (Nat.le_of_ble_eq_true rfl)) d_5_8_83 ⟨Nat.le_of_ble_eq_true rfl, Nat.le_of_ble_eq_true rfl⟩) hS26 (fun q _ h => zAin X hS26 q h) (zAin X hS26) (fun p29 u29 t29 H29 locs29 ht29 hv29 hw29 hB29 hz29 hk29 hS29 => ?_)
  have hZ29 := zBack X ht29 hB29
  subst hw29
  obtain ⟨g30, hf⟩ := gif hf
  refine z0ne (tgt := 108) hx hb g30 d_5_8_86 (by decide) (fun h31 => ?_) (fun h31 => ?_)
  · replace hf := gneg hf h31
    exact b_Parser_takeKey_108 X hf hZ29 hS29 (lv_sub hl [0] rfl)
  · replace hf := gpos hf h31
    refine lv_aload_n hx hb d_5_8_89 rfl (lv_at hl 0 rfl) ?_
    refine zget (ci := 3) (C := RX3) (T := TX3) (v := va_rf (zrf ad 10 (F29 3 l0 11))) (k := 11) hx hb hts inW_3 hown hK hZ29 g27.1 g27.2 rfl (by decide) k_1_128 rfl d_5_8_90 ?_
    refine lv_ldc2 hx hb hown (hts _ k_4_86) d_5_8_93 ?_
    refine W.eq (g2 := F0 m 96 ls [.long (lI 469785800562), va_rf (zrf ad 10 (F29 3 l0 11))]) rfl ?_
    obtain ⟨g33, hf⟩ := gif hf
    refine W.eq (g2 := F0 m 96 ls [.long (lI 469785800562), .ref (ad 10 (F29 3 l0 11) 0)]) (by rw [zrf_pos (ad := ad) (t := 10) g33.1]; try rfl) ?_
    obtain ⟨r34, F34, B34, hc34, hf⟩ := gbind hf
    refine va_calli (va_runV (As := [.long (lI 469785800562)]) (rest := []) ⟨hx, hb, hml, hown, hts⟩ (c_Tokens_isWord (l := l) hc34) (cwV 1 hts (gdV k_3_160 k_3_161 k_3_162 k_1_5 k_3_163) rfl rfl rfl (by decide +kernel) ⟨Nat.le_of_ble_eq_true rfl, Nat.le_of_ble_eq_true rfl⟩) (zPV X hZ29 hS29 (ci := 10) g33.1 g33.2 (r := (RX10, TX10, 9)) rfl [.long (lI 469785800562)]) rfl rfl hl.1 rfl (lv_room (Nat.le_of_ble_eq_true rfl)) d_5_8_96 ⟨Nat.le_of_ble_eq_true rfl, Nat.le_of_ble_eq_true rfl⟩) hS29 (fun q _ h => zAin X hS29 q h) (zAin X hS29) (fun p34 u34 t34 H34 locs34 ht34 hv34 hw34 hB34 hz34 hk34 hS34 => ?_)
    have hZ34 := zBack X ht34 hB34
    subst hw34
    obtain ⟨g35, hf⟩ := gif hf
    refine z0ne (tgt := 108) hx hb g35 d_5_8_99 (by decide) (fun h36 => ?_) (fun h36 => ?_)
    · replace hf := gneg hf h36
      exact b_Parser_takeKey_108 X hf hZ34 hS34 (lv_sub hl [0] rfl)
    · replace hf := gpos hf h36
      refine lv_aload_n hx hb d_5_8_102 rfl (lv_at hl 0 rfl) ?_
      refine lv_iconst (v := iI 2) hx hb d_5_8_103 rfl ?_
      obtain ⟨r37, F37, B37, hc37, hf⟩ := gbind hf
      refine va_calli (va_runV (As := [.int (iI 2)]) (rest := []) ⟨hx, hb, hml, hown, hts⟩ (c_Parser_refuse (l := l) hc37) (cwV 1 hts (gdV k_3_196 k_3_198 ks_7 k_1_4 k_3_199) rfl rfl rfl (by decide +kernel) ⟨Nat.le_of_ble_eq_true rfl, Nat.le_of_ble_eq_true rfl⟩) (zPV X hZ34 hS34 (ci := 3) g27.1 g27.2 (r := (RX3, TX3, 22)) rfl [.int (iI 2)]) rfl rfl hl.1 rfl (lv_room (Nat.le_of_ble_eq_true rfl)) d_5_8_104 ⟨Nat.le_of_ble_eq_true rfl, Nat.le_of_ble_eq_true rfl⟩) hS34 (fun q _ h => zAin X hS34 q h) (zAin X hS34) (fun p37 u37 t37 H37 locs37 ht37 hv37 hw37 hB37 hz37 hk37 hS37 => ?_)
      have hZ37 := zBack X ht37 hB37
      subst hw37
      obtain ⟨g38, hf⟩ := gif hf
      cases hf
      exact W.zret hx hb hr (zbool g38) (fun t ht hW => ⟨⟨_, (), rfl, rfl, by rw [ht]; exact hZ37, va_K.moved hW.alike hK⟩, hS37.F ht⟩) hS37.2.2 d_5_8_107 hlk

noncomputable def f_Parser_takeKey_51 (K : zK) (l0 : Int) (l1 : Int) (s0 : Int) (s1 : Int) (F : zF) (B : zB) : zO := if 0 ≤ s0 ∧ s0 < K.2 6 then if 0 ≤ l0 ∧ l0 < K.2 3 then if 0 ≤ (F 3 l0 11) ∧ (F 3 l0 11) < K.2 10 then zbind (f_Tokens_isWord K (F 3 l0 11) 469920280434 (zup3 F 6 s0 2 s1) B) (fun r20 F20 B20 => if r32 r20 then (if r20 = 0 then if 0 ≤ l1 ∧ l1 < K.2 6 then f_Parser_takeKey_73 K l0 l1 0 F20 B20 else none else if 0 ≤ l1 ∧ l1 < K.2 6 then f_Parser_takeKey_73 K l0 l1 1 F20 B20 else none) else none) else none else none else none
set_option maxHeartbeats 4000000 in
set_option maxRecDepth 100000 in
theorem b_Parser_takeKey_51 {D : va_G} {ca : Nat → ClassId} {ad : Nat → Int → Nat → Nat} {L : List Nat} {aS vS : Nat → Nat} {A : Nat → Prop} {p : Program} {l : Launch} {e : Env} {s : State} {m : MethodId} {args : Array Value} {below : List Frame} {meth : Method} {c : Code} {K : zK} {r : Int} {F9 : zF} {B9 : zB} (X : zX D ca L aS vS A p s m args meth c prog_5_method_8_code 3 (Option.some Jvm.ClassFile.FieldType.boolean) "StaveHouse$Parser") {l0 : Int} {l1 : Int} {s0 : Int} {s1 : Int} {F : zF} {B : zB} {H : Heap} {locs : List Loc} {ls : Array Slot} (hf : f_Parser_takeKey_51 K l0 l1 s0 s1 F B = some (r, F9, B9)) (hZ : zH D ca ad lnC K.2 L F B A H) (hS : va_S A s.heap H locs) (hl : lv_has ls 3 [(0, .ref (ad 3 l0 0)), (1, .ref (ad 6 l1 0))]) : W p l e ({ frames := 2, cells := 0, slots := 0, locals := 45 } : Room) s m args below meth c H locs 0 0 (MQ below (Q_Parser_takeKey K D ca ad L r F9 B9 A) args s 0 0 A) (F0 m 51 ls [.int (iI s1), va_rf (zrf ad 6 s0)]) := by
  obtain ⟨hx, hb, hr, hml, hown, hts, hlk, hK, hA, hL, hX⟩ := id X
  replace hf : (if 0 ≤ s0 ∧ s0 < K.2 6 then if 0 ≤ l0 ∧ l0 < K.2 3 then if 0 ≤ (F 3 l0 11) ∧ (F 3 l0 11) < K.2 10 then zbind (f_Tokens_isWord K (F 3 l0 11) 469920280434 (zup3 F 6 s0 2 s1) B) (fun r20 F20 B20 => if r32 r20 then (if r20 = 0 then if 0 ≤ l1 ∧ l1 < K.2 6 then f_Parser_takeKey_73 K l0 l1 0 F20 B20 else none else if 0 ≤ l1 ∧ l1 < K.2 6 then f_Parser_takeKey_73 K l0 l1 1 F20 B20 else none) else none) else none else none else none) = some (r, F9, B9) := hf
  obtain ⟨g16, hf⟩ := gif hf
  refine W.eq (g2 := F0 m 51 ls [.int (iI s1), .ref (ad 6 s0 0)]) (by rw [zrf_pos (ad := ad) (t := 6) g16.1]; try rfl) ?_
  refine zput (ci := 6) (C := RX6) (T := TX6) (k := 2) (v := s1) (w := .int (iI s1)) hx hb hts inW_6 tyX6 tyX6_ok nmX6 hown hK hZ hS g16.1 g16.2 rfl (by decide) k_2_197 rfl (fun G h => congrArg (fun q => Value.int (iI q)) h) rfl rfl (zno (by decide)) d_5_8_51 (fun H17 locs17 hZ17 hS17 => ?_)
  refine lv_aload_n hx hb d_5_8_54 rfl (lv_at hl 1 rfl) ?_
  refine lv_aload_n hx hb d_5_8_55 rfl (lv_at hl 0 rfl) ?_
  obtain ⟨g18, hf⟩ := gif hf
  refine zget (ci := 3) (C := RX3) (T := TX3) (v := va_rf (zrf ad 10 (F 3 l0 11))) (k := 11) hx hb hts inW_3 hown hK hZ17 g18.1 g18.2 rfl (by decide) k_1_128 (congrArg (fun q : Int => va_rf (zrf ad 10 q)) (show (zup3 F 6 s0 2 s1) 3 l0 11 = F 3 l0 11 by simp [zup3])) d_5_8_56 ?_
  refine lv_ldc2 hx hb hown (hts _ k_4_85) d_5_8_59 ?_
  refine W.eq (g2 := F0 m 62 ls [.long (lI 469920280434), va_rf (zrf ad 10 (F 3 l0 11)), .ref (ad 6 l1 0)]) rfl ?_
  obtain ⟨g19, hf⟩ := gif hf
  refine W.eq (g2 := F0 m 62 ls [.long (lI 469920280434), .ref (ad 10 (F 3 l0 11) 0), .ref (ad 6 l1 0)]) (by rw [zrf_pos (ad := ad) (t := 10) g19.1]; try rfl) ?_
  obtain ⟨r20, F20, B20, hc20, hf⟩ := gbind hf
  refine va_calli (va_runV (As := [.long (lI 469920280434)]) (rest := [.ref (ad 6 l1 0)]) ⟨hx, hb, hml, hown, hts⟩ (c_Tokens_isWord (l := l) hc20) (cwV 1 hts (gdV k_3_160 k_3_161 k_3_162 k_1_5 k_3_163) rfl rfl rfl (by decide +kernel) ⟨Nat.le_of_ble_eq_true rfl, Nat.le_of_ble_eq_true rfl⟩) (zPV X hZ17 hS17 (ci := 10) g19.1 g19.2 (r := (RX10, TX10, 9)) rfl [.long (lI 469920280434)]) rfl rfl hl.1 rfl (lv_room (Nat.le_of_ble_eq_true rfl)) d_5_8_62 ⟨Nat.le_of_ble_eq_true rfl, Nat.le_of_ble_eq_true rfl⟩) hS17 (fun q _ h => zAin X hS17 q h) (zAin X hS17) (fun p20 u20 t20 H20 locs20 ht20 hv20 hw20 hB20 hz20 hk20 hS20 => ?_)
  have hZ20 := zBack X ht20 hB20
  subst hw20
  obtain ⟨g21, hf⟩ := gif hf
  refine z0eq (tgt := 72) hx hb g21 d_5_8_65 (by decide) (fun h22 => ?_) (fun h22 => ?_)
  · replace hf := gpos hf h22
    refine lv_iconst (v := iI 0) hx hb d_5_8_72 rfl ?_
    obtain ⟨g23, hf⟩ := gif hf
    refine W.eq (g2 := F0 m 73 ls [.int (iI 0), va_rf (zrf ad 6 l1)]) (by rw [zrf_pos (ad := ad) (t := 6) g23.1]; try rfl) ?_
    exact b_Parser_takeKey_73 X hf hZ20 hS20 (lv_sub hl [0] rfl)
  · replace hf := gneg hf h22
    refine lv_iconst (v := iI 1) hx hb d_5_8_68 rfl ?_
    refine lv_goto (tgt := 73) hx hb d_5_8_69 (by decide) ?_
    obtain ⟨g24, hf⟩ := gif hf
    refine W.eq (g2 := F0 m 73 ls [.int (iI 1), va_rf (zrf ad 6 l1)]) (by rw [zrf_pos (ad := ad) (t := 6) g24.1]; try rfl) ?_
    exact b_Parser_takeKey_73 X hf hZ20 hS20 (lv_sub hl [0] rfl)

noncomputable def f_Parser_takeKey_21 (K : zK) (l2 : Int) (l0 : Int) (l1 : Int) (F : zF) (B : zB) : zO := if 0 ≤ l0 ∧ l0 < K.2 3 then zbind (f_Parser_takeNumber K l0 0 7 0 F B) (fun r9 F9 B9 => if r32 r9 then (if r9 = 0 then some (0, F9, B9) else if r32 l2 then (if l2 = 0 then if 0 ≤ l1 ∧ l1 < K.2 6 then f_Parser_takeKey_51 K l0 l1 l1 (F9 3 l0 19) F9 B9 else none else if 0 ≤ l1 ∧ l1 < K.2 6 then f_Parser_takeKey_51 K l0 l1 l1 (-(F9 3 l0 19)) F9 B9 else none) else none) else none) else none
set_option maxHeartbeats 4000000 in
set_option maxRecDepth 100000 in
theorem b_Parser_takeKey_21 {D : va_G} {ca : Nat → ClassId} {ad : Nat → Int → Nat → Nat} {L : List Nat} {aS vS : Nat → Nat} {A : Nat → Prop} {p : Program} {l : Launch} {e : Env} {s : State} {m : MethodId} {args : Array Value} {below : List Frame} {meth : Method} {c : Code} {K : zK} {r : Int} {F9 : zF} {B9 : zB} (X : zX D ca L aS vS A p s m args meth c prog_5_method_8_code 3 (Option.some Jvm.ClassFile.FieldType.boolean) "StaveHouse$Parser") {l2 : Int} {l0 : Int} {l1 : Int} {F : zF} {B : zB} {H : Heap} {locs : List Loc} {ls : Array Slot} (hf : f_Parser_takeKey_21 K l2 l0 l1 F B = some (r, F9, B9)) (hZ : zH D ca ad lnC K.2 L F B A H) (hS : va_S A s.heap H locs) (hl : lv_has ls 3 [(2, .int (iI l2)), (0, .ref (ad 3 l0 0)), (1, .ref (ad 6 l1 0))]) : W p l e ({ frames := 2, cells := 0, slots := 0, locals := 45 } : Room) s m args below meth c H locs 0 0 (MQ below (Q_Parser_takeKey K D ca ad L r F9 B9 A) args s 0 0 A) (F0 m 21 ls []) := by
  obtain ⟨hx, hb, hr, hml, hown, hts, hlk, hK, hA, hL, hX⟩ := id X
  replace hf : (if 0 ≤ l0 ∧ l0 < K.2 3 then zbind (f_Parser_takeNumber K l0 0 7 0 F B) (fun r9 F9 B9 => if r32 r9 then (if r9 = 0 then some (0, F9, B9) else if r32 l2 then (if l2 = 0 then if 0 ≤ l1 ∧ l1 < K.2 6 then f_Parser_takeKey_51 K l0 l1 l1 (F9 3 l0 19) F9 B9 else none else if 0 ≤ l1 ∧ l1 < K.2 6 then f_Parser_takeKey_51 K l0 l1 l1 (-(F9 3 l0 19)) F9 B9 else none) else none) else none) else none) = some (r, F9, B9) := hf
  refine lv_aload_n hx hb d_5_8_21 rfl (lv_at hl 1 rfl) ?_
  refine lv_iconst (v := iI 0) hx hb d_5_8_22 rfl ?_
  refine lv_bipush (v := iI 7) hx hb d_5_8_23 (by decide) ?_
  refine lv_iconst (v := iI 0) hx hb d_5_8_25 rfl ?_
  obtain ⟨g8, hf⟩ := gif hf
  obtain ⟨r9, F9, B9, hc9, hf⟩ := gbind hf
  refine va_calli (va_runV (As := [.int (iI 0), .int (iI 7), .int (iI 0)]) (rest := []) ⟨hx, hb, hml, hown, hts⟩ (c_Parser_takeNumber (l := l) hc9) (cwV 3 hts (gdV k_4_9 k_4_11 ks_19 k_1_4 k_4_12) rfl rfl rfl (by decide +kernel) ⟨Nat.le_of_ble_eq_true rfl, Nat.le_of_ble_eq_true rfl⟩) (zPV X hZ hS (ci := 3) g8.1 g8.2 (r := (RX3, TX3, 22)) rfl [.int (iI 0), .int (iI 7), .int (iI 0)]) rfl rfl hl.1 rfl (lv_room (Nat.le_of_ble_eq_true rfl)) d_5_8_26 ⟨Nat.le_of_ble_eq_true rfl, Nat.le_of_ble_eq_true rfl⟩) hS (fun q _ h => zAin X hS q h) (zAin X hS) (fun p9 u9 t9 H9 locs9 ht9 hv9 hw9 hB9 hz9 hk9 hS9 => ?_)
  have hZ9 := zBack X ht9 hB9
  subst hw9
  obtain ⟨g10, hf⟩ := gif hf
  refine z0ne (tgt := 34) hx hb g10 d_5_8_29 (by decide) (fun h11 => ?_) (fun h11 => ?_)
  · replace hf := gneg hf h11
    refine lv_aload_n hx hb d_5_8_34 rfl (lv_at hl 2 rfl) ?_
    refine lv_iload_n hx hb d_5_8_35 rfl (lv_at hl 0 rfl) ?_
    obtain ⟨g12, hf⟩ := gif hf
    refine z0eq (tgt := 47) hx hb g12 d_5_8_36 (by decide) (fun h13 => ?_) (fun h13 => ?_)
    · replace hf := gpos hf h13
      refine lv_aload_n hx hb d_5_8_47 rfl (lv_at hl 1 rfl) ?_
      refine zget (ci := 3) (C := RX3) (T := TX3) (v := .int (iI (F9 3 l0 19))) (k := 19) hx hb hts inW_3 hown hK hZ9 g8.1 g8.2 rfl (by decide) k_1_136 rfl d_5_8_48 ?_
      obtain ⟨g14, hf⟩ := gif hf
      refine W.eq (g2 := F0 m 51 ls [.int (iI (F9 3 l0 19)), va_rf (zrf ad 6 l1)]) (by rw [zrf_pos (ad := ad) (t := 6) g14.1]; try rfl) ?_
      exact b_Parser_takeKey_51 X hf hZ9 hS9 (lv_sub hl [1, 2] rfl)
    · replace hf := gneg hf h13
      refine lv_aload_n hx hb d_5_8_39 rfl (lv_at hl 1 rfl) ?_
      refine zget (ci := 3) (C := RX3) (T := TX3) (v := .int (iI (F9 3 l0 19))) (k := 19) hx hb hts inW_3 hown hK hZ9 g8.1 g8.2 rfl (by decide) k_1_136 rfl d_5_8_40 ?_
      refine zneg hx hb d_5_8_43 ?_
      refine lv_goto (tgt := 51) hx hb d_5_8_44 (by decide) ?_
      obtain ⟨g15, hf⟩ := gif hf
      refine W.eq (g2 := F0 m 51 ls [.int (iI (-(F9 3 l0 19))), va_rf (zrf ad 6 l1)]) (by rw [zrf_pos (ad := ad) (t := 6) g15.1]; try rfl) ?_
      exact b_Parser_takeKey_51 X hf hZ9 hS9 (lv_sub hl [1, 2] rfl)
  · replace hf := gpos hf h11
    refine lv_iconst (v := iI 0) hx hb d_5_8_32 rfl ?_
    cases hf
    exact W.zret hx hb hr rfl (fun t ht hW => ⟨⟨_, (), rfl, rfl, by rw [ht]; exact hZ9, va_K.moved hW.alike hK⟩, hS9.F ht⟩) hS9.2.2 d_5_8_33 hlk

noncomputable def f_Parser_takeKey (K : zK) (l0 : Int) (l1 : Int) (F : zF) (B : zB) : zO := if 0 ≤ l0 ∧ l0 < K.2 3 then if 0 ≤ (F 3 l0 11) ∧ (F 3 l0 11) < K.2 10 then zbind (f_Tokens_isSign K (F 3 l0 11) 45 F B) (fun r3 F3 B3 => if r32 r3 then (if r3 = 0 then f_Parser_takeKey_21 K r3 l0 l1 F3 B3 else if 0 ≤ (F3 3 l0 11) ∧ (F3 3 l0 11) < K.2 10 then zbind (f_Tokens_advance K (F3 3 l0 11) F3 B3) (fun r7 F7 B7 => f_Parser_takeKey_21 K r3 l0 l1 F7 B7) else none) else none) else none else none
set_option maxHeartbeats 4000000 in
set_option maxRecDepth 100000 in
theorem c_Parser_takeKey {l : Launch} {D : va_G} {ca : Nat → ClassId} {ad : Nat → Int → Nat → Nat} {L : List Nat} {aS vS : Nat → Nat} {sz : Nat} {K : zK}  {l0 : Int} {l1 : Int} {F F9 : zF} {B B9 : zB} {r : Int} (hf : f_Parser_takeKey K l0 l1 F B = some (r, F9, B9)) : Met l ({ cls := "StaveHouse$Parser", name := "takeKey", desc := "(LStaveHouse$Piece;)Z" } : Jvm.MethodName) (Cond.code ({ cls := "StaveHouse$Parser", name := "takeKey", desc := "(LStaveHouse$Piece;)Z" } : Jvm.MethodName) prog_5_method_8_code 3 (Option.some Jvm.ClassFile.FieldType.boolean) :: wAll) ({ frames := 2, cells := 0, slots := 0, locals := 45 } : Room) (va_Pc [.ref (ad 3 l0 0), .ref (ad 6 l1 0)] (zPre D ca ad lnC K.2 L aS vS F B sz)) (Q_Parser_takeKey K D ca ad L r F9 B9 (zA L sz)) 0 0 (zA L sz) := by
  refine zMet (Qc := Q_Parser_takeKey K D ca ad L r F9 B9) (lv := [(0, .ref (ad 3 l0 0)), (1, .ref (ad 6 l1 0))]) (by decide) (Nat.le_of_ble_eq_true rfl) rfl (fun A p e s m below meth c ls X hZ hS hl => ?_)
  obtain ⟨hx, hb, hr, hml, hown, hts, hlk, hK, hA, hL, hX⟩ := id X
  replace hf : (if 0 ≤ l0 ∧ l0 < K.2 3 then if 0 ≤ (F 3 l0 11) ∧ (F 3 l0 11) < K.2 10 then zbind (f_Tokens_isSign K (F 3 l0 11) 45 F B) (fun r3 F3 B3 => if r32 r3 then (if r3 = 0 then f_Parser_takeKey_21 K r3 l0 l1 F3 B3 else if 0 ≤ (F3 3 l0 11) ∧ (F3 3 l0 11) < K.2 10 then zbind (f_Tokens_advance K (F3 3 l0 11) F3 B3) (fun r7 F7 B7 => f_Parser_takeKey_21 K r3 l0 l1 F7 B7) else none) else none) else none else none) = some (r, F9, B9) := hf
  refine lv_aload_n hx hb d_5_8_0 rfl (lv_at hl 0 rfl) ?_
  obtain ⟨g1, hf⟩ := gif hf
  refine zget (ci := 3) (C := RX3) (T := TX3) (v := va_rf (zrf ad 10 (F 3 l0 11))) (k := 11) hx hb hts inW_3 hown hK hZ g1.1 g1.2 rfl (by decide) k_1_128 rfl d_5_8_1 ?_
  refine lv_bipush (v := iI 45) hx hb d_5_8_4 (by decide) ?_
  obtain ⟨g2, hf⟩ := gif hf
  refine W.eq (g2 := F0 m 6 ls [.int (iI 45), .ref (ad 10 (F 3 l0 11) 0)]) (by rw [zrf_pos (ad := ad) (t := 10) g2.1]; try rfl) ?_
  obtain ⟨r3, F3, B3, hc3, hf⟩ := gbind hf
  refine va_calli (va_runV (As := [.int (iI 45)]) (rest := []) ⟨hx, hb, hml, hown, hts⟩ (c_Tokens_isSign (l := l) hc3) (cwV 1 hts (gdV k_3_208 k_3_209 k_3_210 k_1_5 k_3_211) rfl rfl rfl (by decide +kernel) ⟨Nat.le_of_ble_eq_true rfl, Nat.le_of_ble_eq_true rfl⟩) (zPV X hZ hS (ci := 10) g2.1 g2.2 (r := (RX10, TX10, 9)) rfl [.int (iI 45)]) rfl rfl hl.1 rfl (lv_room (Nat.le_of_ble_eq_true rfl)) d_5_8_6 ⟨Nat.le_of_ble_eq_true rfl, Nat.le_of_ble_eq_true rfl⟩) hS (fun q _ h => zAin X hS q h) (zAin X hS) (fun p3 u3 t3 H3 locs3 ht3 hv3 hw3 hB3 hz3 hk3 hS3 => ?_)
  have hZ3 := zBack X ht3 hB3
  subst hw3
  refine lv_istore_n (lv' := [(2, .int (iI r3)), (0, .ref (ad 3 l0 0)), (1, .ref (ad 6 l1 0))]) hx hb d_5_8_9 rfl hl (by decide) rfl (fun ls hl => ?_)
  refine lv_iload_n hx hb d_5_8_10 rfl (lv_at hl 0 rfl) ?_
  obtain ⟨g4, hf⟩ := gif hf
  refine z0eq (tgt := 21) hx hb g4 d_5_8_11 (by decide) (fun h5 => ?_) (fun h5 => ?_)
  · replace hf := gpos hf h5
    exact b_Parser_takeKey_21 X hf hZ3 hS3 (lv_sub hl [0, 1, 2] rfl)
  · replace hf := gneg hf h5
    refine lv_aload_n hx hb d_5_8_14 rfl (lv_at hl 1 rfl) ?_
    refine zget (ci := 3) (C := RX3) (T := TX3) (v := va_rf (zrf ad 10 (F3 3 l0 11))) (k := 11) hx hb hts inW_3 hown hK hZ3 g1.1 g1.2 rfl (by decide) k_1_128 rfl d_5_8_15 ?_
    obtain ⟨g6, hf⟩ := gif hf
    refine W.eq (g2 := F0 m 18 ls [.ref (ad 10 (F3 3 l0 11) 0)]) (by rw [zrf_pos (ad := ad) (t := 10) g6.1]; try rfl) ?_
    obtain ⟨r7, F7, B7, hc7, hf⟩ := gbind hf
    refine va_callv (va_runV (As := []) (rest := []) ⟨hx, hb, hml, hown, hts⟩ (c_Tokens_advance (l := l) hc7) (cwV 0 hts (gdV k_3_180 k_3_152 k_3_153 k_1_5 k_3_154) rfl rfl rfl (by decide +kernel) ⟨Nat.le_of_ble_eq_true rfl, Nat.le_of_ble_eq_true rfl⟩) (zPV X hZ3 hS3 (ci := 10) g6.1 g6.2 (r := (RX10, TX10, 9)) rfl []) rfl rfl hl.1 rfl (lv_room (Nat.le_of_ble_eq_true rfl)) d_5_8_18 ⟨Nat.le_of_ble_eq_true rfl, Nat.le_of_ble_eq_true rfl⟩) hS3 (fun q _ h => zAin X hS3 q h) (zAin X hS3) (fun u7 t7 H7 locs7 ht7 hv7 hw7 hB7 hz7 hk7 hS7 => ?_)
    have hZ7 := zBack X ht7 hB7
    exact b_Parser_takeKey_21 X hf hZ7 hS7 (lv_sub hl [0, 1, 2] rfl)

noncomputable abbrev Q_Parser_takeTime (K : zK) (D : va_G) (ca : Nat → ClassId) (ad : Nat → Int → Nat → Nat) (L : List Nat) (r : Int) (F : zF) (B : zB) (A : Nat → Prop) : Array Value → State → Outcome → State → Prop := va_Qi (S := Unit) (fun p _ => p = iI r) (fun _ => zPo D ca ad lnC K.2 L F B A) A
noncomputable def f_Parser_takeTime_41 (K : zK)  (F : zF) (B : zB) : zO := some (0, F, B)
set_option maxHeartbeats 4000000 in
set_option maxRecDepth 100000 in
theorem b_Parser_takeTime_41 {D : va_G} {ca : Nat → ClassId} {ad : Nat → Int → Nat → Nat} {L : List Nat} {aS vS : Nat → Nat} {A : Nat → Prop} {p : Program} {l : Launch} {e : Env} {s : State} {m : MethodId} {args : Array Value} {below : List Frame} {meth : Method} {c : Code} {K : zK} {r : Int} {F9 : zF} {B9 : zB} (X : zX D ca L aS vS A p s m args meth c prog_5_method_7_code 2 (Option.some Jvm.ClassFile.FieldType.boolean) "StaveHouse$Parser")  {F : zF} {B : zB} {H : Heap} {locs : List Loc} {ls : Array Slot} (hf : f_Parser_takeTime_41 K  F B = some (r, F9, B9)) (hZ : zH D ca ad lnC K.2 L F B A H) (hS : va_S A s.heap H locs) (hl : lv_has ls 2 []) : W p l e ({ frames := 2, cells := 0, slots := 0, locals := 45 } : Room) s m args below meth c H locs 0 0 (MQ below (Q_Parser_takeTime K D ca ad L r F9 B9 A) args s 0 0 A) (F0 m 41 ls []) := by
  obtain ⟨hx, hb, hr, hml, hown, hts, hlk, hK, hA, hL, hX⟩ := id X
  replace hf : (some (0, F, B)) = some (r, F9, B9) := hf
  refine lv_iconst (v := iI 0) hx hb d_5_7_41 rfl ?_
  cases hf
  exact W.zret hx hb hr rfl (fun t ht hW => ⟨⟨_, (), rfl, rfl, by rw [ht]; exact hZ, va_K.moved hW.alike hK⟩, hS.F ht⟩) hS.2.2 d_5_7_42 hlk

noncomputable def f_Parser_takeTime (K : zK) (l0 : Int) (l1 : Int) (F : zF) (B : zB) : zO := if 0 ≤ l0 ∧ l0 < K.2 3 then zbind (f_Parser_takeNumber K l0 1 12 0 F B) (fun r2 F2 B2 => if r32 r2 then (if r2 = 0 then some (0, F2, B2) else if 0 ≤ l1 ∧ l1 < K.2 6 then zbind (f_Parser_takeSign K l0 47 (zup3 F2 6 l1 4 (F2 3 l0 19)) B2) (fun r7 F7 B7 => if r32 r7 then (if r7 = 0 then f_Parser_takeTime_41 K F7 B7 else zbind (f_Parser_takeNumber K l0 2 16 1 F7 B7) (fun r10 F10 B10 => if r32 r10 then (if r10 = 0 then f_Parser_takeTime_41 K F10 B10 else some (1, (zup3 F10 6 l1 5 (F10 3 l0 19)), B10)) else none)) else none) else none) else none) else none
set_option maxHeartbeats 4000000 in
set_option maxRecDepth 100000 in
theorem c_Parser_takeTime {l : Launch} {D : va_G} {ca : Nat → ClassId} {ad : Nat → Int → Nat → Nat} {L : List Nat} {aS vS : Nat → Nat} {sz : Nat} {K : zK}  {l0 : Int} {l1 : Int} {F F9 : zF} {B B9 : zB} {r : Int} (hf : f_Parser_takeTime K l0 l1 F B = some (r, F9, B9)) : Met l ({ cls := "StaveHouse$Parser", name := "takeTime", desc := "(LStaveHouse$Piece;)Z" } : Jvm.MethodName) (Cond.code ({ cls := "StaveHouse$Parser", name := "takeTime", desc := "(LStaveHouse$Piece;)Z" } : Jvm.MethodName) prog_5_method_7_code 2 (Option.some Jvm.ClassFile.FieldType.boolean) :: wAll) ({ frames := 2, cells := 0, slots := 0, locals := 45 } : Room) (va_Pc [.ref (ad 3 l0 0), .ref (ad 6 l1 0)] (zPre D ca ad lnC K.2 L aS vS F B sz)) (Q_Parser_takeTime K D ca ad L r F9 B9 (zA L sz)) 0 0 (zA L sz) := by
  refine zMet (Qc := Q_Parser_takeTime K D ca ad L r F9 B9) (lv := [(0, .ref (ad 3 l0 0)), (1, .ref (ad 6 l1 0))]) (by decide) (Nat.le_of_ble_eq_true rfl) rfl (fun A p e s m below meth c ls X hZ hS hl => ?_)
  obtain ⟨hx, hb, hr, hml, hown, hts, hlk, hK, hA, hL, hX⟩ := id X
  replace hf : (if 0 ≤ l0 ∧ l0 < K.2 3 then zbind (f_Parser_takeNumber K l0 1 12 0 F B) (fun r2 F2 B2 => if r32 r2 then (if r2 = 0 then some (0, F2, B2) else if 0 ≤ l1 ∧ l1 < K.2 6 then zbind (f_Parser_takeSign K l0 47 (zup3 F2 6 l1 4 (F2 3 l0 19)) B2) (fun r7 F7 B7 => if r32 r7 then (if r7 = 0 then f_Parser_takeTime_41 K F7 B7 else zbind (f_Parser_takeNumber K l0 2 16 1 F7 B7) (fun r10 F10 B10 => if r32 r10 then (if r10 = 0 then f_Parser_takeTime_41 K F10 B10 else some (1, (zup3 F10 6 l1 5 (F10 3 l0 19)), B10)) else none)) else none) else none) else none) else none) = some (r, F9, B9) := hf
  refine lv_aload_n hx hb d_5_7_0 rfl (lv_at hl 0 rfl) ?_
  refine lv_iconst (v := iI 1) hx hb d_5_7_1 rfl ?_
  refine lv_bipush (v := iI 12) hx hb d_5_7_2 (by decide) ?_
  refine lv_iconst (v := iI 0) hx hb d_5_7_4 rfl ?_
  obtain ⟨g1, hf⟩ := gif hf
  obtain ⟨r2, F2, B2, hc2, hf⟩ := gbind hf
  refine va_calli (va_runV (As := [.int (iI 1), .int (iI 12), .int (iI 0)]) (rest := []) ⟨hx, hb, hml, hown, hts⟩ (c_Parser_takeNumber (l := l) hc2) (cwV 3 hts (gdV k_4_9 k_4_11 ks_19 k_1_4 k_4_12) rfl rfl rfl (by decide +kernel) ⟨Nat.le_of_ble_eq_true rfl, Nat.le_of_ble_eq_true rfl⟩) (zPV X hZ hS (ci := 3) g1.1 g1.2 (r := (RX3, TX3, 22)) rfl [.int (iI 1), .int (iI 12), .int (iI 0)]) rfl rfl hl.1 rfl (lv_room (Nat.le_of_ble_eq_true rfl)) d_5_7_5 ⟨Nat.le_of_ble_eq_true rfl, Nat.le_of_ble_eq_true rfl⟩) hS (fun q _ h => zAin X hS q h) (zAin X hS) (fun p2 u2 t2 H2 locs2 ht2 hv2 hw2 hB2 hz2 hk2 hS2 => ?_)
  have hZ2 := zBack X ht2 hB2
  subst hw2
  obtain ⟨g3, hf⟩ := gif hf
  refine z0ne (tgt := 13) hx hb g3 d_5_7_8 (by decide) (fun h4 => ?_) (fun h4 => ?_)
  · replace hf := gneg hf h4
    refine lv_aload_n hx hb d_5_7_13 rfl (lv_at hl 1 rfl) ?_
    refine lv_aload_n hx hb d_5_7_14 rfl (lv_at hl 0 rfl) ?_
    refine zget (ci := 3) (C := RX3) (T := TX3) (v := .int (iI (F2 3 l0 19))) (k := 19) hx hb hts inW_3 hown hK hZ2 g1.1 g1.2 rfl (by decide) k_1_136 rfl d_5_7_15 ?_
    obtain ⟨g5, hf⟩ := gif hf
    refine zput (ci := 6) (C := RX6) (T := TX6) (k := 4) (v := (F2 3 l0 19)) (w := .int (iI (F2 3 l0 19))) hx hb hts inW_6 tyX6 tyX6_ok nmX6 hown hK hZ2 hS2 g5.1 g5.2 rfl (by decide) k_2_208 rfl (fun G h => congrArg (fun q => Value.int (iI q)) h) rfl rfl (zno (by decide)) d_5_7_18 (fun H6 locs6 hZ6 hS6 => ?_)
    refine lv_aload_n hx hb d_5_7_21 rfl (lv_at hl 0 rfl) ?_
    refine lv_bipush (v := iI 47) hx hb d_5_7_22 (by decide) ?_
    obtain ⟨r7, F7, B7, hc7, hf⟩ := gbind hf
    refine va_calli (va_runV (As := [.int (iI 47)]) (rest := []) ⟨hx, hb, hml, hown, hts⟩ (c_Parser_takeSign (l := l) hc7) (cwV 1 hts (gdV k_3_204 k_3_206 ks_9 k_1_4 k_3_207) rfl rfl rfl (by decide +kernel) ⟨Nat.le_of_ble_eq_true rfl, Nat.le_of_ble_eq_true rfl⟩) (zPV X hZ6 hS6 (ci := 3) g1.1 g1.2 (r := (RX3, TX3, 22)) rfl [.int (iI 47)]) rfl rfl hl.1 rfl (lv_room (Nat.le_of_ble_eq_true rfl)) d_5_7_24 ⟨Nat.le_of_ble_eq_true rfl, Nat.le_of_ble_eq_true rfl⟩) hS6 (fun q _ h => zAin X hS6 q h) (zAin X hS6) (fun p7 u7 t7 H7 locs7 ht7 hv7 hw7 hB7 hz7 hk7 hS7 => ?_)
    have hZ7 := zBack X ht7 hB7
    subst hw7
    obtain ⟨g8, hf⟩ := gif hf
    refine z0eq (tgt := 41) hx hb g8 d_5_7_27 (by decide) (fun h9 => ?_) (fun h9 => ?_)
    · replace hf := gpos hf h9
      exact b_Parser_takeTime_41 X hf hZ7 hS7 (lv_sub hl [] rfl)
    · replace hf := gneg hf h9
      refine lv_aload_n hx hb d_5_7_30 rfl (lv_at hl 0 rfl) ?_
      refine lv_iconst (v := iI 2) hx hb d_5_7_31 rfl ?_
      refine lv_bipush (v := iI 16) hx hb d_5_7_32 (by decide) ?_
      refine lv_iconst (v := iI 1) hx hb d_5_7_34 rfl ?_
      obtain ⟨r10, F10, B10, hc10, hf⟩ := gbind hf
      refine va_calli (va_runV (As := [.int (iI 2), .int (iI 16), .int (iI 1)]) (rest := []) ⟨hx, hb, hml, hown, hts⟩ (c_Parser_takeNumber (l := l) hc10) (cwV 3 hts (gdV k_4_9 k_4_11 ks_19 k_1_4 k_4_12) rfl rfl rfl (by decide +kernel) ⟨Nat.le_of_ble_eq_true rfl, Nat.le_of_ble_eq_true rfl⟩) (zPV X hZ7 hS7 (ci := 3) g1.1 g1.2 (r := (RX3, TX3, 22)) rfl [.int (iI 2), .int (iI 16), .int (iI 1)]) rfl rfl hl.1 rfl (lv_room (Nat.le_of_ble_eq_true rfl)) d_5_7_35 ⟨Nat.le_of_ble_eq_true rfl, Nat.le_of_ble_eq_true rfl⟩) hS7 (fun q _ h => zAin X hS7 q h) (zAin X hS7) (fun p10 u10 t10 H10 locs10 ht10 hv10 hw10 hB10 hz10 hk10 hS10 => ?_)
      have hZ10 := zBack X ht10 hB10
      subst hw10
      obtain ⟨g11, hf⟩ := gif hf
      refine z0ne (tgt := 43) hx hb g11 d_5_7_38 (by decide) (fun h12 => ?_) (fun h12 => ?_)
      · replace hf := gneg hf h12
        refine lv_aload_n hx hb d_5_7_43 rfl (lv_at hl 1 rfl) ?_
        refine lv_aload_n hx hb d_5_7_44 rfl (lv_at hl 0 rfl) ?_
        refine zget (ci := 3) (C := RX3) (T := TX3) (v := .int (iI (F10 3 l0 19))) (k := 19) hx hb hts inW_3 hown hK hZ10 g1.1 g1.2 rfl (by decide) k_1_136 rfl d_5_7_45 ?_
        refine zput (ci := 6) (C := RX6) (T := TX6) (k := 5) (v := (F10 3 l0 19)) (w := .int (iI (F10 3 l0 19))) hx hb hts inW_6 tyX6 tyX6_ok nmX6 hown hK hZ10 hS10 g5.1 g5.2 rfl (by decide) k_2_213 rfl (fun G h => congrArg (fun q => Value.int (iI q)) h) rfl rfl (zno (by decide)) d_5_7_48 (fun H13 locs13 hZ13 hS13 => ?_)
        refine lv_iconst (v := iI 1) hx hb d_5_7_51 rfl ?_
        cases hf
        exact W.zret hx hb hr rfl (fun t ht hW => ⟨⟨_, (), rfl, rfl, by rw [ht]; exact hZ13, va_K.moved hW.alike hK⟩, hS13.F ht⟩) hS13.2.2 d_5_7_52 hlk
      · replace hf := gpos hf h12
        exact b_Parser_takeTime_41 X hf hZ10 hS10 (lv_sub hl [] rfl)
  · replace hf := gpos hf h4
    refine lv_iconst (v := iI 0) hx hb d_5_7_11 rfl ?_
    cases hf
    exact W.zret hx hb hr rfl (fun t ht hW => ⟨⟨_, (), rfl, rfl, by rw [ht]; exact hZ2, va_K.moved hW.alike hK⟩, hS2.F ht⟩) hS2.2.2 d_5_7_12 hlk

noncomputable abbrev Q_Walker_countItem (K : zK) (D : va_G) (ca : Nat → ClassId) (ad : Nat → Int → Nat → Nat) (L : List Nat) (r : Int) (F : zF) (B : zB) (A : Nat → Prop) : Array Value → State → Outcome → State → Prop := va_Qv (S := Unit) (fun _ => True) (fun _ => zPo D ca ad lnC K.2 L F B A) A
noncomputable def f_Walker_countItem_27 (K : zK)  (F : zF) (B : zB) : zO := some (0, F, B)
set_option maxHeartbeats 4000000 in
set_option maxRecDepth 100000 in
theorem b_Walker_countItem_27 {D : va_G} {ca : Nat → ClassId} {ad : Nat → Int → Nat → Nat} {L : List Nat} {aS vS : Nat → Nat} {A : Nat → Prop} {p : Program} {l : Launch} {e : Env} {s : State} {m : MethodId} {args : Array Value} {below : List Frame} {meth : Method} {c : Code} {K : zK} {r : Int} {F9 : zF} {B9 : zB} (X : zX D ca L aS vS A p s m args meth c prog_13_method_5_code 2 (Option.none : Option Jvm.ClassFile.FieldType) "StaveHouse$Walker")  {F : zF} {B : zB} {H : Heap} {locs : List Loc} {ls : Array Slot} (hf : f_Walker_countItem_27 K  F B = some (r, F9, B9)) (hZ : zH D ca ad lnC K.2 L F B A H) (hS : va_S A s.heap H locs) (hl : lv_has ls 2 []) : W p l e ({ frames := 1, cells := 0, slots := 0, locals := 22 } : Room) s m args below meth c H locs 0 0 (MQ below (Q_Walker_countItem K D ca ad L r F9 B9 A) args s 0 0 A) (F0 m 27 ls []) := by
  obtain ⟨hx, hb, hr, hml, hown, hts, hlk, hK, hA, hL, hX⟩ := id X
  replace hf : (some (0, F, B)) = some (r, F9, B9) := hf
  cases hf
  exact W.vret hx hb hr (fun t ht hW => ⟨⟨(), rfl, trivial, by rw [ht]; exact hZ, va_K.moved hW.alike hK⟩, hS.F ht⟩) hS.2.2 d_13_5_27 hlk

noncomputable def f_Walker_countItem (K : zK) (l0 : Int) (l1 : Int) (F : zF) (B : zB) : zO := if 0 ≤ l0 ∧ l0 < K.2 11 then if r32 ((F 11 l0 3) + 1) then (if ((F 11 l0 3) + 1) ≤ 5000 then f_Walker_countItem_27 K (zup3 F 11 l0 3 ((F 11 l0 3) + 1)) B else zbind (f_Walker_refuse K l0 8 l1 (zup3 F 11 l0 3 ((F 11 l0 3) + 1)) B) (fun r5 F5 B5 => f_Walker_countItem_27 K F5 B5)) else none else none
set_option maxHeartbeats 4000000 in
set_option maxRecDepth 100000 in
theorem c_Walker_countItem {l : Launch} {D : va_G} {ca : Nat → ClassId} {ad : Nat → Int → Nat → Nat} {L : List Nat} {aS vS : Nat → Nat} {sz : Nat} {K : zK}  {l0 : Int} {l1 : Int} {F F9 : zF} {B B9 : zB} {r : Int} (hf : f_Walker_countItem K l0 l1 F B = some (r, F9, B9)) : Met l ({ cls := "StaveHouse$Walker", name := "countItem", desc := "(I)V" } : Jvm.MethodName) (Cond.code ({ cls := "StaveHouse$Walker", name := "countItem", desc := "(I)V" } : Jvm.MethodName) prog_13_method_5_code 2 (Option.none : Option Jvm.ClassFile.FieldType) :: wAll) ({ frames := 1, cells := 0, slots := 0, locals := 22 } : Room) (va_Pc [.ref (ad 11 l0 0), .int (iI l1)] (zPre D ca ad lnC K.2 L aS vS F B sz)) (Q_Walker_countItem K D ca ad L r F9 B9 (zA L sz)) 0 0 (zA L sz) := by
  refine zMet (Qc := Q_Walker_countItem K D ca ad L r F9 B9) (lv := [(0, .ref (ad 11 l0 0)), (1, .int (iI l1))]) (by decide) (Nat.le_of_ble_eq_true rfl) rfl (fun A p e s m below meth c ls X hZ hS hl => ?_)
  obtain ⟨hx, hb, hr, hml, hown, hts, hlk, hK, hA, hL, hX⟩ := id X
  replace hf : (if 0 ≤ l0 ∧ l0 < K.2 11 then if r32 ((F 11 l0 3) + 1) then (if ((F 11 l0 3) + 1) ≤ 5000 then f_Walker_countItem_27 K (zup3 F 11 l0 3 ((F 11 l0 3) + 1)) B else zbind (f_Walker_refuse K l0 8 l1 (zup3 F 11 l0 3 ((F 11 l0 3) + 1)) B) (fun r5 F5 B5 => f_Walker_countItem_27 K F5 B5)) else none else none) = some (r, F9, B9) := hf
  refine lv_aload_n hx hb d_13_5_0 rfl (lv_at hl 0 rfl) ?_
  refine lv_dup hx hb d_13_5_1 rfl ?_
  obtain ⟨g1, hf⟩ := gif hf
  refine zget (ci := 11) (C := RX11) (T := TX11) (v := .int (iI (F 11 l0 3))) (k := 3) hx hb hts inW_11 hown hK hZ g1.1 g1.2 rfl (by decide) k_1_193 rfl d_13_5_2 ?_
  refine lv_iconst (v := iI 1) hx hb d_13_5_5 rfl ?_
  refine zadd hx hb d_13_5_6 ?_
  refine zput (ci := 11) (C := RX11) (T := TX11) (k := 3) (v := ((F 11 l0 3) + 1)) (w := .int (iI ((F 11 l0 3) + 1))) hx hb hts inW_11 tyX11 tyX11_ok nmX11 hown hK hZ hS g1.1 g1.2 rfl (by decide) k_1_193 rfl (fun G h => congrArg (fun q => Value.int (iI q)) h) rfl rfl (zno (by decide)) d_13_5_7 (fun H2 locs2 hZ2 hS2 => ?_)
  refine lv_aload_n hx hb d_13_5_10 rfl (lv_at hl 0 rfl) ?_
  refine zget (ci := 11) (C := RX11) (T := TX11) (v := .int (iI ((F 11 l0 3) + 1))) (k := 3) hx hb hts inW_11 hown hK hZ2 g1.1 g1.2 rfl (by decide) k_1_193 (congrArg (fun q : Int => Value.int (iI q)) (show (zup3 F 11 l0 3 ((F 11 l0 3) + 1)) 11 l0 3 = (F 11 l0 3) + 1 by simp [zup3])) d_13_5_11 ?_
  refine lv_sipush (v := iI 5000) hx hb d_13_5_14 (by decide) ?_
  obtain ⟨g3, hf⟩ := gif hf
  refine zle (tgt := 27) hx hb g3 (by decide) d_13_5_17 (by decide) (fun h4 => ?_) (fun h4 => ?_)
  · replace hf := gpos hf h4
    exact b_Walker_countItem_27 X hf hZ2 hS2 (lv_sub hl [] rfl)
  · replace hf := gneg hf h4
    refine lv_aload_n hx hb d_13_5_20 rfl (lv_at hl 0 rfl) ?_
    refine lv_bipush (v := iI 8) hx hb d_13_5_21 (by decide) ?_
    refine lv_iload_n hx hb d_13_5_23 rfl (lv_at hl 1 rfl) ?_
    obtain ⟨r5, F5, B5, hc5, hf⟩ := gbind hf
    refine va_callv (va_runV (As := [.int (iI 8), .int (iI l1)]) (rest := []) ⟨hx, hb, hml, hown, hts⟩ (c_Walker_refuse (l := l) hc5) (cwV 2 hts (gdV k_4_204 k_4_206 ks_36 k_1_6 k_4_207) rfl rfl rfl (by decide +kernel) ⟨Nat.le_of_ble_eq_true rfl, Nat.le_of_ble_eq_true rfl⟩) (zPV X hZ2 hS2 (ci := 11) g1.1 g1.2 (r := (RX11, TX11, 19)) rfl [.int (iI 8), .int (iI l1)]) rfl rfl hl.1 rfl (lv_room (Nat.le_of_ble_eq_true rfl)) d_13_5_24 ⟨Nat.le_of_ble_eq_true rfl, Nat.le_of_ble_eq_true rfl⟩) hS2 (fun q _ h => zAin X hS2 q h) (zAin X hS2) (fun u5 t5 H5 locs5 ht5 hv5 hw5 hB5 hz5 hk5 hS5 => ?_)
    have hZ5 := zBack X ht5 hB5
    exact b_Walker_countItem_27 X hf hZ5 hS5 (lv_sub hl [] rfl)

noncomputable abbrev Q_Walker_addPitch (K : zK) (D : va_G) (ca : Nat → ClassId) (ad : Nat → Int → Nat → Nat) (L : List Nat) (r : Int) (F : zF) (B : zB) (A : Nat → Prop) : Array Value → State → Outcome → State → Prop := va_Qv (S := Unit) (fun _ => True) (fun _ => zPo D ca ad lnC K.2 L F B A) A
noncomputable def f_Walker_addPitch_157 (K : zK)  (F : zF) (B : zB) : zO := some (0, F, B)
set_option maxHeartbeats 4000000 in
set_option maxRecDepth 100000 in
theorem b_Walker_addPitch_157 {D : va_G} {ca : Nat → ClassId} {ad : Nat → Int → Nat → Nat} {L : List Nat} {aS vS : Nat → Nat} {A : Nat → Prop} {p : Program} {l : Launch} {e : Env} {s : State} {m : MethodId} {args : Array Value} {below : List Frame} {meth : Method} {c : Code} {K : zK} {r : Int} {F9 : zF} {B9 : zB} (X : zX D ca L aS vS A p s m args meth c prog_13_method_14_code 7 (Option.none : Option Jvm.ClassFile.FieldType) "StaveHouse$Walker")  {F : zF} {B : zB} {H : Heap} {locs : List Loc} {ls : Array Slot} (hf : f_Walker_addPitch_157 K  F B = some (r, F9, B9)) (hZ : zH D ca ad lnC K.2 L F B A H) (hS : va_S A s.heap H locs) (hl : lv_has ls 7 []) : W p l e ({ frames := 2, cells := 0, slots := 0, locals := 42 } : Room) s m args below meth c H locs 0 0 (MQ below (Q_Walker_addPitch K D ca ad L r F9 B9 A) args s 0 0 A) (F0 m 157 ls []) := by
  obtain ⟨hx, hb, hr, hml, hown, hts, hlk, hK, hA, hL, hX⟩ := id X
  replace hf : (some (0, F, B)) = some (r, F9, B9) := hf
  cases hf
  exact W.vret hx hb hr (fun t ht hW => ⟨⟨(), rfl, trivial, by rw [ht]; exact hZ, va_K.moved hW.alike hK⟩, hS.F ht⟩) hS.2.2 d_13_14_157 hlk

noncomputable def f_Walker_addPitch_142 (K : zK) (l0 : Int) (l2 : Int) (F : zF) (B : zB) : zO := if 0 ≤ l0 ∧ l0 < K.2 11 then if 0 ≤ (F 11 l0 0) ∧ (F 11 l0 0) < K.2 3 then if 0 ≤ l2 ∧ l2 < 1500 then zbind (f_Walker_refuse K l0 9 (B 3 (F 11 l0 0) 10 l2) F B) (fun r29 F29 B29 => f_Walker_addPitch_157 K F29 B29) else none else none else none
set_option maxHeartbeats 4000000 in
set_option maxRecDepth 100000 in
theorem b_Walker_addPitch_142 {D : va_G} {ca : Nat → ClassId} {ad : Nat → Int → Nat → Nat} {L : List Nat} {aS vS : Nat → Nat} {A : Nat → Prop} {p : Program} {l : Launch} {e : Env} {s : State} {m : MethodId} {args : Array Value} {below : List Frame} {meth : Method} {c : Code} {K : zK} {r : Int} {F9 : zF} {B9 : zB} (X : zX D ca L aS vS A p s m args meth c prog_13_method_14_code 7 (Option.none : Option Jvm.ClassFile.FieldType) "StaveHouse$Walker") {l0 : Int} {l2 : Int} {F : zF} {B : zB} {H : Heap} {locs : List Loc} {ls : Array Slot} (hf : f_Walker_addPitch_142 K l0 l2 F B = some (r, F9, B9)) (hZ : zH D ca ad lnC K.2 L F B A H) (hS : va_S A s.heap H locs) (hl : lv_has ls 7 [(0, .ref (ad 11 l0 0)), (2, .int (iI l2))]) : W p l e ({ frames := 2, cells := 0, slots := 0, locals := 42 } : Room) s m args below meth c H locs 0 0 (MQ below (Q_Walker_addPitch K D ca ad L r F9 B9 A) args s 0 0 A) (F0 m 142 ls []) := by
  obtain ⟨hx, hb, hr, hml, hown, hts, hlk, hK, hA, hL, hX⟩ := id X
  replace hf : (if 0 ≤ l0 ∧ l0 < K.2 11 then if 0 ≤ (F 11 l0 0) ∧ (F 11 l0 0) < K.2 3 then if 0 ≤ l2 ∧ l2 < 1500 then zbind (f_Walker_refuse K l0 9 (B 3 (F 11 l0 0) 10 l2) F B) (fun r29 F29 B29 => f_Walker_addPitch_157 K F29 B29) else none else none else none) = some (r, F9, B9) := hf
  refine lv_aload_n hx hb d_13_14_142 rfl (lv_at hl 0 rfl) ?_
  refine lv_bipush (v := iI 9) hx hb d_13_14_143 (by decide) ?_
  refine lv_aload_n hx hb d_13_14_145 rfl (lv_at hl 0 rfl) ?_
  obtain ⟨g26, hf⟩ := gif hf
  refine zget (ci := 11) (C := RX11) (T := TX11) (v := va_rf (zrf ad 3 (F 11 l0 0))) (k := 0) hx hb hts inW_11 hown hK hZ g26.1 g26.2 rfl (by decide) k_1_190 rfl d_13_14_146 ?_
  obtain ⟨g27, hf⟩ := gif hf
  refine zunrf g27.1 ?_
  refine zget (ci := 3) (C := RX3) (T := TX3) (v := .ref (ad 3 (F 11 l0 0) (10 + 1))) (k := 10) hx hb hts inW_3 hown hK hZ g27.1 g27.2 rfl (by decide) k_1_127 rfl d_13_14_149 ?_
  refine lv_iload_n hx hb d_13_14_152 rfl (lv_at hl 1 rfl) ?_
  obtain ⟨g28, hf⟩ := gif hf
  refine zald (ci := 3) (k := 10) hx hb hK rfl hZ g27.1 g27.2 rfl (Nat.le_of_ble_eq_true rfl) g28.1 g28.2 d_13_14_153 ?_
  obtain ⟨r29, F29, B29, hc29, hf⟩ := gbind hf
  refine va_callv (va_runV (As := [.int (iI 9), .int (iI (B 3 (F 11 l0 0) 10 l2))]) (rest := []) ⟨hx, hb, hml, hown, hts⟩ (c_Walker_refuse (l := l) hc29) (cwV 2 hts (gdV k_4_204 k_4_206 ks_36 k_1_6 k_4_207) rfl rfl rfl (by decide +kernel) ⟨Nat.le_of_ble_eq_true rfl, Nat.le_of_ble_eq_true rfl⟩) (zPV X hZ hS (ci := 11) g26.1 g26.2 (r := (RX11, TX11, 19)) rfl [.int (iI 9), .int (iI (B 3 (F 11 l0 0) 10 l2))]) rfl rfl hl.1 rfl (lv_room (Nat.le_of_ble_eq_true rfl)) d_13_14_154 ⟨Nat.le_of_ble_eq_true rfl, Nat.le_of_ble_eq_true rfl⟩) hS (fun q _ h => zAin X hS q h) (zAin X hS) (fun u29 t29 H29 locs29 ht29 hv29 hw29 hB29 hz29 hk29 hS29 => ?_)
  have hZ29 := zBack X ht29 hB29
  exact b_Walker_addPitch_157 X hf hZ29 hS29 (lv_sub hl [] rfl)

noncomputable def f_Walker_addPitch_122 (K : zK) (l5 : Int) (l4 : Int) (l3 : Int) (l0 : Int) (l1 : Int) (l2 : Int) (F : zF) (B : zB) : zO := if r32 l5 then (if l5 = 0 then f_Walker_addPitch_142 K l0 l2 F B else zbind (f_S_naturalTone K l3 F B) (fun r21 F21 B21 => if 0 ≤ l1 ∧ l1 < K.2 1 then zbind (f_Event_insert K l1 l3 (l4 - r21) F21 B21) (fun r23 F23 B23 => if r32 r23 then (if r23 = 0 then f_Walker_addPitch_142 K l0 l2 F23 B23 else f_Walker_addPitch_157 K F23 B23) else none) else none)) else none
