set_option maxHeartbeats 4000000 in
set_option maxRecDepth 100000 in
theorem cb_Parser_takeAlternatives {l : Launch} {D : va_G} {ca : Nat → ClassId} {ad : Nat → Int → Nat → Nat} {L : List Nat} {aS vS : Nat → Nat} {sz : Nat} {K : zK} {d : Nat} {o : oT_CP} (ho : oH_CP K l D ca ad L aS vS d o)  {l0 : Int} {l1 : Int} {F F9 : zF} {B B9 : zB} {r : Int} (hf : fb_Parser_takeAlternatives o K l0 l1 F B = some (r, F9, B9)) : Met l ({ cls := "StaveHouse$Parser", name := "takeAlternatives", desc := "(I)Z" } : Jvm.MethodName) (Cond.code ({ cls := "StaveHouse$Parser", name := "takeAlternatives", desc := "(I)Z" } : Jvm.MethodName) prog_5_method_32_code 5 (Option.some Jvm.ClassFile.FieldType.boolean) :: wAll) ({ frames := d + 1 + 7, cells := 0, slots := 0, locals := 25 * (d + 1) + 136 } : Room) (va_Pc [.ref (ad 3 l0 0), .int (iI l1)] (zPre D ca ad lnC K.2 L aS vS F B sz)) (Q_Parser_takeAlternatives K D ca ad L r F9 B9 (zA L sz)) 0 0 (zA L sz) := by
  refine zMet (Qc := Q_Parser_takeAlternatives K D ca ad L r F9 B9) (lv := [(0, .ref (ad 3 l0 0)), (1, .int (iI l1))]) (by decide) (Nat.le_of_ble_eq_true rfl) rfl (fun A p e s m below meth c ls X hZ hS hl => ?_)
  obtain ⟨hx, hb, hr, hml, hown, hts, hlk, hK, hA, hL, hX⟩ := id X
  replace hf : (if 0 ≤ l0 ∧ l0 < K.2 3 then if 0 ≤ (F 3 l0 11) ∧ (F 3 l0 11) < K.2 10 then zbind (f_Tokens_advance K (F 3 l0 11) F B) (fun r3 F3 B3 => f_Parser_takeAlternatives_11 o K K.1 0 (-1) l0 l1 F3 B3) else none else none) = some (r, F9, B9) := hf
  refine lv_aload_n hx hb d_5_32_0 rfl (lv_at hl 0 rfl) ?_
  obtain ⟨g1, hf⟩ := gif hf
  refine zget (ci := 3) (C := RX3) (T := TX3) (v := va_rf (zrf ad 10 (F 3 l0 11))) (k := 11) hx hb hts inW_3 hown hK hZ g1.1 g1.2 rfl (by decide) k_1_128 rfl d_5_32_1 ?_
  obtain ⟨g2, hf⟩ := gif hf
  refine W.eq (g2 := F0 m 4 ls [.ref (ad 10 (F 3 l0 11) 0)]) (by rw [zrf_pos (ad := ad) (t := 10) g2.1]; try rfl) ?_
  obtain ⟨r3, F3, B3, hc3, hf⟩ := gbind hf
  refine va_callv (va_runV (As := []) (rest := []) ⟨hx, hb, hml, hown, hts⟩ (c_Tokens_advance (l := l) hc3) (cwV 0 hts (gdV k_3_180 k_3_152 k_3_153 k_1_5 k_3_154) rfl rfl rfl (by decide +kernel) ⟨by dsimp only; omega, by dsimp only; omega⟩) (zPV X hZ hS (ci := 10) g2.1 g2.2 (r := (RX10, TX10, 9)) rfl []) rfl rfl hl.1 rfl (lv_room (Nat.le_of_ble_eq_true rfl)) d_5_32_4 ⟨Nat.le_of_ble_eq_true rfl, Nat.le_of_ble_eq_true rfl⟩) hS (fun q _ h => zAin X hS q h) (zAin X hS) (fun u3 t3 H3 locs3 ht3 hv3 hw3 hB3 hz3 hk3 hS3 => ?_)
  have hZ3 := zBack X ht3 hB3
  refine lv_iconst (v := iI (-1)) hx hb d_5_32_7 rfl ?_
  refine lv_istore_n (lv' := [(2, .int (iI (-1))), (0, .ref (ad 3 l0 0)), (1, .int (iI l1))]) hx hb d_5_32_8 rfl hl (by decide) rfl (fun ls hl => ?_)
  refine lv_iconst (v := iI 0) hx hb d_5_32_9 rfl ?_
  refine lv_istore_n (lv' := [(3, .int (iI 0)), (2, .int (iI (-1))), (0, .ref (ad 3 l0 0)), (1, .int (iI l1))]) hx hb d_5_32_10 rfl hl (by decide) rfl (fun ls hl => ?_)
  exact b_Parser_takeAlternatives_11 X ho hf hZ3 hS3 (lv_sub hl [0, 1, 2, 3] rfl)

noncomputable def fb_Parser_takeMove (o : oT_CP) (K : zK) (l0 : Int) (l1 : Int) (F : zF) (B : zB) : zO := if 0 ≤ l0 ∧ l0 < K.2 3 then if 0 ≤ (F 3 l0 11) ∧ (F 3 l0 11) < K.2 10 then if r32 (F 10 (F 3 l0 11) 0) then (if (F 10 (F 3 l0 11) 0) = 2 then zbind (f_S_naturalTone K (F 10 (F 3 l0 11) 3) F B) (fun r5 F5 B5 => if 0 ≤ (F5 3 l0 11) ∧ (F5 3 l0 11) < K.2 10 then zbind (f_Tokens_advance K (F5 3 l0 11) F5 B5) (fun r7 F7 B7 => if 0 ≤ (F7 3 l0 11) ∧ (F7 3 l0 11) < K.2 10 then if r32 (F7 10 (F7 3 l0 11) 0) then (if (F7 10 (F7 3 l0 11) 0) = 2 then if 0 ≤ l1 ∧ l1 < 3000 then zbind (f_S_naturalTone K (F7 10 (F7 3 l0 11) 3) F7 (zup4 B7 3 l0 2 l1 ((F7 10 (F7 3 l0 11) 3) - (F 10 (F 3 l0 11) 3)))) (fun r13 F13 B13 => if 0 ≤ (F13 3 l0 11) ∧ (F13 3 l0 11) < K.2 10 then zbind (f_Tokens_advance K (F13 3 l0 11) F13 (zup4 B13 3 l0 3 l1 ((r13 + (F13 10 (F13 3 l0 11) 4)) - (r5 + (F5 10 (F5 3 l0 11) 4))))) (fun r16 F16 B16 => zbind (o.1 l0 l1 F16 B16) (fun r17 F17 B17 => if (r17 = 0 ∨ r17 = 1) then some (r17, F17, B17) else none)) else none) else none else zbind (f_Parser_refuse K l0 2 F7 B7) (fun r19 F19 B19 => if (r19 = 0 ∨ r19 = 1) then some (r19, F19, B19) else none)) else none else none) else none) else zbind (f_Parser_refuse K l0 2 F B) (fun r21 F21 B21 => if (r21 = 0 ∨ r21 = 1) then some (r21, F21, B21) else none)) else none else none else none
set_option maxHeartbeats 4000000 in
set_option maxRecDepth 100000 in
theorem cb_Parser_takeMove {l : Launch} {D : va_G} {ca : Nat → ClassId} {ad : Nat → Int → Nat → Nat} {L : List Nat} {aS vS : Nat → Nat} {sz : Nat} {K : zK} {d : Nat} {o : oT_CP} (ho : oH_CP K l D ca ad L aS vS d o)  {l0 : Int} {l1 : Int} {F F9 : zF} {B B9 : zB} {r : Int} (hf : fb_Parser_takeMove o K l0 l1 F B = some (r, F9, B9)) : Met l ({ cls := "StaveHouse$Parser", name := "takeMove", desc := "(I)Z" } : Jvm.MethodName) (Cond.code ({ cls := "StaveHouse$Parser", name := "takeMove", desc := "(I)Z" } : Jvm.MethodName) prog_5_method_34_code 4 (Option.some Jvm.ClassFile.FieldType.boolean) :: wAll) ({ frames := d + 1 + 7, cells := 0, slots := 0, locals := 25 * (d + 1) + 136 } : Room) (va_Pc [.ref (ad 3 l0 0), .int (iI l1)] (zPre D ca ad lnC K.2 L aS vS F B sz)) (Q_Parser_takeMove K D ca ad L r F9 B9 (zA L sz)) 0 0 (zA L sz) := by
  refine zMet (Qc := Q_Parser_takeMove K D ca ad L r F9 B9) (lv := [(0, .ref (ad 3 l0 0)), (1, .int (iI l1))]) (by decide) (Nat.le_of_ble_eq_true rfl) rfl (fun A p e s m below meth c ls X hZ hS hl => ?_)
  obtain ⟨hx, hb, hr, hml, hown, hts, hlk, hK, hA, hL, hX⟩ := id X
  replace hf : (if 0 ≤ l0 ∧ l0 < K.2 3 then if 0 ≤ (F 3 l0 11) ∧ (F 3 l0 11) < K.2 10 then if r32 (F 10 (F 3 l0 11) 0) then (if (F 10 (F 3 l0 11) 0) = 2 then zbind (f_S_naturalTone K (F 10 (F 3 l0 11) 3) F B) (fun r5 F5 B5 => if 0 ≤ (F5 3 l0 11) ∧ (F5 3 l0 11) < K.2 10 then zbind (f_Tokens_advance K (F5 3 l0 11) F5 B5) (fun r7 F7 B7 => if 0 ≤ (F7 3 l0 11) ∧ (F7 3 l0 11) < K.2 10 then if r32 (F7 10 (F7 3 l0 11) 0) then (if (F7 10 (F7 3 l0 11) 0) = 2 then if 0 ≤ l1 ∧ l1 < 3000 then zbind (f_S_naturalTone K (F7 10 (F7 3 l0 11) 3) F7 (zup4 B7 3 l0 2 l1 ((F7 10 (F7 3 l0 11) 3) - (F 10 (F 3 l0 11) 3)))) (fun r13 F13 B13 => if 0 ≤ (F13 3 l0 11) ∧ (F13 3 l0 11) < K.2 10 then zbind (f_Tokens_advance K (F13 3 l0 11) F13 (zup4 B13 3 l0 3 l1 ((r13 + (F13 10 (F13 3 l0 11) 4)) - (r5 + (F5 10 (F5 3 l0 11) 4))))) (fun r16 F16 B16 => zbind (o.1 l0 l1 F16 B16) (fun r17 F17 B17 => if (r17 = 0 ∨ r17 = 1) then some (r17, F17, B17) else none)) else none) else none else zbind (f_Parser_refuse K l0 2 F7 B7) (fun r19 F19 B19 => if (r19 = 0 ∨ r19 = 1) then some (r19, F19, B19) else none)) else none else none) else none) else zbind (f_Parser_refuse K l0 2 F B) (fun r21 F21 B21 => if (r21 = 0 ∨ r21 = 1) then some (r21, F21, B21) else none)) else none else none else none) = some (r, F9, B9) := hf
  refine lv_aload_n hx hb d_5_34_0 rfl (lv_at hl 0 rfl) ?_
  obtain ⟨g1, hf⟩ := gif hf
  refine zget (ci := 3) (C := RX3) (T := TX3) (v := va_rf (zrf ad 10 (F 3 l0 11))) (k := 11) hx hb hts inW_3 hown hK hZ g1.1 g1.2 rfl (by decide) k_1_128 rfl d_5_34_1 ?_
  obtain ⟨g2, hf⟩ := gif hf
  refine zunrf g2.1 ?_
  refine zget (ci := 10) (C := RX10) (T := TX10) (v := .int (iI (F 10 (F 3 l0 11) 0))) (k := 0) hx hb hts inW_10 hown hK hZ g2.1 g2.2 rfl (by decide) k_1_72 rfl d_5_34_4 ?_
  refine lv_iconst (v := iI 2) hx hb d_5_34_7 rfl ?_
  obtain ⟨g3, hf⟩ := gif hf
  refine zeq (tgt := 17) hx hb g3 (by decide) d_5_34_8 (by decide) (fun h4 => ?_) (fun h4 => ?_)
  · replace hf := gpos hf h4
    refine lv_aload_n hx hb d_5_34_17 rfl (lv_at hl 0 rfl) ?_
    refine zget (ci := 3) (C := RX3) (T := TX3) (v := va_rf (zrf ad 10 (F 3 l0 11))) (k := 11) hx hb hts inW_3 hown hK hZ g1.1 g1.2 rfl (by decide) k_1_128 rfl d_5_34_18 ?_
    refine zunrf g2.1 ?_
    refine zget (ci := 10) (C := RX10) (T := TX10) (v := .int (iI (F 10 (F 3 l0 11) 3))) (k := 3) hx hb hts inW_10 hown hK hZ g2.1 g2.2 rfl (by decide) k_1_79 rfl d_5_34_21 ?_
    refine lv_istore_n (lv' := [(2, .int (iI (F 10 (F 3 l0 11) 3))), (0, .ref (ad 3 l0 0)), (1, .int (iI l1))]) hx hb d_5_34_24 rfl hl (by decide) rfl (fun ls hl => ?_)
    refine lv_iload_n hx hb d_5_34_25 rfl (lv_at hl 0 rfl) ?_
    obtain ⟨r5, F5, B5, hc5, hf⟩ := gbind hf
    refine va_calli (va_runSN (As := [.int (iI (F 10 (F 3 l0 11) 3))]) (rest := []) ⟨hx, hb, hml, hown, hts⟩ (c_S_naturalTone (l := l) hc5) ⟨va_cnB 1 hts (gdC k_4_64) rfl rfl rfl (hX.1 _ (List.mem_of_getElem? (i := 12) rfl)) (hts _ k_1_1) (by decide +kernel) ⟨by dsimp only; omega, by dsimp only; omega⟩, hts _ k_4_63, trivial⟩ (zPS X hZ hS [.int (iI (F 10 (F 3 l0 11) 3))]) rfl rfl hl.1 rfl (lv_room (Nat.le_of_ble_eq_true rfl)) d_5_34_26 ⟨Nat.le_of_ble_eq_true rfl, Nat.le_of_ble_eq_true rfl⟩) hS (fun q _ h => zAin X hS q h) (zAin X hS) (fun p5 u5 t5 H5 locs5 ht5 hv5 hw5 hB5 hz5 hk5 hS5 => ?_)
    have hZ5 := zBack X ht5 hB5
    subst hw5
    refine lv_aload_n hx hb d_5_34_29 rfl (lv_at hl 1 rfl) ?_
    refine zget (ci := 3) (C := RX3) (T := TX3) (v := va_rf (zrf ad 10 (F5 3 l0 11))) (k := 11) hx hb hts inW_3 hown hK hZ5 g1.1 g1.2 rfl (by decide) k_1_128 rfl d_5_34_30 ?_
    obtain ⟨g6, hf⟩ := gif hf
    refine zunrf g6.1 ?_
    refine zget (ci := 10) (C := RX10) (T := TX10) (v := .int (iI (F5 10 (F5 3 l0 11) 4))) (k := 4) hx hb hts inW_10 hown hK hZ5 g6.1 g6.2 rfl (by decide) k_1_81 rfl d_5_34_33 ?_
    refine zadd hx hb d_5_34_36 ?_
    refine lv_istore_n (lv' := [(3, .int (iI (r5 + (F5 10 (F5 3 l0 11) 4)))), (2, .int (iI (F 10 (F 3 l0 11) 3))), (0, .ref (ad 3 l0 0)), (1, .int (iI l1))]) hx hb d_5_34_37 rfl hl (by decide) rfl (fun ls hl => ?_)
    refine lv_aload_n hx hb d_5_34_38 rfl (lv_at hl 2 rfl) ?_
    refine zget (ci := 3) (C := RX3) (T := TX3) (v := va_rf (zrf ad 10 (F5 3 l0 11))) (k := 11) hx hb hts inW_3 hown hK hZ5 g1.1 g1.2 rfl (by decide) k_1_128 rfl d_5_34_39 ?_
    refine W.eq (g2 := F0 m 42 ls [.ref (ad 10 (F5 3 l0 11) 0)]) (by rw [zrf_pos (ad := ad) (t := 10) g6.1]; try rfl) ?_
    obtain ⟨r7, F7, B7, hc7, hf⟩ := gbind hf
    refine va_callv (va_runV (As := []) (rest := []) ⟨hx, hb, hml, hown, hts⟩ (c_Tokens_advance (l := l) hc7) (cwV 0 hts (gdV k_3_180 k_3_152 k_3_153 k_1_5 k_3_154) rfl rfl rfl (by decide +kernel) ⟨by dsimp only; omega, by dsimp only; omega⟩) (zPV X hZ5 hS5 (ci := 10) g6.1 g6.2 (r := (RX10, TX10, 9)) rfl []) rfl rfl hl.1 rfl (lv_room (Nat.le_of_ble_eq_true rfl)) d_5_34_42 ⟨Nat.le_of_ble_eq_true rfl, Nat.le_of_ble_eq_true rfl⟩) hS5 (fun q _ h => zAin X hS5 q h) (zAin X hS5) (fun u7 t7 H7 locs7 ht7 hv7 hw7 hB7 hz7 hk7 hS7 => ?_)
    have hZ7 := zBack X ht7 hB7
    refine lv_aload_n hx hb d_5_34_45 rfl (lv_at hl 2 rfl) ?_
    refine zget (ci := 3) (C := RX3) (T := TX3) (v := va_rf (zrf ad 10 (F7 3 l0 11))) (k := 11) hx hb hts inW_3 hown hK hZ7 g1.1 g1.2 rfl (by decide) k_1_128 rfl d_5_34_46 ?_
    obtain ⟨g8, hf⟩ := gif hf
    refine zunrf g8.1 ?_
    refine zget (ci := 10) (C := RX10) (T := TX10) (v := .int (iI (F7 10 (F7 3 l0 11) 0))) (k := 0) hx hb hts inW_10 hown hK hZ7 g8.1 g8.2 rfl (by decide) k_1_72 rfl d_5_34_49 ?_
    refine lv_iconst (v := iI 2) hx hb d_5_34_52 rfl ?_
    obtain ⟨g9, hf⟩ := gif hf
    refine zeq (tgt := 62) hx hb g9 (by decide) d_5_34_53 (by decide) (fun h10 => ?_) (fun h10 => ?_)
    · replace hf := gpos hf h10
      refine lv_aload_n hx hb d_5_34_62 rfl (lv_at hl 2 rfl) ?_
      refine zget (ci := 3) (C := RX3) (T := TX3) (v := .ref (ad 3 l0 (2 + 1))) (k := 2) hx hb hts inW_3 hown hK hZ7 g1.1 g1.2 rfl (by decide) k_1_110 rfl d_5_34_63 ?_
      refine lv_iload_n hx hb d_5_34_66 rfl (lv_at hl 3 rfl) ?_
      refine lv_aload_n hx hb d_5_34_67 rfl (lv_at hl 2 rfl) ?_
      refine zget (ci := 3) (C := RX3) (T := TX3) (v := va_rf (zrf ad 10 (F7 3 l0 11))) (k := 11) hx hb hts inW_3 hown hK hZ7 g1.1 g1.2 rfl (by decide) k_1_128 rfl d_5_34_68 ?_
      refine zunrf g8.1 ?_
      refine zget (ci := 10) (C := RX10) (T := TX10) (v := .int (iI (F7 10 (F7 3 l0 11) 3))) (k := 3) hx hb hts inW_10 hown hK hZ7 g8.1 g8.2 rfl (by decide) k_1_79 rfl d_5_34_71 ?_
      refine lv_iload_n hx hb d_5_34_74 rfl (lv_at hl 1 rfl) ?_
      refine zsub hx hb d_5_34_75 ?_
      obtain ⟨g11, hf⟩ := gif hf
      refine zast (ci := 3) (k := 2) hx hb hK rfl hZ7 hS7 g1.1 g1.2 rfl (Nat.le_of_ble_eq_true rfl) g11.1 g11.2 d_5_34_76 (fun H12 locs12 hZ12 hS12 => ?_)
      refine lv_aload_n hx hb d_5_34_77 rfl (lv_at hl 2 rfl) ?_
      refine zget (ci := 3) (C := RX3) (T := TX3) (v := .ref (ad 3 l0 (3 + 1))) (k := 3) hx hb hts inW_3 hown hK hZ12 g1.1 g1.2 rfl (by decide) k_1_112 rfl d_5_34_78 ?_
      refine lv_iload_n hx hb d_5_34_81 rfl (lv_at hl 3 rfl) ?_
      refine lv_aload_n hx hb d_5_34_82 rfl (lv_at hl 2 rfl) ?_
      refine zget (ci := 3) (C := RX3) (T := TX3) (v := va_rf (zrf ad 10 (F7 3 l0 11))) (k := 11) hx hb hts inW_3 hown hK hZ12 g1.1 g1.2 rfl (by decide) k_1_128 rfl d_5_34_83 ?_
      refine zunrf g8.1 ?_
      refine zget (ci := 10) (C := RX10) (T := TX10) (v := .int (iI (F7 10 (F7 3 l0 11) 3))) (k := 3) hx hb hts inW_10 hown hK hZ12 g8.1 g8.2 rfl (by decide) k_1_79 rfl d_5_34_86 ?_
      obtain ⟨r13, F13, B13, hc13, hf⟩ := gbind hf
      refine va_calli (va_runSN (As := [.int (iI (F7 10 (F7 3 l0 11) 3))]) (rest := [.int (iI l1), .ref (ad 3 l0 (3 + 1))]) ⟨hx, hb, hml, hown, hts⟩ (c_S_naturalTone (l := l) hc13) ⟨va_cnB 1 hts (gdC k_4_64) rfl rfl rfl (hX.1 _ (List.mem_of_getElem? (i := 12) rfl)) (hts _ k_1_1) (by decide +kernel) ⟨by dsimp only; omega, by dsimp only; omega⟩, hts _ k_4_63, trivial⟩ (zPS X hZ12 hS12 [.int (iI (F7 10 (F7 3 l0 11) 3))]) rfl rfl hl.1 rfl (lv_room (Nat.le_of_ble_eq_true rfl)) d_5_34_89 ⟨Nat.le_of_ble_eq_true rfl, Nat.le_of_ble_eq_true rfl⟩) hS12 (fun q _ h => zAin X hS12 q h) (zAin X hS12) (fun p13 u13 t13 H13 locs13 ht13 hv13 hw13 hB13 hz13 hk13 hS13 => ?_)
      have hZ13 := zBack X ht13 hB13
      subst hw13
      refine lv_aload_n hx hb d_5_34_92 rfl (lv_at hl 2 rfl) ?_
      refine zget (ci := 3) (C := RX3) (T := TX3) (v := va_rf (zrf ad 10 (F13 3 l0 11))) (k := 11) hx hb hts inW_3 hown hK hZ13 g1.1 g1.2 rfl (by decide) k_1_128 rfl d_5_34_93 ?_
      obtain ⟨g14, hf⟩ := gif hf
      refine zunrf g14.1 ?_
      refine zget (ci := 10) (C := RX10) (T := TX10) (v := .int (iI (F13 10 (F13 3 l0 11) 4))) (k := 4) hx hb hts inW_10 hown hK hZ13 g14.1 g14.2 rfl (by decide) k_1_81 rfl d_5_34_96 ?_
      refine zadd hx hb d_5_34_99 ?_
      refine lv_iload_n hx hb d_5_34_100 rfl (lv_at hl 0 rfl) ?_
      refine zsub hx hb d_5_34_101 ?_
      refine zast (ci := 3) (k := 3) hx hb hK rfl hZ13 hS13 g1.1 g1.2 rfl (Nat.le_of_ble_eq_true rfl) g11.1 g11.2 d_5_34_102 (fun H15 locs15 hZ15 hS15 => ?_)
      refine lv_aload_n hx hb d_5_34_103 rfl (lv_at hl 2 rfl) ?_
      refine zget (ci := 3) (C := RX3) (T := TX3) (v := va_rf (zrf ad 10 (F13 3 l0 11))) (k := 11) hx hb hts inW_3 hown hK hZ15 g1.1 g1.2 rfl (by decide) k_1_128 rfl d_5_34_104 ?_
      refine W.eq (g2 := F0 m 107 ls [.ref (ad 10 (F13 3 l0 11) 0)]) (by rw [zrf_pos (ad := ad) (t := 10) g14.1]; try rfl) ?_
      obtain ⟨r16, F16, B16, hc16, hf⟩ := gbind hf
      refine va_callv (va_runV (As := []) (rest := []) ⟨hx, hb, hml, hown, hts⟩ (c_Tokens_advance (l := l) hc16) (cwV 0 hts (gdV k_3_180 k_3_152 k_3_153 k_1_5 k_3_154) rfl rfl rfl (by decide +kernel) ⟨by dsimp only; omega, by dsimp only; omega⟩) (zPV X hZ15 hS15 (ci := 10) g14.1 g14.2 (r := (RX10, TX10, 9)) rfl []) rfl rfl hl.1 rfl (lv_room (Nat.le_of_ble_eq_true rfl)) d_5_34_107 ⟨Nat.le_of_ble_eq_true rfl, Nat.le_of_ble_eq_true rfl⟩) hS15 (fun q _ h => zAin X hS15 q h) (zAin X hS15) (fun u16 t16 H16 locs16 ht16 hv16 hw16 hB16 hz16 hk16 hS16 => ?_)
      have hZ16 := zBack X ht16 hB16
      refine lv_aload_n hx hb d_5_34_110 rfl (lv_at hl 2 rfl) ?_
      refine lv_iload_n hx hb d_5_34_111 rfl (lv_at hl 3 rfl) ?_
      obtain ⟨r17, F17, B17, hc17, hf⟩ := gbind hf
      refine va_calli (va_runV (As := [.int (iI l1)]) (rest := []) ⟨hx, hb, hml, hown, hts⟩ (ho.1 hc17) (cwV 1 hts (gdV k_3_212 k_3_214 ks_10 k_1_4 k_3_215) rfl rfl rfl (by decide +kernel) ⟨by dsimp only; omega, by dsimp only; omega⟩) (zPV X hZ16 hS16 (ci := 3) g1.1 g1.2 (r := (RX3, TX3, 22)) rfl [.int (iI l1)]) rfl rfl hl.1 rfl (lv_room (Nat.le_of_ble_eq_true rfl)) d_5_34_112 ⟨Nat.le_of_ble_eq_true rfl, Nat.le_of_ble_eq_true rfl⟩) hS16 (fun q _ h => zAin X hS16 q h) (zAin X hS16) (fun p17 u17 t17 H17 locs17 ht17 hv17 hw17 hB17 hz17 hk17 hS17 => ?_)
      have hZ17 := zBack X ht17 hB17
      subst hw17
      obtain ⟨g18, hf⟩ := gif hf
      cases hf
      exact W.zret hx hb hr (zbool g18) (fun t ht hW => ⟨⟨_, (), rfl, rfl, by rw [ht]; exact hZ17, va_K.moved hW.alike hK⟩, hS17.F ht⟩) hS17.2.2 d_5_34_115 hlk
    · replace hf := gneg hf h10
      refine lv_aload_n hx hb d_5_34_56 rfl (lv_at hl 2 rfl) ?_
      refine lv_iconst (v := iI 2) hx hb d_5_34_57 rfl ?_
      obtain ⟨r19, F19, B19, hc19, hf⟩ := gbind hf
      refine va_calli (va_runV (As := [.int (iI 2)]) (rest := []) ⟨hx, hb, hml, hown, hts⟩ (c_Parser_refuse (l := l) hc19) (cwV 1 hts (gdV k_3_196 k_3_198 ks_7 k_1_4 k_3_199) rfl rfl rfl (by decide +kernel) ⟨by dsimp only; omega, by dsimp only; omega⟩) (zPV X hZ7 hS7 (ci := 3) g1.1 g1.2 (r := (RX3, TX3, 22)) rfl [.int (iI 2)]) rfl rfl hl.1 rfl (lv_room (Nat.le_of_ble_eq_true rfl)) d_5_34_58 ⟨Nat.le_of_ble_eq_true rfl, Nat.le_of_ble_eq_true rfl⟩) hS7 (fun q _ h => zAin X hS7 q h) (zAin X hS7) (fun p19 u19 t19 H19 locs19 ht19 hv19 hw19 hB19 hz19 hk19 hS19 => ?_)
      have hZ19 := zBack X ht19 hB19
      subst hw19
      obtain ⟨g20, hf⟩ := gif hf
      cases hf
      exact W.zret hx hb hr (zbool g20) (fun t ht hW => ⟨⟨_, (), rfl, rfl, by rw [ht]; exact hZ19, va_K.moved hW.alike hK⟩, hS19.F ht⟩) hS19.2.2 d_5_34_61 hlk
  · replace hf := gneg hf h4
    refine lv_aload_n hx hb d_5_34_11 rfl (lv_at hl 0 rfl) ?_
    refine lv_iconst (v := iI 2) hx hb d_5_34_12 rfl ?_
    obtain ⟨r21, F21, B21, hc21, hf⟩ := gbind hf
    refine va_calli (va_runV (As := [.int (iI 2)]) (rest := []) ⟨hx, hb, hml, hown, hts⟩ (c_Parser_refuse (l := l) hc21) (cwV 1 hts (gdV k_3_196 k_3_198 ks_7 k_1_4 k_3_199) rfl rfl rfl (by decide +kernel) ⟨by dsimp only; omega, by dsimp only; omega⟩) (zPV X hZ hS (ci := 3) g1.1 g1.2 (r := (RX3, TX3, 22)) rfl [.int (iI 2)]) rfl rfl hl.1 rfl (lv_room (Nat.le_of_ble_eq_true rfl)) d_5_34_13 ⟨Nat.le_of_ble_eq_true rfl, Nat.le_of_ble_eq_true rfl⟩) hS (fun q _ h => zAin X hS q h) (zAin X hS) (fun p21 u21 t21 H21 locs21 ht21 hv21 hw21 hB21 hz21 hk21 hS21 => ?_)
    have hZ21 := zBack X ht21 hB21
    subst hw21
    obtain ⟨g22, hf⟩ := gif hf
    cases hf
    exact W.zret hx hb hr (zbool g22) (fun t ht hW => ⟨⟨_, (), rfl, rfl, by rw [ht]; exact hZ21, va_K.moved hW.alike hK⟩, hS21.F ht⟩) hS21.2.2 d_5_34_16 hlk

noncomputable def fb_Parser_takeMirror (o : oT_CP) (K : zK) (l0 : Int) (l1 : Int) (F : zF) (B : zB) : zO := if 0 ≤ l0 ∧ l0 < K.2 3 then if 0 ≤ (F 3 l0 11) ∧ (F 3 l0 11) < K.2 10 then if r32 (F 10 (F 3 l0 11) 0) then (if (F 10 (F 3 l0 11) 0) = 2 then if 0 ≤ l1 ∧ l1 < 3000 then zbind (f_S_naturalTone K (F 10 (F 3 l0 11) 3) F (zup4 B 3 l0 2 l1 (2 * (F 10 (F 3 l0 11) 3)))) (fun r7 F7 B7 => if 0 ≤ (F7 3 l0 11) ∧ (F7 3 l0 11) < K.2 10 then zbind (f_Tokens_advance K (F7 3 l0 11) F7 (zup4 B7 3 l0 3 l1 (2 * (r7 + (F7 10 (F7 3 l0 11) 4))))) (fun r10 F10 B10 => zbind (o.1 l0 l1 F10 B10) (fun r11 F11 B11 => if (r11 = 0 ∨ r11 = 1) then some (r11, F11, B11) else none)) else none) else none else zbind (f_Parser_refuse K l0 2 F B) (fun r13 F13 B13 => if (r13 = 0 ∨ r13 = 1) then some (r13, F13, B13) else none)) else none else none else none
set_option maxHeartbeats 4000000 in
set_option maxRecDepth 100000 in
theorem cb_Parser_takeMirror {l : Launch} {D : va_G} {ca : Nat → ClassId} {ad : Nat → Int → Nat → Nat} {L : List Nat} {aS vS : Nat → Nat} {sz : Nat} {K : zK} {d : Nat} {o : oT_CP} (ho : oH_CP K l D ca ad L aS vS d o)  {l0 : Int} {l1 : Int} {F F9 : zF} {B B9 : zB} {r : Int} (hf : fb_Parser_takeMirror o K l0 l1 F B = some (r, F9, B9)) : Met l ({ cls := "StaveHouse$Parser", name := "takeMirror", desc := "(I)Z" } : Jvm.MethodName) (Cond.code ({ cls := "StaveHouse$Parser", name := "takeMirror", desc := "(I)Z" } : Jvm.MethodName) prog_5_method_35_code 2 (Option.some Jvm.ClassFile.FieldType.boolean) :: wAll) ({ frames := d + 1 + 7, cells := 0, slots := 0, locals := 25 * (d + 1) + 136 } : Room) (va_Pc [.ref (ad 3 l0 0), .int (iI l1)] (zPre D ca ad lnC K.2 L aS vS F B sz)) (Q_Parser_takeMirror K D ca ad L r F9 B9 (zA L sz)) 0 0 (zA L sz) := by
  refine zMet (Qc := Q_Parser_takeMirror K D ca ad L r F9 B9) (lv := [(0, .ref (ad 3 l0 0)), (1, .int (iI l1))]) (by decide) (Nat.le_of_ble_eq_true rfl) rfl (fun A p e s m below meth c ls X hZ hS hl => ?_)
  obtain ⟨hx, hb, hr, hml, hown, hts, hlk, hK, hA, hL, hX⟩ := id X
  replace hf : (if 0 ≤ l0 ∧ l0 < K.2 3 then if 0 ≤ (F 3 l0 11) ∧ (F 3 l0 11) < K.2 10 then if r32 (F 10 (F 3 l0 11) 0) then (if (F 10 (F 3 l0 11) 0) = 2 then if 0 ≤ l1 ∧ l1 < 3000 then zbind (f_S_naturalTone K (F 10 (F 3 l0 11) 3) F (zup4 B 3 l0 2 l1 (2 * (F 10 (F 3 l0 11) 3)))) (fun r7 F7 B7 => if 0 ≤ (F7 3 l0 11) ∧ (F7 3 l0 11) < K.2 10 then zbind (f_Tokens_advance K (F7 3 l0 11) F7 (zup4 B7 3 l0 3 l1 (2 * (r7 + (F7 10 (F7 3 l0 11) 4))))) (fun r10 F10 B10 => zbind (o.1 l0 l1 F10 B10) (fun r11 F11 B11 => if (r11 = 0 ∨ r11 = 1) then some (r11, F11, B11) else none)) else none) else none else zbind (f_Parser_refuse K l0 2 F B) (fun r13 F13 B13 => if (r13 = 0 ∨ r13 = 1) then some (r13, F13, B13) else none)) else none else none else none) = some (r, F9, B9) := hf
  refine lv_aload_n hx hb d_5_35_0 rfl (lv_at hl 0 rfl) ?_
  obtain ⟨g1, hf⟩ := gif hf
  refine zget (ci := 3) (C := RX3) (T := TX3) (v := va_rf (zrf ad 10 (F 3 l0 11))) (k := 11) hx hb hts inW_3 hown hK hZ g1.1 g1.2 rfl (by decide) k_1_128 rfl d_5_35_1 ?_
  obtain ⟨g2, hf⟩ := gif hf
  refine zunrf g2.1 ?_
  refine zget (ci := 10) (C := RX10) (T := TX10) (v := .int (iI (F 10 (F 3 l0 11) 0))) (k := 0) hx hb hts inW_10 hown hK hZ g2.1 g2.2 rfl (by decide) k_1_72 rfl d_5_35_4 ?_
  refine lv_iconst (v := iI 2) hx hb d_5_35_7 rfl ?_
  obtain ⟨g3, hf⟩ := gif hf
  refine zeq (tgt := 17) hx hb g3 (by decide) d_5_35_8 (by decide) (fun h4 => ?_) (fun h4 => ?_)
  · replace hf := gpos hf h4
    refine lv_aload_n hx hb d_5_35_17 rfl (lv_at hl 0 rfl) ?_
    refine zget (ci := 3) (C := RX3) (T := TX3) (v := .ref (ad 3 l0 (2 + 1))) (k := 2) hx hb hts inW_3 hown hK hZ g1.1 g1.2 rfl (by decide) k_1_110 rfl d_5_35_18 ?_
    refine lv_iload_n hx hb d_5_35_21 rfl (lv_at hl 1 rfl) ?_
    refine lv_iconst (v := iI 2) hx hb d_5_35_22 rfl ?_
    refine lv_aload_n hx hb d_5_35_23 rfl (lv_at hl 0 rfl) ?_
    refine zget (ci := 3) (C := RX3) (T := TX3) (v := va_rf (zrf ad 10 (F 3 l0 11))) (k := 11) hx hb hts inW_3 hown hK hZ g1.1 g1.2 rfl (by decide) k_1_128 rfl d_5_35_24 ?_
    refine zunrf g2.1 ?_
    refine zget (ci := 10) (C := RX10) (T := TX10) (v := .int (iI (F 10 (F 3 l0 11) 3))) (k := 3) hx hb hts inW_10 hown hK hZ g2.1 g2.2 rfl (by decide) k_1_79 rfl d_5_35_27 ?_
    refine zmul hx hb d_5_35_30 ?_
    obtain ⟨g5, hf⟩ := gif hf
    refine zast (ci := 3) (k := 2) hx hb hK rfl hZ hS g1.1 g1.2 rfl (Nat.le_of_ble_eq_true rfl) g5.1 g5.2 d_5_35_31 (fun H6 locs6 hZ6 hS6 => ?_)
    refine lv_aload_n hx hb d_5_35_32 rfl (lv_at hl 0 rfl) ?_
    refine zget (ci := 3) (C := RX3) (T := TX3) (v := .ref (ad 3 l0 (3 + 1))) (k := 3) hx hb hts inW_3 hown hK hZ6 g1.1 g1.2 rfl (by decide) k_1_112 rfl d_5_35_33 ?_
    refine lv_iload_n hx hb d_5_35_36 rfl (lv_at hl 1 rfl) ?_
    refine lv_iconst (v := iI 2) hx hb d_5_35_37 rfl ?_
    refine lv_aload_n hx hb d_5_35_38 rfl (lv_at hl 0 rfl) ?_
    refine zget (ci := 3) (C := RX3) (T := TX3) (v := va_rf (zrf ad 10 (F 3 l0 11))) (k := 11) hx hb hts inW_3 hown hK hZ6 g1.1 g1.2 rfl (by decide) k_1_128 rfl d_5_35_39 ?_
    refine zunrf g2.1 ?_
    refine zget (ci := 10) (C := RX10) (T := TX10) (v := .int (iI (F 10 (F 3 l0 11) 3))) (k := 3) hx hb hts inW_10 hown hK hZ6 g2.1 g2.2 rfl (by decide) k_1_79 rfl d_5_35_42 ?_
    obtain ⟨r7, F7, B7, hc7, hf⟩ := gbind hf
    refine va_calli (va_runSN (As := [.int (iI (F 10 (F 3 l0 11) 3))]) (rest := [.int (iI 2), .int (iI l1), .ref (ad 3 l0 (3 + 1))]) ⟨hx, hb, hml, hown, hts⟩ (c_S_naturalTone (l := l) hc7) ⟨va_cnB 1 hts (gdC k_4_64) rfl rfl rfl (hX.1 _ (List.mem_of_getElem? (i := 12) rfl)) (hts _ k_1_1) (by decide +kernel) ⟨by dsimp only; omega, by dsimp only; omega⟩, hts _ k_4_63, trivial⟩ (zPS X hZ6 hS6 [.int (iI (F 10 (F 3 l0 11) 3))]) rfl rfl hl.1 rfl (lv_room (Nat.le_of_ble_eq_true rfl)) d_5_35_45 ⟨Nat.le_of_ble_eq_true rfl, Nat.le_of_ble_eq_true rfl⟩) hS6 (fun q _ h => zAin X hS6 q h) (zAin X hS6) (fun p7 u7 t7 H7 locs7 ht7 hv7 hw7 hB7 hz7 hk7 hS7 => ?_)
    have hZ7 := zBack X ht7 hB7
    subst hw7
    refine lv_aload_n hx hb d_5_35_48 rfl (lv_at hl 0 rfl) ?_
    refine zget (ci := 3) (C := RX3) (T := TX3) (v := va_rf (zrf ad 10 (F7 3 l0 11))) (k := 11) hx hb hts inW_3 hown hK hZ7 g1.1 g1.2 rfl (by decide) k_1_128 rfl d_5_35_49 ?_
    obtain ⟨g8, hf⟩ := gif hf
    refine zunrf g8.1 ?_
    refine zget (ci := 10) (C := RX10) (T := TX10) (v := .int (iI (F7 10 (F7 3 l0 11) 4))) (k := 4) hx hb hts inW_10 hown hK hZ7 g8.1 g8.2 rfl (by decide) k_1_81 rfl d_5_35_52 ?_
    refine zadd hx hb d_5_35_55 ?_
    refine zmul hx hb d_5_35_56 ?_
    refine zast (ci := 3) (k := 3) hx hb hK rfl hZ7 hS7 g1.1 g1.2 rfl (Nat.le_of_ble_eq_true rfl) g5.1 g5.2 d_5_35_57 (fun H9 locs9 hZ9 hS9 => ?_)
    refine lv_aload_n hx hb d_5_35_58 rfl (lv_at hl 0 rfl) ?_
    refine zget (ci := 3) (C := RX3) (T := TX3) (v := va_rf (zrf ad 10 (F7 3 l0 11))) (k := 11) hx hb hts inW_3 hown hK hZ9 g1.1 g1.2 rfl (by decide) k_1_128 rfl d_5_35_59 ?_
    refine W.eq (g2 := F0 m 62 ls [.ref (ad 10 (F7 3 l0 11) 0)]) (by rw [zrf_pos (ad := ad) (t := 10) g8.1]; try rfl) ?_
    obtain ⟨r10, F10, B10, hc10, hf⟩ := gbind hf
    refine va_callv (va_runV (As := []) (rest := []) ⟨hx, hb, hml, hown, hts⟩ (c_Tokens_advance (l := l) hc10) (cwV 0 hts (gdV k_3_180 k_3_152 k_3_153 k_1_5 k_3_154) rfl rfl rfl (by decide +kernel) ⟨by dsimp only; omega, by dsimp only; omega⟩) (zPV X hZ9 hS9 (ci := 10) g8.1 g8.2 (r := (RX10, TX10, 9)) rfl []) rfl rfl hl.1 rfl (lv_room (Nat.le_of_ble_eq_true rfl)) d_5_35_62 ⟨Nat.le_of_ble_eq_true rfl, Nat.le_of_ble_eq_true rfl⟩) hS9 (fun q _ h => zAin X hS9 q h) (zAin X hS9) (fun u10 t10 H10 locs10 ht10 hv10 hw10 hB10 hz10 hk10 hS10 => ?_)
    have hZ10 := zBack X ht10 hB10
    refine lv_aload_n hx hb d_5_35_65 rfl (lv_at hl 0 rfl) ?_
    refine lv_iload_n hx hb d_5_35_66 rfl (lv_at hl 1 rfl) ?_
    obtain ⟨r11, F11, B11, hc11, hf⟩ := gbind hf
    refine va_calli (va_runV (As := [.int (iI l1)]) (rest := []) ⟨hx, hb, hml, hown, hts⟩ (ho.1 hc11) (cwV 1 hts (gdV k_3_212 k_3_214 ks_10 k_1_4 k_3_215) rfl rfl rfl (by decide +kernel) ⟨by dsimp only; omega, by dsimp only; omega⟩) (zPV X hZ10 hS10 (ci := 3) g1.1 g1.2 (r := (RX3, TX3, 22)) rfl [.int (iI l1)]) rfl rfl hl.1 rfl (lv_room (Nat.le_of_ble_eq_true rfl)) d_5_35_67 ⟨Nat.le_of_ble_eq_true rfl, Nat.le_of_ble_eq_true rfl⟩) hS10 (fun q _ h => zAin X hS10 q h) (zAin X hS10) (fun p11 u11 t11 H11 locs11 ht11 hv11 hw11 hB11 hz11 hk11 hS11 => ?_)
    have hZ11 := zBack X ht11 hB11
    subst hw11
    obtain ⟨g12, hf⟩ := gif hf
    cases hf
    exact W.zret hx hb hr (zbool g12) (fun t ht hW => ⟨⟨_, (), rfl, rfl, by rw [ht]; exact hZ11, va_K.moved hW.alike hK⟩, hS11.F ht⟩) hS11.2.2 d_5_35_70 hlk
  · replace hf := gneg hf h4
    refine lv_aload_n hx hb d_5_35_11 rfl (lv_at hl 0 rfl) ?_
    refine lv_iconst (v := iI 2) hx hb d_5_35_12 rfl ?_
    obtain ⟨r13, F13, B13, hc13, hf⟩ := gbind hf
    refine va_calli (va_runV (As := [.int (iI 2)]) (rest := []) ⟨hx, hb, hml, hown, hts⟩ (c_Parser_refuse (l := l) hc13) (cwV 1 hts (gdV k_3_196 k_3_198 ks_7 k_1_4 k_3_199) rfl rfl rfl (by decide +kernel) ⟨by dsimp only; omega, by dsimp only; omega⟩) (zPV X hZ hS (ci := 3) g1.1 g1.2 (r := (RX3, TX3, 22)) rfl [.int (iI 2)]) rfl rfl hl.1 rfl (lv_room (Nat.le_of_ble_eq_true rfl)) d_5_35_13 ⟨Nat.le_of_ble_eq_true rfl, Nat.le_of_ble_eq_true rfl⟩) hS (fun q _ h => zAin X hS q h) (zAin X hS) (fun p13 u13 t13 H13 locs13 ht13 hv13 hw13 hB13 hz13 hk13 hS13 => ?_)
    have hZ13 := zBack X ht13 hB13
    subst hw13
    obtain ⟨g14, hf⟩ := gif hf
    cases hf
    exact W.zret hx hb hr (zbool g14) (fun t ht hW => ⟨⟨_, (), rfl, rfl, by rw [ht]; exact hZ13, va_K.moved hW.alike hK⟩, hS13.F ht⟩) hS13.2.2 d_5_35_16 hlk

noncomputable def gr_CP (K : zK) : Nat → oT_CP
  | 0 => (fun _ _ _ _ => none, fun _ _ _ _ => none, fun _ _ _ _ => none, fun _ _ _ _ => none, fun _ _ _ _ => none, fun _ _ _ _ => none, fun _ _ _ _ => none, fun _ _ _ _ => none)
  | d + 1 => (fun l0 l1 F B => fb_Parser_takeBlock (gr_CP K d) K l0 l1 F B, fun l0 l1 F B => fb_Parser_takeMusic (gr_CP K d) K l0 l1 F B, fun l0 l1 F B => fb_Parser_takeItem (gr_CP K d) K l0 l1 F B, fun l0 l1 F B => fb_Parser_takeBracket (gr_CP K d) K l0 l1 F B, fun l0 l1 F B => fb_Parser_takeRepeat (gr_CP K d) K l0 l1 F B, fun l0 l1 F B => fb_Parser_takeAlternatives (gr_CP K d) K l0 l1 F B, fun l0 l1 F B => fb_Parser_takeMove (gr_CP K d) K l0 l1 F B, fun l0 l1 F B => fb_Parser_takeMirror (gr_CP K d) K l0 l1 F B)
theorem gh_CP {l : Launch} {D : va_G} {ca : Nat → ClassId} {ad : Nat → Int → Nat → Nat} {L : List Nat} {aS vS : Nat → Nat} {K : zK} : ∀ d, oH_CP K l D ca ad L aS vS d (gr_CP K d) := by
  intro d
  induction d with
  | zero => exact ⟨(fun hf => by cases hf), (fun hf => by cases hf), (fun hf => by cases hf), (fun hf => by cases hf), (fun hf => by cases hf), (fun hf => by cases hf), (fun hf => by cases hf), (fun hf => by cases hf)⟩
  | succ d ih => exact ⟨(fun hf => cb_Parser_takeBlock ih hf), (fun hf => cb_Parser_takeMusic ih hf), (fun hf => cb_Parser_takeItem ih hf), (fun hf => cb_Parser_takeBracket ih hf), (fun hf => cb_Parser_takeRepeat ih hf), (fun hf => cb_Parser_takeAlternatives ih hf), (fun hf => cb_Parser_takeMove ih hf), (fun hf => cb_Parser_takeMirror ih hf)⟩
noncomputable def f_Parser_takeBlock (K : zK) (l0 : Int) (l1 : Int) (F : zF) (B : zB) : zO := (gr_CP K 60).1 l0 l1 F B
theorem c_Parser_takeBlock {l : Launch} {D : va_G} {ca : Nat → ClassId} {ad : Nat → Int → Nat → Nat} {L : List Nat} {aS vS : Nat → Nat} {sz : Nat} {K : zK} {l0 : Int} {l1 : Int} {F F9 : zF} {B B9 : zB} {r : Int} (hf : f_Parser_takeBlock K l0 l1 F B = some (r, F9, B9)) : Met l ({ cls := "StaveHouse$Parser", name := "takeBlock", desc := "(I)Z" } : Jvm.MethodName) (Cond.code ({ cls := "StaveHouse$Parser", name := "takeBlock", desc := "(I)Z" } : Jvm.MethodName) prog_5_method_19_code 2 (Option.some Jvm.ClassFile.FieldType.boolean) :: wAll) ({ frames := 67, cells := 0, slots := 0, locals := 1636 } : Room) (va_Pc [.ref (ad 3 l0 0), .int (iI l1)] (zPre D ca ad lnC K.2 L aS vS F B sz)) (Q_Parser_takeBlock K D ca ad L r F9 B9 (zA L sz)) 0 0 (zA L sz) := (gh_CP 60).1 hf
noncomputable def f_Parser_takeMusic (K : zK) (l0 : Int) (l1 : Int) (F : zF) (B : zB) : zO := (gr_CP K 60).2.1 l0 l1 F B
theorem c_Parser_takeMusic {l : Launch} {D : va_G} {ca : Nat → ClassId} {ad : Nat → Int → Nat → Nat} {L : List Nat} {aS vS : Nat → Nat} {sz : Nat} {K : zK} {l0 : Int} {l1 : Int} {F F9 : zF} {B B9 : zB} {r : Int} (hf : f_Parser_takeMusic K l0 l1 F B = some (r, F9, B9)) : Met l ({ cls := "StaveHouse$Parser", name := "takeMusic", desc := "(I)Z" } : Jvm.MethodName) (Cond.code ({ cls := "StaveHouse$Parser", name := "takeMusic", desc := "(I)Z" } : Jvm.MethodName) prog_5_method_20_code 6 (Option.some Jvm.ClassFile.FieldType.boolean) :: wAll) ({ frames := 67, cells := 0, slots := 0, locals := 1636 } : Room) (va_Pc [.ref (ad 3 l0 0), .int (iI l1)] (zPre D ca ad lnC K.2 L aS vS F B sz)) (Q_Parser_takeMusic K D ca ad L r F9 B9 (zA L sz)) 0 0 (zA L sz) := (gh_CP 60).2.1 hf
noncomputable def f_Parser_takeItem (K : zK) (l0 : Int) (l1 : Int) (F : zF) (B : zB) : zO := (gr_CP K 60).2.2.1 l0 l1 F B
theorem c_Parser_takeItem {l : Launch} {D : va_G} {ca : Nat → ClassId} {ad : Nat → Int → Nat → Nat} {L : List Nat} {aS vS : Nat → Nat} {sz : Nat} {K : zK} {l0 : Int} {l1 : Int} {F F9 : zF} {B B9 : zB} {r : Int} (hf : f_Parser_takeItem K l0 l1 F B = some (r, F9, B9)) : Met l ({ cls := "StaveHouse$Parser", name := "takeItem", desc := "(I)Z" } : Jvm.MethodName) (Cond.code ({ cls := "StaveHouse$Parser", name := "takeItem", desc := "(I)Z" } : Jvm.MethodName) prog_5_method_22_code 2 (Option.some Jvm.ClassFile.FieldType.boolean) :: wAll) ({ frames := 67, cells := 0, slots := 0, locals := 1636 } : Room) (va_Pc [.ref (ad 3 l0 0), .int (iI l1)] (zPre D ca ad lnC K.2 L aS vS F B sz)) (Q_Parser_takeItem K D ca ad L r F9 B9 (zA L sz)) 0 0 (zA L sz) := (gh_CP 60).2.2.1 hf
noncomputable def f_Parser_takeBracket (K : zK) (l0 : Int) (l1 : Int) (F : zF) (B : zB) : zO := (gr_CP K 60).2.2.2.1 l0 l1 F B
theorem c_Parser_takeBracket {l : Launch} {D : va_G} {ca : Nat → ClassId} {ad : Nat → Int → Nat → Nat} {L : List Nat} {aS vS : Nat → Nat} {sz : Nat} {K : zK} {l0 : Int} {l1 : Int} {F F9 : zF} {B B9 : zB} {r : Int} (hf : f_Parser_takeBracket K l0 l1 F B = some (r, F9, B9)) : Met l ({ cls := "StaveHouse$Parser", name := "takeBracket", desc := "(I)Z" } : Jvm.MethodName) (Cond.code ({ cls := "StaveHouse$Parser", name := "takeBracket", desc := "(I)Z" } : Jvm.MethodName) prog_5_method_30_code 2 (Option.some Jvm.ClassFile.FieldType.boolean) :: wAll) ({ frames := 67, cells := 0, slots := 0, locals := 1636 } : Room) (va_Pc [.ref (ad 3 l0 0), .int (iI l1)] (zPre D ca ad lnC K.2 L aS vS F B sz)) (Q_Parser_takeBracket K D ca ad L r F9 B9 (zA L sz)) 0 0 (zA L sz) := (gh_CP 60).2.2.2.1 hf
noncomputable def f_Parser_takeRepeat (K : zK) (l0 : Int) (l1 : Int) (F : zF) (B : zB) : zO := (gr_CP K 60).2.2.2.2.1 l0 l1 F B
theorem c_Parser_takeRepeat {l : Launch} {D : va_G} {ca : Nat → ClassId} {ad : Nat → Int → Nat → Nat} {L : List Nat} {aS vS : Nat → Nat} {sz : Nat} {K : zK} {l0 : Int} {l1 : Int} {F F9 : zF} {B B9 : zB} {r : Int} (hf : f_Parser_takeRepeat K l0 l1 F B = some (r, F9, B9)) : Met l ({ cls := "StaveHouse$Parser", name := "takeRepeat", desc := "(I)Z" } : Jvm.MethodName) (Cond.code ({ cls := "StaveHouse$Parser", name := "takeRepeat", desc := "(I)Z" } : Jvm.MethodName) prog_5_method_31_code 2 (Option.some Jvm.ClassFile.FieldType.boolean) :: wAll) ({ frames := 67, cells := 0, slots := 0, locals := 1636 } : Room) (va_Pc [.ref (ad 3 l0 0), .int (iI l1)] (zPre D ca ad lnC K.2 L aS vS F B sz)) (Q_Parser_takeRepeat K D ca ad L r F9 B9 (zA L sz)) 0 0 (zA L sz) := (gh_CP 60).2.2.2.2.1 hf
noncomputable def f_Parser_takeAlternatives (K : zK) (l0 : Int) (l1 : Int) (F : zF) (B : zB) : zO := (gr_CP K 60).2.2.2.2.2.1 l0 l1 F B
theorem c_Parser_takeAlternatives {l : Launch} {D : va_G} {ca : Nat → ClassId} {ad : Nat → Int → Nat → Nat} {L : List Nat} {aS vS : Nat → Nat} {sz : Nat} {K : zK} {l0 : Int} {l1 : Int} {F F9 : zF} {B B9 : zB} {r : Int} (hf : f_Parser_takeAlternatives K l0 l1 F B = some (r, F9, B9)) : Met l ({ cls := "StaveHouse$Parser", name := "takeAlternatives", desc := "(I)Z" } : Jvm.MethodName) (Cond.code ({ cls := "StaveHouse$Parser", name := "takeAlternatives", desc := "(I)Z" } : Jvm.MethodName) prog_5_method_32_code 5 (Option.some Jvm.ClassFile.FieldType.boolean) :: wAll) ({ frames := 67, cells := 0, slots := 0, locals := 1636 } : Room) (va_Pc [.ref (ad 3 l0 0), .int (iI l1)] (zPre D ca ad lnC K.2 L aS vS F B sz)) (Q_Parser_takeAlternatives K D ca ad L r F9 B9 (zA L sz)) 0 0 (zA L sz) := (gh_CP 60).2.2.2.2.2.1 hf
noncomputable def f_Parser_takeMove (K : zK) (l0 : Int) (l1 : Int) (F : zF) (B : zB) : zO := (gr_CP K 60).2.2.2.2.2.2.1 l0 l1 F B
theorem c_Parser_takeMove {l : Launch} {D : va_G} {ca : Nat → ClassId} {ad : Nat → Int → Nat → Nat} {L : List Nat} {aS vS : Nat → Nat} {sz : Nat} {K : zK} {l0 : Int} {l1 : Int} {F F9 : zF} {B B9 : zB} {r : Int} (hf : f_Parser_takeMove K l0 l1 F B = some (r, F9, B9)) : Met l ({ cls := "StaveHouse$Parser", name := "takeMove", desc := "(I)Z" } : Jvm.MethodName) (Cond.code ({ cls := "StaveHouse$Parser", name := "takeMove", desc := "(I)Z" } : Jvm.MethodName) prog_5_method_34_code 4 (Option.some Jvm.ClassFile.FieldType.boolean) :: wAll) ({ frames := 67, cells := 0, slots := 0, locals := 1636 } : Room) (va_Pc [.ref (ad 3 l0 0), .int (iI l1)] (zPre D ca ad lnC K.2 L aS vS F B sz)) (Q_Parser_takeMove K D ca ad L r F9 B9 (zA L sz)) 0 0 (zA L sz) := (gh_CP 60).2.2.2.2.2.2.1 hf
noncomputable def f_Parser_takeMirror (K : zK) (l0 : Int) (l1 : Int) (F : zF) (B : zB) : zO := (gr_CP K 60).2.2.2.2.2.2.2 l0 l1 F B
theorem c_Parser_takeMirror {l : Launch} {D : va_G} {ca : Nat → ClassId} {ad : Nat → Int → Nat → Nat} {L : List Nat} {aS vS : Nat → Nat} {sz : Nat} {K : zK} {l0 : Int} {l1 : Int} {F F9 : zF} {B B9 : zB} {r : Int} (hf : f_Parser_takeMirror K l0 l1 F B = some (r, F9, B9)) : Met l ({ cls := "StaveHouse$Parser", name := "takeMirror", desc := "(I)Z" } : Jvm.MethodName) (Cond.code ({ cls := "StaveHouse$Parser", name := "takeMirror", desc := "(I)Z" } : Jvm.MethodName) prog_5_method_35_code 2 (Option.some Jvm.ClassFile.FieldType.boolean) :: wAll) ({ frames := 67, cells := 0, slots := 0, locals := 1636 } : Room) (va_Pc [.ref (ad 3 l0 0), .int (iI l1)] (zPre D ca ad lnC K.2 L aS vS F B sz)) (Q_Parser_takeMirror K D ca ad L r F9 B9 (zA L sz)) 0 0 (zA L sz) := (gh_CP 60).2.2.2.2.2.2.2 hf
noncomputable abbrev Q_Parser_takeLet (K : zK) (D : va_G) (ca : Nat → ClassId) (ad : Nat → Int → Nat → Nat) (L : List Nat) (r : Int) (F : zF) (B : zB) (A : Nat → Prop) : Array Value → State → Outcome → State → Prop := va_Qi (S := Unit) (fun p _ => p = iI r) (fun _ => zPo D ca ad lnC K.2 L F B A) A
noncomputable def f_Parser_takeLet_80 (K : zK)  (F : zF) (B : zB) : zO := some (0, F, B)
set_option maxHeartbeats 4000000 in
set_option maxRecDepth 100000 in
theorem b_Parser_takeLet_80 {D : va_G} {ca : Nat → ClassId} {ad : Nat → Int → Nat → Nat} {L : List Nat} {aS vS : Nat → Nat} {A : Nat → Prop} {p : Program} {l : Launch} {e : Env} {s : State} {m : MethodId} {args : Array Value} {below : List Frame} {meth : Method} {c : Code} {K : zK} {r : Int} {F9 : zF} {B9 : zB} (X : zX D ca L aS vS A p s m args meth c prog_5_method_9_code 4 (Option.some Jvm.ClassFile.FieldType.boolean) "StaveHouse$Parser")  {F : zF} {B : zB} {H : Heap} {locs : List Loc} {ls : Array Slot} (hf : f_Parser_takeLet_80 K  F B = some (r, F9, B9)) (hZ : zH D ca ad lnC K.2 L F B A H) (hS : va_S A s.heap H locs) (hl : lv_has ls 4 []) : W p l e ({ frames := 68, cells := 0, slots := 0, locals := 1657 } : Room) s m args below meth c H locs 0 0 (MQ below (Q_Parser_takeLet K D ca ad L r F9 B9 A) args s 0 0 A) (F0 m 80 ls []) := by
  obtain ⟨hx, hb, hr, hml, hown, hts, hlk, hK, hA, hL, hX⟩ := id X
  replace hf : (some (0, F, B)) = some (r, F9, B9) := hf
  refine lv_iconst (v := iI 0) hx hb d_5_9_80 rfl ?_
  cases hf
  exact W.zret hx hb hr rfl (fun t ht hW => ⟨⟨_, (), rfl, rfl, by rw [ht]; exact hZ, va_K.moved hW.alike hK⟩, hS.F ht⟩) hS.2.2 d_5_9_81 hlk

noncomputable def f_Parser_takeLet (K : zK) (l0 : Int) (F : zF) (B : zB) : zO := if 0 ≤ l0 ∧ l0 < K.2 3 then zbind (f_Parser_newItem K l0 10 F B) (fun r2 F2 B2 => if 0 ≤ (F2 3 l0 11) ∧ (F2 3 l0 11) < K.2 10 then zbind (f_Tokens_advance K (F2 3 l0 11) F2 B2) (fun r4 F4 B4 => zbind (f_Parser_isName K l0 F4 B4) (fun r5 F5 B5 => if r32 r5 then (if r5 = 0 then zbind (f_Parser_refuse K l0 2 F5 B5) (fun r27 F27 B27 => if (r27 = 0 ∨ r27 = 1) then some (r27, F27, B27) else none) else if 0 ≤ (F5 3 l0 11) ∧ (F5 3 l0 11) < K.2 10 then zbind (f_Parser_letNamed K l0 (F5 10 (F5 3 l0 11) 2) F5 B5) (fun r9 F9 B9 => if r32 r9 then (if r9 = (-1) then if 0 ≤ (F9 3 l0 11) ∧ (F9 3 l0 11) < K.2 10 then zbind (f_Tokens_advance K (F9 3 l0 11) F9 B9) (fun r13 F13 B13 => zbind (f_Parser_takeSign K l0 61 (zup3 F13 3 l0 20 32) B13) (fun r15 F15 B15 => if r32 r15 then (if r15 = 0 then f_Parser_takeLet_80 K F15 B15 else zbind (f_Parser_takeBlock K l0 r2 F15 B15) (fun r18 F18 B18 => if r32 r18 then (if r18 = 0 then f_Parser_takeLet_80 K F18 B18 else if 0 ≤ (F18 3 l0 16) ∧ (F18 3 l0 16) < 6 then some (1, (zup3 F18 3 l0 16 ((F18 3 l0 16) + 1)), (zup4 (zup4 B18 3 l0 12 (F18 3 l0 16) (F5 10 (F5 3 l0 11) 2)) 3 l0 13 (F18 3 l0 16) r2)) else none) else none)) else none)) else none else zbind (f_Parser_refuse K l0 4 F9 B9) (fun r25 F25 B25 => if (r25 = 0 ∨ r25 = 1) then some (r25, F25, B25) else none)) else none) else none) else none)) else none) else none
set_option maxHeartbeats 4000000 in
set_option maxRecDepth 100000 in
theorem c_Parser_takeLet {l : Launch} {D : va_G} {ca : Nat → ClassId} {ad : Nat → Int → Nat → Nat} {L : List Nat} {aS vS : Nat → Nat} {sz : Nat} {K : zK}  {l0 : Int} {F F9 : zF} {B B9 : zB} {r : Int} (hf : f_Parser_takeLet K l0 F B = some (r, F9, B9)) : Met l ({ cls := "StaveHouse$Parser", name := "takeLet", desc := "()Z" } : Jvm.MethodName) (Cond.code ({ cls := "StaveHouse$Parser", name := "takeLet", desc := "()Z" } : Jvm.MethodName) prog_5_method_9_code 4 (Option.some Jvm.ClassFile.FieldType.boolean) :: wAll) ({ frames := 68, cells := 0, slots := 0, locals := 1657 } : Room) (va_Pc [.ref (ad 3 l0 0)] (zPre D ca ad lnC K.2 L aS vS F B sz)) (Q_Parser_takeLet K D ca ad L r F9 B9 (zA L sz)) 0 0 (zA L sz) := by
  refine zMet (Qc := Q_Parser_takeLet K D ca ad L r F9 B9) (lv := [(0, .ref (ad 3 l0 0))]) (by decide) (Nat.le_of_ble_eq_true rfl) rfl (fun A p e s m below meth c ls X hZ hS hl => ?_)
  obtain ⟨hx, hb, hr, hml, hown, hts, hlk, hK, hA, hL, hX⟩ := id X
  replace hf : (if 0 ≤ l0 ∧ l0 < K.2 3 then zbind (f_Parser_newItem K l0 10 F B) (fun r2 F2 B2 => if 0 ≤ (F2 3 l0 11) ∧ (F2 3 l0 11) < K.2 10 then zbind (f_Tokens_advance K (F2 3 l0 11) F2 B2) (fun r4 F4 B4 => zbind (f_Parser_isName K l0 F4 B4) (fun r5 F5 B5 => if r32 r5 then (if r5 = 0 then zbind (f_Parser_refuse K l0 2 F5 B5) (fun r27 F27 B27 => if (r27 = 0 ∨ r27 = 1) then some (r27, F27, B27) else none) else if 0 ≤ (F5 3 l0 11) ∧ (F5 3 l0 11) < K.2 10 then zbind (f_Parser_letNamed K l0 (F5 10 (F5 3 l0 11) 2) F5 B5) (fun r9 F9 B9 => if r32 r9 then (if r9 = (-1) then if 0 ≤ (F9 3 l0 11) ∧ (F9 3 l0 11) < K.2 10 then zbind (f_Tokens_advance K (F9 3 l0 11) F9 B9) (fun r13 F13 B13 => zbind (f_Parser_takeSign K l0 61 (zup3 F13 3 l0 20 32) B13) (fun r15 F15 B15 => if r32 r15 then (if r15 = 0 then f_Parser_takeLet_80 K F15 B15 else zbind (f_Parser_takeBlock K l0 r2 F15 B15) (fun r18 F18 B18 => if r32 r18 then (if r18 = 0 then f_Parser_takeLet_80 K F18 B18 else if 0 ≤ (F18 3 l0 16) ∧ (F18 3 l0 16) < 6 then some (1, (zup3 F18 3 l0 16 ((F18 3 l0 16) + 1)), (zup4 (zup4 B18 3 l0 12 (F18 3 l0 16) (F5 10 (F5 3 l0 11) 2)) 3 l0 13 (F18 3 l0 16) r2)) else none) else none)) else none)) else none else zbind (f_Parser_refuse K l0 4 F9 B9) (fun r25 F25 B25 => if (r25 = 0 ∨ r25 = 1) then some (r25, F25, B25) else none)) else none) else none) else none)) else none) else none) = some (r, F9, B9) := hf
  refine lv_aload_n hx hb d_5_9_0 rfl (lv_at hl 0 rfl) ?_
  refine lv_bipush (v := iI 10) hx hb d_5_9_1 (by decide) ?_
  obtain ⟨g1, hf⟩ := gif hf
  obtain ⟨r2, F2, B2, hc2, hf⟩ := gbind hf
  refine va_calli (va_runV (As := [.int (iI 10)]) (rest := []) ⟨hx, hb, hml, hown, hts⟩ (c_Parser_newItem (l := l) hc2) (cwV 1 hts (gdV k_3_175 k_3_177 ks_5 k_1_4 k_3_178) rfl rfl rfl (by decide +kernel) ⟨Nat.le_of_ble_eq_true rfl, Nat.le_of_ble_eq_true rfl⟩) (zPV X hZ hS (ci := 3) g1.1 g1.2 (r := (RX3, TX3, 22)) rfl [.int (iI 10)]) rfl rfl hl.1 rfl (lv_room (Nat.le_of_ble_eq_true rfl)) d_5_9_3 ⟨Nat.le_of_ble_eq_true rfl, Nat.le_of_ble_eq_true rfl⟩) hS (fun q _ h => zAin X hS q h) (zAin X hS) (fun p2 u2 t2 H2 locs2 ht2 hv2 hw2 hB2 hz2 hk2 hS2 => ?_)
  have hZ2 := zBack X ht2 hB2
  subst hw2
  refine lv_istore_n (lv' := [(1, .int (iI r2)), (0, .ref (ad 3 l0 0))]) hx hb d_5_9_6 rfl hl (by decide) rfl (fun ls hl => ?_)
  refine lv_aload_n hx hb d_5_9_7 rfl (lv_at hl 1 rfl) ?_
  refine zget (ci := 3) (C := RX3) (T := TX3) (v := va_rf (zrf ad 10 (F2 3 l0 11))) (k := 11) hx hb hts inW_3 hown hK hZ2 g1.1 g1.2 rfl (by decide) k_1_128 rfl d_5_9_8 ?_
  obtain ⟨g3, hf⟩ := gif hf
  refine W.eq (g2 := F0 m 11 ls [.ref (ad 10 (F2 3 l0 11) 0)]) (by rw [zrf_pos (ad := ad) (t := 10) g3.1]; try rfl) ?_
  obtain ⟨r4, F4, B4, hc4, hf⟩ := gbind hf
  refine va_callv (va_runV (As := []) (rest := []) ⟨hx, hb, hml, hown, hts⟩ (c_Tokens_advance (l := l) hc4) (cwV 0 hts (gdV k_3_180 k_3_152 k_3_153 k_1_5 k_3_154) rfl rfl rfl (by decide +kernel) ⟨Nat.le_of_ble_eq_true rfl, Nat.le_of_ble_eq_true rfl⟩) (zPV X hZ2 hS2 (ci := 10) g3.1 g3.2 (r := (RX10, TX10, 9)) rfl []) rfl rfl hl.1 rfl (lv_room (Nat.le_of_ble_eq_true rfl)) d_5_9_11 ⟨Nat.le_of_ble_eq_true rfl, Nat.le_of_ble_eq_true rfl⟩) hS2 (fun q _ h => zAin X hS2 q h) (zAin X hS2) (fun u4 t4 H4 locs4 ht4 hv4 hw4 hB4 hz4 hk4 hS4 => ?_)
  have hZ4 := zBack X ht4 hB4
  refine lv_aload_n hx hb d_5_9_14 rfl (lv_at hl 1 rfl) ?_
  obtain ⟨r5, F5, B5, hc5, hf⟩ := gbind hf
  refine va_calli (va_runV (As := []) (rest := []) ⟨hx, hb, hml, hown, hts⟩ (c_Parser_isName (l := l) hc5) (cwV 0 hts (gdV k_3_181 k_3_183 ks_6 k_1_4 k_3_184) rfl rfl rfl (by decide +kernel) ⟨Nat.le_of_ble_eq_true rfl, Nat.le_of_ble_eq_true rfl⟩) (zPV X hZ4 hS4 (ci := 3) g1.1 g1.2 (r := (RX3, TX3, 22)) rfl []) rfl rfl hl.1 rfl (lv_room (Nat.le_of_ble_eq_true rfl)) d_5_9_15 ⟨Nat.le_of_ble_eq_true rfl, Nat.le_of_ble_eq_true rfl⟩) hS4 (fun q _ h => zAin X hS4 q h) (zAin X hS4) (fun p5 u5 t5 H5 locs5 ht5 hv5 hw5 hB5 hz5 hk5 hS5 => ?_)
  have hZ5 := zBack X ht5 hB5
  subst hw5
  obtain ⟨g6, hf⟩ := gif hf
  refine z0ne (tgt := 27) hx hb g6 d_5_9_18 (by decide) (fun h7 => ?_) (fun h7 => ?_)
  · replace hf := gneg hf h7
    refine lv_aload_n hx hb d_5_9_27 rfl (lv_at hl 1 rfl) ?_
    refine zget (ci := 3) (C := RX3) (T := TX3) (v := va_rf (zrf ad 10 (F5 3 l0 11))) (k := 11) hx hb hts inW_3 hown hK hZ5 g1.1 g1.2 rfl (by decide) k_1_128 rfl d_5_9_28 ?_
    obtain ⟨g8, hf⟩ := gif hf
    refine zunrf g8.1 ?_
    refine zget (ci := 10) (C := RX10) (T := TX10) (v := .long (lI (F5 10 (F5 3 l0 11) 2))) (k := 2) hx hb hts inW_10 hown hK hZ5 g8.1 g8.2 rfl (by decide) k_1_77 rfl d_5_9_31 ?_
    refine lv_lstore_n (lv' := [(2, .long (lI (F5 10 (F5 3 l0 11) 2))), (1, .int (iI r2)), (0, .ref (ad 3 l0 0))]) hx hb d_5_9_34 rfl hl (by decide) rfl (fun ls hl => ?_)
    refine lv_aload_n hx hb d_5_9_35 rfl (lv_at hl 2 rfl) ?_
    refine lv_lload_n hx hb d_5_9_36 rfl (lv_at hl 0 rfl) ?_
    obtain ⟨r9, F9, B9, hc9, hf⟩ := gbind hf
    refine va_calli (va_runV (As := [.long (lI (F5 10 (F5 3 l0 11) 2))]) (rest := []) ⟨hx, hb, hml, hown, hts⟩ (c_Parser_letNamed (l := l) hc9) (cwV 1 hts (gdV k_3_200 k_3_202 ks_8 k_1_4 k_3_203) rfl rfl rfl (by decide +kernel) ⟨Nat.le_of_ble_eq_true rfl, Nat.le_of_ble_eq_true rfl⟩) (zPV X hZ5 hS5 (ci := 3) g1.1 g1.2 (r := (RX3, TX3, 22)) rfl [.long (lI (F5 10 (F5 3 l0 11) 2))]) rfl rfl hl.1 rfl (lv_room (Nat.le_of_ble_eq_true rfl)) d_5_9_37 ⟨Nat.le_of_ble_eq_true rfl, Nat.le_of_ble_eq_true rfl⟩) hS5 (fun q _ h => zAin X hS5 q h) (zAin X hS5) (fun p9 u9 t9 H9 locs9 ht9 hv9 hw9 hB9 hz9 hk9 hS9 => ?_)
    have hZ9 := zBack X ht9 hB9
    subst hw9
    refine lv_iconst (v := iI (-1)) hx hb d_5_9_40 rfl ?_
    obtain ⟨g10, hf⟩ := gif hf
    refine zeq (tgt := 50) hx hb g10 (by decide) d_5_9_41 (by decide) (fun h11 => ?_) (fun h11 => ?_)
    · replace hf := gpos hf h11
      refine lv_aload_n hx hb d_5_9_50 rfl (lv_at hl 2 rfl) ?_
      refine zget (ci := 3) (C := RX3) (T := TX3) (v := va_rf (zrf ad 10 (F9 3 l0 11))) (k := 11) hx hb hts inW_3 hown hK hZ9 g1.1 g1.2 rfl (by decide) k_1_128 rfl d_5_9_51 ?_
      obtain ⟨g12, hf⟩ := gif hf
      refine W.eq (g2 := F0 m 54 ls [.ref (ad 10 (F9 3 l0 11) 0)]) (by rw [zrf_pos (ad := ad) (t := 10) g12.1]; try rfl) ?_
      obtain ⟨r13, F13, B13, hc13, hf⟩ := gbind hf
      refine va_callv (va_runV (As := []) (rest := []) ⟨hx, hb, hml, hown, hts⟩ (c_Tokens_advance (l := l) hc13) (cwV 0 hts (gdV k_3_180 k_3_152 k_3_153 k_1_5 k_3_154) rfl rfl rfl (by decide +kernel) ⟨Nat.le_of_ble_eq_true rfl, Nat.le_of_ble_eq_true rfl⟩) (zPV X hZ9 hS9 (ci := 10) g12.1 g12.2 (r := (RX10, TX10, 9)) rfl []) rfl rfl hl.1 rfl (lv_room (Nat.le_of_ble_eq_true rfl)) d_5_9_54 ⟨Nat.le_of_ble_eq_true rfl, Nat.le_of_ble_eq_true rfl⟩) hS9 (fun q _ h => zAin X hS9 q h) (zAin X hS9) (fun u13 t13 H13 locs13 ht13 hv13 hw13 hB13 hz13 hk13 hS13 => ?_)
      have hZ13 := zBack X ht13 hB13
      refine lv_aload_n hx hb d_5_9_57 rfl (lv_at hl 2 rfl) ?_
      refine lv_bipush (v := iI 32) hx hb d_5_9_58 (by decide) ?_
      refine zput (ci := 3) (C := RX3) (T := TX3) (k := 20) (v := 32) (w := .int (iI 32)) hx hb hts inW_3 tyX3 tyX3_ok nmX3 hown hK hZ13 hS13 g1.1 g1.2 rfl (by decide) k_1_137 rfl (fun G h => congrArg (fun q => Value.int (iI q)) h) rfl rfl (zno (by decide)) d_5_9_60 (fun H14 locs14 hZ14 hS14 => ?_)
      refine lv_aload_n hx hb d_5_9_63 rfl (lv_at hl 2 rfl) ?_
      refine lv_bipush (v := iI 61) hx hb d_5_9_64 (by decide) ?_
      obtain ⟨r15, F15, B15, hc15, hf⟩ := gbind hf
      refine va_calli (va_runV (As := [.int (iI 61)]) (rest := []) ⟨hx, hb, hml, hown, hts⟩ (c_Parser_takeSign (l := l) hc15) (cwV 1 hts (gdV k_3_204 k_3_206 ks_9 k_1_4 k_3_207) rfl rfl rfl (by decide +kernel) ⟨Nat.le_of_ble_eq_true rfl, Nat.le_of_ble_eq_true rfl⟩) (zPV X hZ14 hS14 (ci := 3) g1.1 g1.2 (r := (RX3, TX3, 22)) rfl [.int (iI 61)]) rfl rfl hl.1 rfl (lv_room (Nat.le_of_ble_eq_true rfl)) d_5_9_66 ⟨Nat.le_of_ble_eq_true rfl, Nat.le_of_ble_eq_true rfl⟩) hS14 (fun q _ h => zAin X hS14 q h) (zAin X hS14) (fun p15 u15 t15 H15 locs15 ht15 hv15 hw15 hB15 hz15 hk15 hS15 => ?_)
      have hZ15 := zBack X ht15 hB15
      subst hw15
      obtain ⟨g16, hf⟩ := gif hf
      refine z0eq (tgt := 80) hx hb g16 d_5_9_69 (by decide) (fun h17 => ?_) (fun h17 => ?_)
      · replace hf := gpos hf h17
        exact b_Parser_takeLet_80 X hf hZ15 hS15 (lv_sub hl [] rfl)
      · replace hf := gneg hf h17
        refine lv_aload_n hx hb d_5_9_72 rfl (lv_at hl 2 rfl) ?_
        refine lv_iload_n hx hb d_5_9_73 rfl (lv_at hl 1 rfl) ?_
        obtain ⟨r18, F18, B18, hc18, hf⟩ := gbind hf
        refine va_calli (va_runV (As := [.int (iI r2)]) (rest := []) ⟨hx, hb, hml, hown, hts⟩ (c_Parser_takeBlock (l := l) hc18) (cwV 1 hts (gdV k_3_212 k_3_214 ks_10 k_1_4 k_3_215) rfl rfl rfl (by decide +kernel) ⟨Nat.le_of_ble_eq_true rfl, Nat.le_of_ble_eq_true rfl⟩) (zPV X hZ15 hS15 (ci := 3) g1.1 g1.2 (r := (RX3, TX3, 22)) rfl [.int (iI r2)]) rfl rfl hl.1 rfl (lv_room (Nat.le_of_ble_eq_true rfl)) d_5_9_74 ⟨Nat.le_of_ble_eq_true rfl, Nat.le_of_ble_eq_true rfl⟩) hS15 (fun q _ h => zAin X hS15 q h) (zAin X hS15) (fun p18 u18 t18 H18 locs18 ht18 hv18 hw18 hB18 hz18 hk18 hS18 => ?_)
        have hZ18 := zBack X ht18 hB18
        subst hw18
        obtain ⟨g19, hf⟩ := gif hf
        refine z0ne (tgt := 82) hx hb g19 d_5_9_77 (by decide) (fun h20 => ?_) (fun h20 => ?_)
        · replace hf := gneg hf h20
          refine lv_aload_n hx hb d_5_9_82 rfl (lv_at hl 2 rfl) ?_
          refine zget (ci := 3) (C := RX3) (T := TX3) (v := .ref (ad 3 l0 (12 + 1))) (k := 12) hx hb hts inW_3 hown hK hZ18 g1.1 g1.2 rfl (by decide) k_1_129 rfl d_5_9_83 ?_
          refine lv_aload_n hx hb d_5_9_86 rfl (lv_at hl 2 rfl) ?_
          refine zget (ci := 3) (C := RX3) (T := TX3) (v := .int (iI (F18 3 l0 16))) (k := 16) hx hb hts inW_3 hown hK hZ18 g1.1 g1.2 rfl (by decide) k_1_133 rfl d_5_9_87 ?_
          refine lv_lload_n hx hb d_5_9_90 rfl (lv_at hl 0 rfl) ?_
          obtain ⟨g21, hf⟩ := gif hf
          refine zlast (ci := 3) (k := 12) hx hb hK rfl hZ18 hS18 g1.1 g1.2 rfl (Nat.le_of_ble_eq_true rfl) g21.1 g21.2 d_5_9_91 (fun H22 locs22 hZ22 hS22 => ?_)
          refine lv_aload_n hx hb d_5_9_92 rfl (lv_at hl 2 rfl) ?_
          refine zget (ci := 3) (C := RX3) (T := TX3) (v := .ref (ad 3 l0 (13 + 1))) (k := 13) hx hb hts inW_3 hown hK hZ22 g1.1 g1.2 rfl (by decide) k_1_130 rfl d_5_9_93 ?_
          refine lv_aload_n hx hb d_5_9_96 rfl (lv_at hl 2 rfl) ?_
          refine zget (ci := 3) (C := RX3) (T := TX3) (v := .int (iI (F18 3 l0 16))) (k := 16) hx hb hts inW_3 hown hK hZ22 g1.1 g1.2 rfl (by decide) k_1_133 rfl d_5_9_97 ?_
          refine lv_iload_n hx hb d_5_9_100 rfl (lv_at hl 1 rfl) ?_
          refine zast (ci := 3) (k := 13) hx hb hK rfl hZ22 hS22 g1.1 g1.2 rfl (Nat.le_of_ble_eq_true rfl) g21.1 g21.2 d_5_9_101 (fun H23 locs23 hZ23 hS23 => ?_)
          refine lv_aload_n hx hb d_5_9_102 rfl (lv_at hl 2 rfl) ?_
          refine lv_dup hx hb d_5_9_103 rfl ?_
          refine zget (ci := 3) (C := RX3) (T := TX3) (v := .int (iI (F18 3 l0 16))) (k := 16) hx hb hts inW_3 hown hK hZ23 g1.1 g1.2 rfl (by decide) k_1_133 rfl d_5_9_104 ?_
          refine lv_iconst (v := iI 1) hx hb d_5_9_107 rfl ?_
          refine zadd hx hb d_5_9_108 ?_
          refine zput (ci := 3) (C := RX3) (T := TX3) (k := 16) (v := ((F18 3 l0 16) + 1)) (w := .int (iI ((F18 3 l0 16) + 1))) hx hb hts inW_3 tyX3 tyX3_ok nmX3 hown hK hZ23 hS23 g1.1 g1.2 rfl (by decide) k_1_133 rfl (fun G h => congrArg (fun q => Value.int (iI q)) h) rfl rfl (zno (by decide)) d_5_9_109 (fun H24 locs24 hZ24 hS24 => ?_)
          refine lv_iconst (v := iI 1) hx hb d_5_9_112 rfl ?_
          cases hf
          exact W.zret hx hb hr rfl (fun t ht hW => ⟨⟨_, (), rfl, rfl, by rw [ht]; exact hZ24, va_K.moved hW.alike hK⟩, hS24.F ht⟩) hS24.2.2 d_5_9_113 hlk
        · replace hf := gpos hf h20
          exact b_Parser_takeLet_80 X hf hZ18 hS18 (lv_sub hl [] rfl)
    · replace hf := gneg hf h11
      refine lv_aload_n hx hb d_5_9_44 rfl (lv_at hl 2 rfl) ?_
      refine lv_iconst (v := iI 4) hx hb d_5_9_45 rfl ?_
      obtain ⟨r25, F25, B25, hc25, hf⟩ := gbind hf
      refine va_calli (va_runV (As := [.int (iI 4)]) (rest := []) ⟨hx, hb, hml, hown, hts⟩ (c_Parser_refuse (l := l) hc25) (cwV 1 hts (gdV k_3_196 k_3_198 ks_7 k_1_4 k_3_199) rfl rfl rfl (by decide +kernel) ⟨Nat.le_of_ble_eq_true rfl, Nat.le_of_ble_eq_true rfl⟩) (zPV X hZ9 hS9 (ci := 3) g1.1 g1.2 (r := (RX3, TX3, 22)) rfl [.int (iI 4)]) rfl rfl hl.1 rfl (lv_room (Nat.le_of_ble_eq_true rfl)) d_5_9_46 ⟨Nat.le_of_ble_eq_true rfl, Nat.le_of_ble_eq_true rfl⟩) hS9 (fun q _ h => zAin X hS9 q h) (zAin X hS9) (fun p25 u25 t25 H25 locs25 ht25 hv25 hw25 hB25 hz25 hk25 hS25 => ?_)
      have hZ25 := zBack X ht25 hB25
      subst hw25
      obtain ⟨g26, hf⟩ := gif hf
      cases hf
      exact W.zret hx hb hr (zbool g26) (fun t ht hW => ⟨⟨_, (), rfl, rfl, by rw [ht]; exact hZ25, va_K.moved hW.alike hK⟩, hS25.F ht⟩) hS25.2.2 d_5_9_49 hlk
  · replace hf := gpos hf h7
    refine lv_aload_n hx hb d_5_9_21 rfl (lv_at hl 1 rfl) ?_
    refine lv_iconst (v := iI 2) hx hb d_5_9_22 rfl ?_
    obtain ⟨r27, F27, B27, hc27, hf⟩ := gbind hf
    refine va_calli (va_runV (As := [.int (iI 2)]) (rest := []) ⟨hx, hb, hml, hown, hts⟩ (c_Parser_refuse (l := l) hc27) (cwV 1 hts (gdV k_3_196 k_3_198 ks_7 k_1_4 k_3_199) rfl rfl rfl (by decide +kernel) ⟨Nat.le_of_ble_eq_true rfl, Nat.le_of_ble_eq_true rfl⟩) (zPV X hZ5 hS5 (ci := 3) g1.1 g1.2 (r := (RX3, TX3, 22)) rfl [.int (iI 2)]) rfl rfl hl.1 rfl (lv_room (Nat.le_of_ble_eq_true rfl)) d_5_9_23 ⟨Nat.le_of_ble_eq_true rfl, Nat.le_of_ble_eq_true rfl⟩) hS5 (fun q _ h => zAin X hS5 q h) (zAin X hS5) (fun p27 u27 t27 H27 locs27 ht27 hv27 hw27 hB27 hz27 hk27 hS27 => ?_)
    have hZ27 := zBack X ht27 hB27
    subst hw27
    obtain ⟨g28, hf⟩ := gif hf
    cases hf
    exact W.zret hx hb hr (zbool g28) (fun t ht hW => ⟨⟨_, (), rfl, rfl, by rw [ht]; exact hZ27, va_K.moved hW.alike hK⟩, hS27.F ht⟩) hS27.2.2 d_5_9_26 hlk

noncomputable abbrev Q_Walker_goThrough (K : zK) (D : va_G) (ca : Nat → ClassId) (ad : Nat → Int → Nat → Nat) (L : List Nat) (r : Int) (F : zF) (B : zB) (A : Nat → Prop) : Array Value → State → Outcome → State → Prop := va_Qv (S := Unit) (fun _ => True) (fun _ => zPo D ca ad lnC K.2 L F B A) A
noncomputable abbrev Q_Walker_goItem (K : zK) (D : va_G) (ca : Nat → ClassId) (ad : Nat → Int → Nat → Nat) (L : List Nat) (r : Int) (F : zF) (B : zB) (A : Nat → Prop) : Array Value → State → Outcome → State → Prop := va_Qv (S := Unit) (fun _ => True) (fun _ => zPo D ca ad lnC K.2 L F B A) A
noncomputable abbrev Q_Walker_goBracket (K : zK) (D : va_G) (ca : Nat → ClassId) (ad : Nat → Int → Nat → Nat) (L : List Nat) (r : Int) (F : zF) (B : zB) (A : Nat → Prop) : Array Value → State → Outcome → State → Prop := va_Qv (S := Unit) (fun _ => True) (fun _ => zPo D ca ad lnC K.2 L F B A) A
noncomputable abbrev Q_Walker_goRepeat (K : zK) (D : va_G) (ca : Nat → ClassId) (ad : Nat → Int → Nat → Nat) (L : List Nat) (r : Int) (F : zF) (B : zB) (A : Nat → Prop) : Array Value → State → Outcome → State → Prop := va_Qv (S := Unit) (fun _ => True) (fun _ => zPo D ca ad lnC K.2 L F B A) A
noncomputable abbrev Q_Walker_goCarried (K : zK) (D : va_G) (ca : Nat → ClassId) (ad : Nat → Int → Nat → Nat) (L : List Nat) (r : Int) (F : zF) (B : zB) (A : Nat → Prop) : Array Value → State → Outcome → State → Prop := va_Qv (S := Unit) (fun _ => True) (fun _ => zPo D ca ad lnC K.2 L F B A) A
noncomputable abbrev Q_Walker_goBack (K : zK) (D : va_G) (ca : Nat → ClassId) (ad : Nat → Int → Nat → Nat) (L : List Nat) (r : Int) (F : zF) (B : zB) (A : Nat → Prop) : Array Value → State → Outcome → State → Prop := va_Qv (S := Unit) (fun _ => True) (fun _ => zPo D ca ad lnC K.2 L F B A) A
noncomputable abbrev oT_CW : Type := (Int → Int → Int → zF → zB → zO) × (Int → Int → Int → zF → zB → zO) × (Int → Int → Int → zF → zB → zO) × (Int → Int → Int → zF → zB → zO) × (Int → Int → Int → Int → zF → zB → zO) × (Int → Int → Int → zF → zB → zO)
