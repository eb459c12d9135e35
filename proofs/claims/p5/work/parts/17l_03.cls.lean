noncomputable abbrev Q_Performance_writeHead (K : zK) (D : va_G) (ca : Nat → ClassId) (ad : Nat → Int → Nat → Nat) (L : List Nat) (r : Int) (F : zF) (B : zB) (A : Nat → Prop) : Array Value → State → Outcome → State → Prop := va_Qv (S := Unit) (fun _ => True) (fun _ => zPo D ca ad lnC K.2 L F B A) A
noncomputable def f_Performance_writeHead (K : zK) (l0 : Int) (l1 : Int) (F : zF) (B : zB) : zO := zbind (f_Performance_beginTrack K l1 F B) (fun r1 F1 B1 => zbind (f_Performance_putMeta K l1 88 4 F1 B1) (fun r2 F2 B2 => if 0 ≤ l0 ∧ l0 < K.2 6 then if 0 ≤ l1 ∧ l1 < K.2 0 then zbind (f_ByteRow_put K l1 (F2 6 l0 4) F2 B2) (fun r5 F5 B5 => zbind (f_Integer_bitCount K ((F5 6 l0 5) - 1) F5 B5) (fun r6 F6 B6 => zbind (f_ByteRow_put K l1 r6 F6 B6) (fun r7 F7 B7 => zbind (f_ByteRow_put K l1 24 F7 B7) (fun r8 F8 B8 => zbind (f_ByteRow_put K l1 8 F8 B8) (fun r9 F9 B9 => zbind (f_Performance_putMeta K l1 89 2 F9 B9) (fun r10 F10 B10 => zbind (f_ByteRow_put K l1 (F10 6 l0 2) F10 B10) (fun r11 F11 B11 => zbind (f_ByteRow_put K l1 (F11 6 l0 3) F11 B11) (fun r12 F12 B12 => zbind (f_Performance_putMeta K l1 81 3 F12 B12) (fun r13 F13 B13 => if r32 (F13 6 l0 6) then if ¬ iI (zmax (F13 6 l0 6) 1) = 0 then zbind (f_ByteRow_putWide K l1 (zdv 60000000 (zmax (F13 6 l0 6) 1)) 3 F13 B13) (fun r16 F16 B16 => zbind (f_Performance_endTrack K l1 r1 F16 B16) (fun r17 F17 B17 => some (0, F17, B17))) else none else none))))))))) else none else none))
set_option maxHeartbeats 4000000 in
set_option maxRecDepth 100000 in
theorem c_Performance_writeHead {l : Launch} {D : va_G} {ca : Nat → ClassId} {ad : Nat → Int → Nat → Nat} {L : List Nat} {aS vS : Nat → Nat} {sz : Nat} {K : zK}  {l0 : Int} {l1 : Int} {F F9 : zF} {B B9 : zB} {r : Int} (hf : f_Performance_writeHead K l0 l1 F B = some (r, F9, B9)) : Met l ({ cls := "StaveHouse$Performance", name := "writeHead", desc := "(LStaveHouse$Piece;LStaveHouse$ByteRow;)V" } : Jvm.MethodName) (Cond.code ({ cls := "StaveHouse$Performance", name := "writeHead", desc := "(LStaveHouse$Piece;LStaveHouse$ByteRow;)V" } : Jvm.MethodName) prog_7_method_21_code 3 (Option.none : Option Jvm.ClassFile.FieldType) :: wAll) ({ frames := 6, cells := 0, slots := 0, locals := 127 } : Room) (va_Pc [.ref (ad 6 l0 0), .ref (ad 0 l1 0)] (zPre D ca ad lnC K.2 L aS vS F B sz)) (Q_Performance_writeHead K D ca ad L r F9 B9 (zA L sz)) 0 0 (zA L sz) := by
  refine zMet (Qc := Q_Performance_writeHead K D ca ad L r F9 B9) (lv := [(0, .ref (ad 6 l0 0)), (1, .ref (ad 0 l1 0))]) (by decide) (Nat.le_of_ble_eq_true rfl) rfl (fun A p e s m below meth c ls X hZ hS hl => ?_)
  obtain ⟨hx, hb, hr, hml, hown, hts, hlk, hK, hA, hL, hX⟩ := id X
  replace hf : (zbind (f_Performance_beginTrack K l1 F B) (fun r1 F1 B1 => zbind (f_Performance_putMeta K l1 88 4 F1 B1) (fun r2 F2 B2 => if 0 ≤ l0 ∧ l0 < K.2 6 then if 0 ≤ l1 ∧ l1 < K.2 0 then zbind (f_ByteRow_put K l1 (F2 6 l0 4) F2 B2) (fun r5 F5 B5 => zbind (f_Integer_bitCount K ((F5 6 l0 5) - 1) F5 B5) (fun r6 F6 B6 => zbind (f_ByteRow_put K l1 r6 F6 B6) (fun r7 F7 B7 => zbind (f_ByteRow_put K l1 24 F7 B7) (fun r8 F8 B8 => zbind (f_ByteRow_put K l1 8 F8 B8) (fun r9 F9 B9 => zbind (f_Performance_putMeta K l1 89 2 F9 B9) (fun r10 F10 B10 => zbind (f_ByteRow_put K l1 (F10 6 l0 2) F10 B10) (fun r11 F11 B11 => zbind (f_ByteRow_put K l1 (F11 6 l0 3) F11 B11) (fun r12 F12 B12 => zbind (f_Performance_putMeta K l1 81 3 F12 B12) (fun r13 F13 B13 => if r32 (F13 6 l0 6) then if ¬ iI (zmax (F13 6 l0 6) 1) = 0 then zbind (f_ByteRow_putWide K l1 (zdv 60000000 (zmax (F13 6 l0 6) 1)) 3 F13 B13) (fun r16 F16 B16 => zbind (f_Performance_endTrack K l1 r1 F16 B16) (fun r17 F17 B17 => some (0, F17, B17))) else none else none))))))))) else none else none))) = some (r, F9, B9) := hf
  refine lv_aload_n hx hb d_7_21_0 rfl (lv_at hl 1 rfl) ?_
  obtain ⟨r1, F1, B1, hc1, hf⟩ := gbind hf
  refine va_calli (va_runS (As := [.ref (ad 0 l1 0)]) (rest := []) ⟨hx, hb, hml, hown, hts⟩ (c_Performance_beginTrack (l := l) hc1) (va_cwS 1 hts (gdS k_7_161 k_7_162 k_1_20 k_7_163) rfl rfl rfl (by decide +kernel) ⟨Nat.le_of_ble_eq_true rfl, Nat.le_of_ble_eq_true rfl⟩) (zPS X hZ hS [.ref (ad 0 l1 0)]) rfl rfl hl.1 rfl (lv_room (Nat.le_of_ble_eq_true rfl)) d_7_21_1 ⟨Nat.le_of_ble_eq_true rfl, Nat.le_of_ble_eq_true rfl⟩) hS (fun q _ h => zAin X hS q h) (zAin X hS) (fun p1 u1 t1 H1 locs1 ht1 hv1 hw1 hB1 hz1 hk1 hS1 => ?_)
  have hZ1 := zBack X ht1 hB1
  subst hw1
  refine lv_istore_n (lv' := [(2, .int (iI r1)), (0, .ref (ad 6 l0 0)), (1, .ref (ad 0 l1 0))]) hx hb d_7_21_4 rfl hl (by decide) rfl (fun ls hl => ?_)
  refine lv_aload_n hx hb d_7_21_5 rfl (lv_at hl 2 rfl) ?_
  refine lv_bipush (v := iI 88) hx hb d_7_21_6 (by decide) ?_
  refine lv_iconst (v := iI 4) hx hb d_7_21_8 rfl ?_
  obtain ⟨r2, F2, B2, hc2, hf⟩ := gbind hf
  refine va_callv (va_runS (As := [.ref (ad 0 l1 0), .int (iI 88), .int (iI 4)]) (rest := []) ⟨hx, hb, hml, hown, hts⟩ (c_Performance_putMeta (l := l) hc2) (va_cwS 3 hts (gdS k_7_165 k_7_166 k_1_20 k_7_167) rfl rfl rfl (by decide +kernel) ⟨Nat.le_of_ble_eq_true rfl, Nat.le_of_ble_eq_true rfl⟩) (zPS X hZ1 hS1 [.ref (ad 0 l1 0), .int (iI 88), .int (iI 4)]) rfl rfl hl.1 rfl (lv_room (Nat.le_of_ble_eq_true rfl)) d_7_21_9 ⟨Nat.le_of_ble_eq_true rfl, Nat.le_of_ble_eq_true rfl⟩) hS1 (fun q _ h => zAin X hS1 q h) (zAin X hS1) (fun u2 t2 H2 locs2 ht2 hv2 hw2 hB2 hz2 hk2 hS2 => ?_)
  have hZ2 := zBack X ht2 hB2
  refine lv_aload_n hx hb d_7_21_12 rfl (lv_at hl 2 rfl) ?_
  refine lv_aload_n hx hb d_7_21_13 rfl (lv_at hl 1 rfl) ?_
  obtain ⟨g3, hf⟩ := gif hf
  refine zget (ci := 6) (C := RX6) (T := TX6) (v := .int (iI (F2 6 l0 4))) (k := 4) hx hb hts inW_6 hown hK hZ2 g3.1 g3.2 rfl (by decide) k_2_211 rfl d_7_21_14 ?_
  obtain ⟨g4, hf⟩ := gif hf
  obtain ⟨r5, F5, B5, hc5, hf⟩ := gbind hf
  refine va_callv (va_runV (As := [.int (iI (F2 6 l0 4))]) (rest := []) ⟨hx, hb, hml, hown, hts⟩ (c_ByteRow_put (l := l) hc5) (cwV 1 hts (gdV k_7_168 k_2_171 k_2_172 k_1_2 k_2_173) rfl rfl rfl (by decide +kernel) ⟨Nat.le_of_ble_eq_true rfl, Nat.le_of_ble_eq_true rfl⟩) (zPV X hZ2 hS2 (ci := 0) g4.1 g4.2 (r := (RX0, TX0, 3)) rfl [.int (iI (F2 6 l0 4))]) rfl rfl hl.1 rfl (lv_room (Nat.le_of_ble_eq_true rfl)) d_7_21_17 ⟨Nat.le_of_ble_eq_true rfl, Nat.le_of_ble_eq_true rfl⟩) hS2 (fun q _ h => zAin X hS2 q h) (zAin X hS2) (fun u5 t5 H5 locs5 ht5 hv5 hw5 hB5 hz5 hk5 hS5 => ?_)
  have hZ5 := zBack X ht5 hB5
  refine lv_aload_n hx hb d_7_21_20 rfl (lv_at hl 2 rfl) ?_
  refine lv_aload_n hx hb d_7_21_21 rfl (lv_at hl 1 rfl) ?_
  refine zget (ci := 6) (C := RX6) (T := TX6) (v := .int (iI (F5 6 l0 5))) (k := 5) hx hb hts inW_6 hown hK hZ5 g3.1 g3.2 rfl (by decide) k_2_216 rfl d_7_21_22 ?_
  refine lv_iconst (v := iI 1) hx hb d_7_21_25 rfl ?_
  refine zsub hx hb d_7_21_26 ?_
  obtain ⟨r6, F6, B6, hc6, hf⟩ := gbind hf
  refine va_calli (va_runS (As := [.int (iI ((F5 6 l0 5) - 1))]) (rest := [.ref (ad 0 l1 0)]) ⟨hx, hb, hml, hown, hts⟩ (c_Integer_bitCount (l := l) hc6) (va_cwS 1 hts (gdS k_7_169 k_7_170 k_1_22 k_7_171) rfl rfl rfl (by decide +kernel) ⟨Nat.le_of_ble_eq_true rfl, Nat.le_of_ble_eq_true rfl⟩) (zPS X hZ5 hS5 [.int (iI ((F5 6 l0 5) - 1))]) rfl rfl hl.1 rfl (lv_room (Nat.le_of_ble_eq_true rfl)) d_7_21_27 ⟨Nat.le_of_ble_eq_true rfl, Nat.le_of_ble_eq_true rfl⟩) hS5 (fun q _ h => zAin X hS5 q h) (zAin X hS5) (fun p6 u6 t6 H6 locs6 ht6 hv6 hw6 hB6 hz6 hk6 hS6 => ?_)
  have hZ6 := zBack X ht6 hB6
  subst hw6
  obtain ⟨r7, F7, B7, hc7, hf⟩ := gbind hf
  refine va_callv (va_runV (As := [.int (iI r6)]) (rest := []) ⟨hx, hb, hml, hown, hts⟩ (c_ByteRow_put (l := l) hc7) (cwV 1 hts (gdV k_7_168 k_2_171 k_2_172 k_1_2 k_2_173) rfl rfl rfl (by decide +kernel) ⟨Nat.le_of_ble_eq_true rfl, Nat.le_of_ble_eq_true rfl⟩) (zPV X hZ6 hS6 (ci := 0) g4.1 g4.2 (r := (RX0, TX0, 3)) rfl [.int (iI r6)]) rfl rfl hl.1 rfl (lv_room (Nat.le_of_ble_eq_true rfl)) d_7_21_30 ⟨Nat.le_of_ble_eq_true rfl, Nat.le_of_ble_eq_true rfl⟩) hS6 (fun q _ h => zAin X hS6 q h) (zAin X hS6) (fun u7 t7 H7 locs7 ht7 hv7 hw7 hB7 hz7 hk7 hS7 => ?_)
  have hZ7 := zBack X ht7 hB7
  refine lv_aload_n hx hb d_7_21_33 rfl (lv_at hl 2 rfl) ?_
  refine lv_bipush (v := iI 24) hx hb d_7_21_34 (by decide) ?_
  obtain ⟨r8, F8, B8, hc8, hf⟩ := gbind hf
  refine va_callv (va_runV (As := [.int (iI 24)]) (rest := []) ⟨hx, hb, hml, hown, hts⟩ (c_ByteRow_put (l := l) hc8) (cwV 1 hts (gdV k_7_168 k_2_171 k_2_172 k_1_2 k_2_173) rfl rfl rfl (by decide +kernel) ⟨Nat.le_of_ble_eq_true rfl, Nat.le_of_ble_eq_true rfl⟩) (zPV X hZ7 hS7 (ci := 0) g4.1 g4.2 (r := (RX0, TX0, 3)) rfl [.int (iI 24)]) rfl rfl hl.1 rfl (lv_room (Nat.le_of_ble_eq_true rfl)) d_7_21_36 ⟨Nat.le_of_ble_eq_true rfl, Nat.le_of_ble_eq_true rfl⟩) hS7 (fun q _ h => zAin X hS7 q h) (zAin X hS7) (fun u8 t8 H8 locs8 ht8 hv8 hw8 hB8 hz8 hk8 hS8 => ?_)
  have hZ8 := zBack X ht8 hB8
  refine lv_aload_n hx hb d_7_21_39 rfl (lv_at hl 2 rfl) ?_
  refine lv_bipush (v := iI 8) hx hb d_7_21_40 (by decide) ?_
  obtain ⟨r9, F9, B9, hc9, hf⟩ := gbind hf
  refine va_callv (va_runV (As := [.int (iI 8)]) (rest := []) ⟨hx, hb, hml, hown, hts⟩ (c_ByteRow_put (l := l) hc9) (cwV 1 hts (gdV k_7_168 k_2_171 k_2_172 k_1_2 k_2_173) rfl rfl rfl (by decide +kernel) ⟨Nat.le_of_ble_eq_true rfl, Nat.le_of_ble_eq_true rfl⟩) (zPV X hZ8 hS8 (ci := 0) g4.1 g4.2 (r := (RX0, TX0, 3)) rfl [.int (iI 8)]) rfl rfl hl.1 rfl (lv_room (Nat.le_of_ble_eq_true rfl)) d_7_21_42 ⟨Nat.le_of_ble_eq_true rfl, Nat.le_of_ble_eq_true rfl⟩) hS8 (fun q _ h => zAin X hS8 q h) (zAin X hS8) (fun u9 t9 H9 locs9 ht9 hv9 hw9 hB9 hz9 hk9 hS9 => ?_)
  have hZ9 := zBack X ht9 hB9
  refine lv_aload_n hx hb d_7_21_45 rfl (lv_at hl 2 rfl) ?_
  refine lv_bipush (v := iI 89) hx hb d_7_21_46 (by decide) ?_
  refine lv_iconst (v := iI 2) hx hb d_7_21_48 rfl ?_
  obtain ⟨r10, F10, B10, hc10, hf⟩ := gbind hf
  refine va_callv (va_runS (As := [.ref (ad 0 l1 0), .int (iI 89), .int (iI 2)]) (rest := []) ⟨hx, hb, hml, hown, hts⟩ (c_Performance_putMeta (l := l) hc10) (va_cwS 3 hts (gdS k_7_165 k_7_166 k_1_20 k_7_167) rfl rfl rfl (by decide +kernel) ⟨Nat.le_of_ble_eq_true rfl, Nat.le_of_ble_eq_true rfl⟩) (zPS X hZ9 hS9 [.ref (ad 0 l1 0), .int (iI 89), .int (iI 2)]) rfl rfl hl.1 rfl (lv_room (Nat.le_of_ble_eq_true rfl)) d_7_21_49 ⟨Nat.le_of_ble_eq_true rfl, Nat.le_of_ble_eq_true rfl⟩) hS9 (fun q _ h => zAin X hS9 q h) (zAin X hS9) (fun u10 t10 H10 locs10 ht10 hv10 hw10 hB10 hz10 hk10 hS10 => ?_)
  have hZ10 := zBack X ht10 hB10
  refine lv_aload_n hx hb d_7_21_52 rfl (lv_at hl 2 rfl) ?_
  refine lv_aload_n hx hb d_7_21_53 rfl (lv_at hl 1 rfl) ?_
  refine zget (ci := 6) (C := RX6) (T := TX6) (v := .int (iI (F10 6 l0 2))) (k := 2) hx hb hts inW_6 hown hK hZ10 g3.1 g3.2 rfl (by decide) k_2_199 rfl d_7_21_54 ?_
  obtain ⟨r11, F11, B11, hc11, hf⟩ := gbind hf
  refine va_callv (va_runV (As := [.int (iI (F10 6 l0 2))]) (rest := []) ⟨hx, hb, hml, hown, hts⟩ (c_ByteRow_put (l := l) hc11) (cwV 1 hts (gdV k_7_168 k_2_171 k_2_172 k_1_2 k_2_173) rfl rfl rfl (by decide +kernel) ⟨Nat.le_of_ble_eq_true rfl, Nat.le_of_ble_eq_true rfl⟩) (zPV X hZ10 hS10 (ci := 0) g4.1 g4.2 (r := (RX0, TX0, 3)) rfl [.int (iI (F10 6 l0 2))]) rfl rfl hl.1 rfl (lv_room (Nat.le_of_ble_eq_true rfl)) d_7_21_57 ⟨Nat.le_of_ble_eq_true rfl, Nat.le_of_ble_eq_true rfl⟩) hS10 (fun q _ h => zAin X hS10 q h) (zAin X hS10) (fun u11 t11 H11 locs11 ht11 hv11 hw11 hB11 hz11 hk11 hS11 => ?_)
  have hZ11 := zBack X ht11 hB11
  refine lv_aload_n hx hb d_7_21_60 rfl (lv_at hl 2 rfl) ?_
  refine lv_aload_n hx hb d_7_21_61 rfl (lv_at hl 1 rfl) ?_
  refine zget (ci := 6) (C := RX6) (T := TX6) (v := .int (iI (F11 6 l0 3))) (k := 3) hx hb hts inW_6 hown hK hZ11 g3.1 g3.2 rfl (by decide) k_2_206 rfl d_7_21_62 ?_
  obtain ⟨r12, F12, B12, hc12, hf⟩ := gbind hf
  refine va_callv (va_runV (As := [.int (iI (F11 6 l0 3))]) (rest := []) ⟨hx, hb, hml, hown, hts⟩ (c_ByteRow_put (l := l) hc12) (cwV 1 hts (gdV k_7_168 k_2_171 k_2_172 k_1_2 k_2_173) rfl rfl rfl (by decide +kernel) ⟨Nat.le_of_ble_eq_true rfl, Nat.le_of_ble_eq_true rfl⟩) (zPV X hZ11 hS11 (ci := 0) g4.1 g4.2 (r := (RX0, TX0, 3)) rfl [.int (iI (F11 6 l0 3))]) rfl rfl hl.1 rfl (lv_room (Nat.le_of_ble_eq_true rfl)) d_7_21_65 ⟨Nat.le_of_ble_eq_true rfl, Nat.le_of_ble_eq_true rfl⟩) hS11 (fun q _ h => zAin X hS11 q h) (zAin X hS11) (fun u12 t12 H12 locs12 ht12 hv12 hw12 hB12 hz12 hk12 hS12 => ?_)
  have hZ12 := zBack X ht12 hB12
  refine lv_aload_n hx hb d_7_21_68 rfl (lv_at hl 2 rfl) ?_
  refine lv_bipush (v := iI 81) hx hb d_7_21_69 (by decide) ?_
  refine lv_iconst (v := iI 3) hx hb d_7_21_71 rfl ?_
  obtain ⟨r13, F13, B13, hc13, hf⟩ := gbind hf
  refine va_callv (va_runS (As := [.ref (ad 0 l1 0), .int (iI 81), .int (iI 3)]) (rest := []) ⟨hx, hb, hml, hown, hts⟩ (c_Performance_putMeta (l := l) hc13) (va_cwS 3 hts (gdS k_7_165 k_7_166 k_1_20 k_7_167) rfl rfl rfl (by decide +kernel) ⟨Nat.le_of_ble_eq_true rfl, Nat.le_of_ble_eq_true rfl⟩) (zPS X hZ12 hS12 [.ref (ad 0 l1 0), .int (iI 81), .int (iI 3)]) rfl rfl hl.1 rfl (lv_room (Nat.le_of_ble_eq_true rfl)) d_7_21_72 ⟨Nat.le_of_ble_eq_true rfl, Nat.le_of_ble_eq_true rfl⟩) hS12 (fun q _ h => zAin X hS12 q h) (zAin X hS12) (fun u13 t13 H13 locs13 ht13 hv13 hw13 hB13 hz13 hk13 hS13 => ?_)
  have hZ13 := zBack X ht13 hB13
  refine lv_aload_n hx hb d_7_21_75 rfl (lv_at hl 2 rfl) ?_
  refine lv_ldc hx hb hown (hts _ k_7_175) d_7_21_76 ?_
  refine W.eq (g2 := F0 m 78 ls [.int (iI 60000000), .ref (ad 0 l1 0)]) rfl ?_
  refine lv_aload_n hx hb d_7_21_78 rfl (lv_at hl 1 rfl) ?_
  refine zget (ci := 6) (C := RX6) (T := TX6) (v := .int (iI (F13 6 l0 6))) (k := 6) hx hb hts inW_6 hown hK hZ13 g3.1 g3.2 rfl (by decide) k_2_220 rfl d_7_21_79 ?_
  refine lv_iconst (v := iI 1) hx hb d_7_21_82 rfl ?_
  obtain ⟨g14, hf⟩ := gif hf
  refine va_mmax hx hb (by rw [hml]; exact hl.1.symm) hown (hts _ k_6_153) (hts _ k_1_39) (hts _ k_1_3) (hts _ k_1_40) (Nat.le_of_ble_eq_true rfl) (Nat.le_of_ble_eq_true rfl) (Nat.le_of_ble_eq_true rfl) (Nat.le_of_ble_eq_true rfl) d_7_21_83 ?_
  rw [zmax_e g14 (by decide)]
  obtain ⟨g15, hf⟩ := gif hf
  refine zdv_r hx hb g15 d_7_21_86 ?_
  refine lv_iconst (v := iI 3) hx hb d_7_21_87 rfl ?_
  obtain ⟨r16, F16, B16, hc16, hf⟩ := gbind hf
  refine va_callv (va_runV (As := [.int (iI (zdv 60000000 (zmax (F13 6 l0 6) 1))), .int (iI 3)]) (rest := []) ⟨hx, hb, hml, hown, hts⟩ (c_ByteRow_putWide (l := l) hc16) (cwV 2 hts (gdV k_7_154 k_7_155 k_7_156 k_1_2 k_7_157) rfl rfl rfl (by decide +kernel) ⟨Nat.le_of_ble_eq_true rfl, Nat.le_of_ble_eq_true rfl⟩) (zPV X hZ13 hS13 (ci := 0) g4.1 g4.2 (r := (RX0, TX0, 3)) rfl [.int (iI (zdv 60000000 (zmax (F13 6 l0 6) 1))), .int (iI 3)]) rfl rfl hl.1 rfl (lv_room (Nat.le_of_ble_eq_true rfl)) d_7_21_88 ⟨Nat.le_of_ble_eq_true rfl, Nat.le_of_ble_eq_true rfl⟩) hS13 (fun q _ h => zAin X hS13 q h) (zAin X hS13) (fun u16 t16 H16 locs16 ht16 hv16 hw16 hB16 hz16 hk16 hS16 => ?_)
  have hZ16 := zBack X ht16 hB16
  refine lv_aload_n hx hb d_7_21_91 rfl (lv_at hl 2 rfl) ?_
  refine lv_iload_n hx hb d_7_21_92 rfl (lv_at hl 0 rfl) ?_
  obtain ⟨r17, F17, B17, hc17, hf⟩ := gbind hf
  refine va_callv (va_runS (As := [.ref (ad 0 l1 0), .int (iI r1)]) (rest := []) ⟨hx, hb, hml, hown, hts⟩ (c_Performance_endTrack (l := l) hc17) (va_cwS 2 hts (gdS k_7_176 k_7_177 k_1_20 k_7_178) rfl rfl rfl (by decide +kernel) ⟨Nat.le_of_ble_eq_true rfl, Nat.le_of_ble_eq_true rfl⟩) (zPS X hZ16 hS16 [.ref (ad 0 l1 0), .int (iI r1)]) rfl rfl hl.1 rfl (lv_room (Nat.le_of_ble_eq_true rfl)) d_7_21_93 ⟨Nat.le_of_ble_eq_true rfl, Nat.le_of_ble_eq_true rfl⟩) hS16 (fun q _ h => zAin X hS16 q h) (zAin X hS16) (fun u17 t17 H17 locs17 ht17 hv17 hw17 hB17 hz17 hk17 hS17 => ?_)
  have hZ17 := zBack X ht17 hB17
  cases hf
  exact W.vret hx hb hr (fun t ht hW => ⟨⟨(), rfl, trivial, by rw [ht]; exact hZ17, va_K.moved hW.alike hK⟩, hS17.F ht⟩) hS17.2.2 d_7_21_96 hlk

noncomputable abbrev Q_SoundFile_loadTrack (K : zK) (D : va_G) (ca : Nat → ClassId) (ad : Nat → Int → Nat → Nat) (L : List Nat) (r : Int) (F : zF) (B : zB) (A : Nat → Prop) : Array Value → State → Outcome → State → Prop := va_Qv (S := Unit) (fun _ => True) (fun _ => zPo D ca ad lnC K.2 L F B A) A
noncomputable def f_SoundFile_loadTrack_107 (rec69 : Int → Int → zF → zB → zO) (K : zK) (l4 : Int) (l0 : Int) (F : zF) (B : zB) : zO := rec69 (l4 + 1) l0 F B
set_option maxHeartbeats 4000000 in
set_option maxRecDepth 100000 in
theorem b_SoundFile_loadTrack_107 {D : va_G} {ca : Nat → ClassId} {ad : Nat → Int → Nat → Nat} {L : List Nat} {aS vS : Nat → Nat} {A : Nat → Prop} {p : Program} {l : Launch} {e : Env} {s : State} {m : MethodId} {args : Array Value} {below : List Frame} {meth : Method} {c : Code} {K : zK} {r : Int} {F9 : zF} {B9 : zB} (X : zX D ca L aS vS A p s m args meth c prog_10_method_13_code 5 (Option.none : Option Jvm.ClassFile.FieldType) "StaveHouse$SoundFile") {rec69 : Int → Int → zF → zB → zO} (hrec69 : ∀ {l4 : Int} {l0 : Int} {F : zF} {B : zB} {H : Heap} {locs : List Loc} {ls : Array Slot}, rec69 l4 l0 F B = some (r, F9, B9) → zH D ca ad lnC K.2 L F B A H → va_S A s.heap H locs → lv_has ls 5 [(4, .int (iI l4)), (0, .ref (ad 8 l0 0))] → W p l e ({ frames := 5, cells := 0, slots := 0, locals := 114 } : Room) s m args below meth c H locs 0 0 (MQ below (Q_SoundFile_loadTrack K D ca ad L r F9 B9 A) args s 0 0 A) (F0 m 69 ls [])) {l4 : Int} {l0 : Int} {F : zF} {B : zB} {H : Heap} {locs : List Loc} {ls : Array Slot} (hf : f_SoundFile_loadTrack_107 rec69 K l4 l0 F B = some (r, F9, B9)) (hZ : zH D ca ad lnC K.2 L F B A H) (hS : va_S A s.heap H locs) (hl : lv_has ls 5 [(4, .int (iI l4)), (0, .ref (ad 8 l0 0))]) : W p l e ({ frames := 5, cells := 0, slots := 0, locals := 114 } : Room) s m args below meth c H locs 0 0 (MQ below (Q_SoundFile_loadTrack K D ca ad L r F9 B9 A) args s 0 0 A) (F0 m 107 ls []) := by
  obtain ⟨hx, hb, hr, hml, hown, hts, hlk, hK, hA, hL, hX⟩ := id X
  replace hf : (rec69 (l4 + 1) l0 F B) = some (r, F9, B9) := hf
  refine lv_iinc (v := iI (l4 + 1)) (lv' := [(4, .int (iI (l4 + 1))), (0, .ref (ad 8 l0 0))]) hx hb d_10_13_107 hl (k := 0) rfl (iI_add _ 1) (by decide) rfl (fun ls hl => ?_)
  refine lv_goto (tgt := 69) hx hb d_10_13_110 (by decide) ?_
  exact hrec69 hf hZ hS (lv_sub hl [0, 1] rfl)

noncomputable def f_SoundFile_loadTrack_69 (K : zK) : Nat → Int → Int → zF → zB → zO
  | 0, _, _, _, _ => none
  | n + 1, l4, l0, F, B => if 0 ≤ l0 ∧ l0 < K.2 8 then if r32 l4 then if r32 (F 8 l0 2) then (if (F 8 l0 2) ≤ l4 then some (0, F, B) else if 0 ≤ l4 ∧ l4 < 400 then if r64 (B 8 l0 225 l4) then (if (zcmp (B 8 l0 225 l4) (-1)) = 0 then f_SoundFile_loadTrack_107 (f_SoundFile_loadTrack_69 K n) K l4 l0 F (zup4 B 8 l0 225 l4 (F 8 l0 10)) else f_SoundFile_loadTrack_107 (f_SoundFile_loadTrack_69 K n) K l4 l0 F B) else none else none) else none else none else none
set_option maxHeartbeats 4000000 in
set_option maxRecDepth 100000 in
theorem b_SoundFile_loadTrack_69 {D : va_G} {ca : Nat → ClassId} {ad : Nat → Int → Nat → Nat} {L : List Nat} {aS vS : Nat → Nat} {A : Nat → Prop} {p : Program} {l : Launch} {e : Env} {s : State} {m : MethodId} {args : Array Value} {below : List Frame} {meth : Method} {c : Code} {K : zK} {r : Int} {F9 : zF} {B9 : zB} (X : zX D ca L aS vS A p s m args meth c prog_10_method_13_code 5 (Option.none : Option Jvm.ClassFile.FieldType) "StaveHouse$SoundFile") : ∀ {n : Nat} {l4 : Int} {l0 : Int} {F : zF} {B : zB} {H : Heap} {locs : List Loc} {ls : Array Slot}, f_SoundFile_loadTrack_69 K n l4 l0 F B = some (r, F9, B9) → zH D ca ad lnC K.2 L F B A H → va_S A s.heap H locs → lv_has ls 5 [(4, .int (iI l4)), (0, .ref (ad 8 l0 0))] → W p l e ({ frames := 5, cells := 0, slots := 0, locals := 114 } : Room) s m args below meth c H locs 0 0 (MQ below (Q_SoundFile_loadTrack K D ca ad L r F9 B9 A) args s 0 0 A) (F0 m 69 ls []) := by
  obtain ⟨hx, hb, hr, hml, hown, hts, hlk, hK, hA, hL, hX⟩ := id X
  intro n
  induction n with
  | zero =>
    intros
    rename_i hf _ _ _
    cases hf
  | succ n ih =>
    intro l4 l0 F B H locs ls hf hZ hS hl
    replace hf : (if 0 ≤ l0 ∧ l0 < K.2 8 then if r32 l4 then if r32 (F 8 l0 2) then (if (F 8 l0 2) ≤ l4 then some (0, F, B) else if 0 ≤ l4 ∧ l4 < 400 then if r64 (B 8 l0 225 l4) then (if (zcmp (B 8 l0 225 l4) (-1)) = 0 then f_SoundFile_loadTrack_107 (f_SoundFile_loadTrack_69 K n) K l4 l0 F (zup4 B 8 l0 225 l4 (F 8 l0 10)) else f_SoundFile_loadTrack_107 (f_SoundFile_loadTrack_69 K n) K l4 l0 F B) else none else none) else none else none else none) = some (r, F9, B9) := hf
    refine lv_iload hx hb d_10_13_69 (lv_at hl 0 rfl) ?_
    refine lv_aload_n hx hb d_10_13_71 rfl (lv_at hl 1 rfl) ?_
    obtain ⟨g17, hf⟩ := gif hf
    refine zget (ci := 8) (C := RX8) (T := TX8) (v := .int (iI (F 8 l0 2))) (k := 2) hx hb hts inW_8 hown hK hZ g17.1 g17.2 rfl (by decide) k_7_223 rfl d_10_13_72 ?_
    obtain ⟨g18, hf⟩ := gif hf
    obtain ⟨g19, hf⟩ := gif hf
    refine zge (tgt := 113) hx hb g18 g19 d_10_13_75 (by decide) (fun h20 => ?_) (fun h20 => ?_)
    · replace hf := gpos hf h20
      cases hf
      exact W.vret hx hb hr (fun t ht hW => ⟨⟨(), rfl, trivial, by rw [ht]; exact hZ, va_K.moved hW.alike hK⟩, hS.F ht⟩) hS.2.2 d_10_13_113 hlk
    · replace hf := gneg hf h20
      refine lv_aload_n hx hb d_10_13_78 rfl (lv_at hl 1 rfl) ?_
      refine zget (ci := 8) (C := RX8) (T := TX8) (v := .ref (ad 8 l0 (1 + 1))) (k := 1) hx hb hts inW_8 hown hK hZ g17.1 g17.2 rfl (by decide) k_7_220 rfl d_10_13_79 ?_
      refine lv_iconst (v := iI 5) hx hb d_10_13_82 rfl ?_
      refine zaldQ (t := 1) (ci := 8) (k := 1) hx hb hK rfl hZ g17.1 g17.2 rfl (Nat.le_of_ble_eq_true rfl) (by decide) (by decide) d_10_13_83 ?_
      refine W.eq (g2 := F0 m 84 ls [.ref (ad 8 l0 (225 + 1))]) rfl ?_
      refine lv_iload hx hb d_10_13_84 (lv_at hl 0 rfl) ?_
      obtain ⟨g21, hf⟩ := gif hf
      refine zlald (ci := 8) (k := 225) hx hb hK rfl hZ g17.1 g17.2 rfl (Nat.le_of_ble_eq_true rfl) g21.1 g21.2 d_10_13_86 ?_
      refine lv_ldc2 hx hb hown (hts _ k_8_121) d_10_13_87 ?_
      refine W.eq (g2 := F0 m 90 ls [.long (lI (-1)), .long (lI (B 8 l0 225 l4))]) rfl ?_
      obtain ⟨g22, hf⟩ := gif hf
      refine zcmp_r hx hb g22 (by decide) d_10_13_90 ?_
      refine z0ne (tgt := 107) hx hb zcmp_32 d_10_13_91 (by decide) (fun h23 => ?_) (fun h23 => ?_)
      · replace hf := gneg hf h23
        exact b_SoundFile_loadTrack_107 X ih hf hZ hS (lv_sub hl [0, 1] rfl)
      · replace hf := gpos hf h23
        refine lv_aload_n hx hb d_10_13_94 rfl (lv_at hl 1 rfl) ?_
        refine zget (ci := 8) (C := RX8) (T := TX8) (v := .ref (ad 8 l0 (1 + 1))) (k := 1) hx hb hts inW_8 hown hK hZ g17.1 g17.2 rfl (by decide) k_7_220 rfl d_10_13_95 ?_
        refine lv_iconst (v := iI 5) hx hb d_10_13_98 rfl ?_
        refine zaldQ (t := 1) (ci := 8) (k := 1) hx hb hK rfl hZ g17.1 g17.2 rfl (Nat.le_of_ble_eq_true rfl) (by decide) (by decide) d_10_13_99 ?_
        refine W.eq (g2 := F0 m 100 ls [.ref (ad 8 l0 (225 + 1))]) rfl ?_
        refine lv_iload hx hb d_10_13_100 (lv_at hl 0 rfl) ?_
        refine lv_aload_n hx hb d_10_13_102 rfl (lv_at hl 1 rfl) ?_
        refine zget (ci := 8) (C := RX8) (T := TX8) (v := .long (lI (F 8 l0 10))) (k := 10) hx hb hts inW_8 hown hK hZ g17.1 g17.2 rfl (by decide) k_7_234 rfl d_10_13_103 ?_
        refine zlast (ci := 8) (k := 225) hx hb hK rfl hZ hS g17.1 g17.2 rfl (Nat.le_of_ble_eq_true rfl) g21.1 g21.2 d_10_13_106 (fun H24 locs24 hZ24 hS24 => ?_)
        exact b_SoundFile_loadTrack_107 X ih hf hZ24 hS24 (lv_sub hl [0, 1] rfl)

noncomputable def f_SoundFile_loadTrack_66 (K : zK) (l3 : Int) (l0 : Int) (F : zF) (B : zB) : zO := f_SoundFile_loadTrack_69 K K.1 l3 l0 F B
set_option maxHeartbeats 4000000 in
set_option maxRecDepth 100000 in
theorem b_SoundFile_loadTrack_66 {D : va_G} {ca : Nat → ClassId} {ad : Nat → Int → Nat → Nat} {L : List Nat} {aS vS : Nat → Nat} {A : Nat → Prop} {p : Program} {l : Launch} {e : Env} {s : State} {m : MethodId} {args : Array Value} {below : List Frame} {meth : Method} {c : Code} {K : zK} {r : Int} {F9 : zF} {B9 : zB} (X : zX D ca L aS vS A p s m args meth c prog_10_method_13_code 5 (Option.none : Option Jvm.ClassFile.FieldType) "StaveHouse$SoundFile") {l3 : Int} {l0 : Int} {F : zF} {B : zB} {H : Heap} {locs : List Loc} {ls : Array Slot} (hf : f_SoundFile_loadTrack_66 K l3 l0 F B = some (r, F9, B9)) (hZ : zH D ca ad lnC K.2 L F B A H) (hS : va_S A s.heap H locs) (hl : lv_has ls 5 [(3, .int (iI l3)), (0, .ref (ad 8 l0 0))]) : W p l e ({ frames := 5, cells := 0, slots := 0, locals := 114 } : Room) s m args below meth c H locs 0 0 (MQ below (Q_SoundFile_loadTrack K D ca ad L r F9 B9 A) args s 0 0 A) (F0 m 66 ls []) := by
  obtain ⟨hx, hb, hr, hml, hown, hts, hlk, hK, hA, hL, hX⟩ := id X
  replace hf : (f_SoundFile_loadTrack_69 K K.1 l3 l0 F B) = some (r, F9, B9) := hf
  refine lv_iload_n hx hb d_10_13_66 rfl (lv_at hl 0 rfl) ?_
  refine lv_istore (lv' := [(4, .int (iI l3)), (3, .int (iI l3)), (0, .ref (ad 8 l0 0))]) hx hb d_10_13_67 hl (by decide) rfl (fun ls hl => ?_)
  exact b_SoundFile_loadTrack_69 X hf hZ hS (lv_sub hl [0, 2] rfl)

noncomputable def f_SoundFile_loadTrack_23 (K : zK) : Nat → Int → Int → Int → Int → zF → zB → zO
  | 0, _, _, _, _, _, _ => none
  | n + 1, l4, l3, l0, l1, F, B => if r32 l4 then (if 3000 ≤ l4 then f_SoundFile_loadTrack_66 K l3 l0 F B else if 0 ≤ l0 ∧ l0 < K.2 8 then if r32 (F 8 l0 7) then (if (F 8 l0 7) = 0 then if r32 (F 8 l0 5) then if r64 (F 8 l0 5) then if r64 l1 then (if 0 ≤ (zcmp (F 8 l0 5) l1) then f_SoundFile_loadTrack_66 K l3 l0 F B else if r32 (F 8 l0 11) then (if (F 8 l0 11) = 0 then zbind (f_SoundFile_loadEvent K l0 l3 F B) (fun r16 F16 B16 => f_SoundFile_loadTrack_23 K n (l4 + 1) l3 l0 l1 F16 B16) else f_SoundFile_loadTrack_66 K l3 l0 F B) else none) else none else none else none else f_SoundFile_loadTrack_66 K l3 l0 F B) else none else none) else none
set_option maxHeartbeats 4000000 in
set_option maxRecDepth 100000 in
theorem b_SoundFile_loadTrack_23 {D : va_G} {ca : Nat → ClassId} {ad : Nat → Int → Nat → Nat} {L : List Nat} {aS vS : Nat → Nat} {A : Nat → Prop} {p : Program} {l : Launch} {e : Env} {s : State} {m : MethodId} {args : Array Value} {below : List Frame} {meth : Method} {c : Code} {K : zK} {r : Int} {F9 : zF} {B9 : zB} (X : zX D ca L aS vS A p s m args meth c prog_10_method_13_code 5 (Option.none : Option Jvm.ClassFile.FieldType) "StaveHouse$SoundFile") : ∀ {n : Nat} {l4 : Int} {l3 : Int} {l0 : Int} {l1 : Int} {F : zF} {B : zB} {H : Heap} {locs : List Loc} {ls : Array Slot}, f_SoundFile_loadTrack_23 K n l4 l3 l0 l1 F B = some (r, F9, B9) → zH D ca ad lnC K.2 L F B A H → va_S A s.heap H locs → lv_has ls 5 [(4, .int (iI l4)), (3, .int (iI l3)), (0, .ref (ad 8 l0 0)), (1, .long (lI l1))] → W p l e ({ frames := 5, cells := 0, slots := 0, locals := 114 } : Room) s m args below meth c H locs 0 0 (MQ below (Q_SoundFile_loadTrack K D ca ad L r F9 B9 A) args s 0 0 A) (F0 m 23 ls []) := by
  obtain ⟨hx, hb, hr, hml, hown, hts, hlk, hK, hA, hL, hX⟩ := id X
  intro n
  induction n with
  | zero =>
    intros
    rename_i hf _ _ _
    cases hf
  | succ n ih =>
    intro l4 l3 l0 l1 F B H locs ls hf hZ hS hl
    replace hf : (if r32 l4 then (if 3000 ≤ l4 then f_SoundFile_loadTrack_66 K l3 l0 F B else if 0 ≤ l0 ∧ l0 < K.2 8 then if r32 (F 8 l0 7) then (if (F 8 l0 7) = 0 then if r32 (F 8 l0 5) then if r64 (F 8 l0 5) then if r64 l1 then (if 0 ≤ (zcmp (F 8 l0 5) l1) then f_SoundFile_loadTrack_66 K l3 l0 F B else if r32 (F 8 l0 11) then (if (F 8 l0 11) = 0 then zbind (f_SoundFile_loadEvent K l0 l3 F B) (fun r16 F16 B16 => f_SoundFile_loadTrack_23 K n (l4 + 1) l3 l0 l1 F16 B16) else f_SoundFile_loadTrack_66 K l3 l0 F B) else none) else none else none else none else f_SoundFile_loadTrack_66 K l3 l0 F B) else none else none) else none) = some (r, F9, B9) := hf
    refine lv_iload hx hb d_10_13_23 (lv_at hl 0 rfl) ?_
    refine lv_sipush (v := iI 3000) hx hb d_10_13_25 (by decide) ?_
    obtain ⟨g5, hf⟩ := gif hf
    refine zge (tgt := 66) hx hb g5 (by decide) d_10_13_28 (by decide) (fun h6 => ?_) (fun h6 => ?_)
    · replace hf := gpos hf h6
      exact b_SoundFile_loadTrack_66 X hf hZ hS (lv_sub hl [1, 2] rfl)
    · replace hf := gneg hf h6
      refine lv_aload_n hx hb d_10_13_31 rfl (lv_at hl 2 rfl) ?_
      obtain ⟨g7, hf⟩ := gif hf
      refine zget (ci := 8) (C := RX8) (T := TX8) (v := .int (iI (F 8 l0 7))) (k := 7) hx hb hts inW_8 hown hK hZ g7.1 g7.2 rfl (by decide) k_7_231 rfl d_10_13_32 ?_
      obtain ⟨g8, hf⟩ := gif hf
      refine z0ne (tgt := 66) hx hb g8 d_10_13_35 (by decide) (fun h9 => ?_) (fun h9 => ?_)
      · replace hf := gneg hf h9
        exact b_SoundFile_loadTrack_66 X hf hZ hS (lv_sub hl [1, 2] rfl)
      · replace hf := gpos hf h9
        refine lv_aload_n hx hb d_10_13_38 rfl (lv_at hl 2 rfl) ?_
        refine zget (ci := 8) (C := RX8) (T := TX8) (v := .int (iI (F 8 l0 5))) (k := 5) hx hb hts inW_8 hown hK hZ g7.1 g7.2 rfl (by decide) k_7_229 rfl d_10_13_39 ?_
        obtain ⟨g10, hf⟩ := gif hf
        refine zi2l hx hb g10 d_10_13_42 ?_
        refine lv_lload_n hx hb d_10_13_43 rfl (lv_at hl 3 rfl) ?_
        obtain ⟨g11, hf⟩ := gif hf
        obtain ⟨g12, hf⟩ := gif hf
        refine zcmp_r hx hb g11 g12 d_10_13_44 ?_
        refine z0ge (tgt := 66) hx hb zcmp_32 d_10_13_45 (by decide) (fun h13 => ?_) (fun h13 => ?_)
        · replace hf := gpos hf h13
          exact b_SoundFile_loadTrack_66 X hf hZ hS (lv_sub hl [1, 2] rfl)
        · replace hf := gneg hf h13
          refine lv_aload_n hx hb d_10_13_48 rfl (lv_at hl 2 rfl) ?_
          refine zget (ci := 8) (C := RX8) (T := TX8) (v := .int (iI (F 8 l0 11))) (k := 11) hx hb hts inW_8 hown hK hZ g7.1 g7.2 rfl (by decide) k_7_235 rfl d_10_13_49 ?_
          obtain ⟨g14, hf⟩ := gif hf
          refine z0ne (tgt := 66) hx hb g14 d_10_13_52 (by decide) (fun h15 => ?_) (fun h15 => ?_)
          · replace hf := gneg hf h15
            exact b_SoundFile_loadTrack_66 X hf hZ hS (lv_sub hl [1, 2] rfl)
          · replace hf := gpos hf h15
            refine lv_aload_n hx hb d_10_13_55 rfl (lv_at hl 2 rfl) ?_
            refine lv_iload_n hx hb d_10_13_56 rfl (lv_at hl 1 rfl) ?_
            obtain ⟨r16, F16, B16, hc16, hf⟩ := gbind hf
            refine va_callv (va_runV (As := [.int (iI l3)]) (rest := []) ⟨hx, hb, hml, hown, hts⟩ (c_SoundFile_loadEvent (l := l) hc16) (cwV 1 hts (gdV k_8_80 k_8_82 ks_101 k_1_23 k_8_83) rfl rfl rfl (by decide +kernel) ⟨Nat.le_of_ble_eq_true rfl, Nat.le_of_ble_eq_true rfl⟩) (zPV X hZ hS (ci := 8) g7.1 g7.2 (r := (RX8, TX8, 15)) rfl [.int (iI l3)]) rfl rfl hl.1 rfl (lv_room (Nat.le_of_ble_eq_true rfl)) d_10_13_57 ⟨Nat.le_of_ble_eq_true rfl, Nat.le_of_ble_eq_true rfl⟩) hS (fun q _ h => zAin X hS q h) (zAin X hS) (fun u16 t16 H16 locs16 ht16 hv16 hw16 hB16 hz16 hk16 hS16 => ?_)
            have hZ16 := zBack X ht16 hB16
            refine lv_iinc (v := iI (l4 + 1)) (lv' := [(4, .int (iI (l4 + 1))), (3, .int (iI l3)), (0, .ref (ad 8 l0 0)), (1, .long (lI l1))]) hx hb d_10_13_60 hl (k := 0) rfl (iI_add _ 1) (by decide) rfl (fun ls hl => ?_)
            refine lv_goto (tgt := 23) hx hb d_10_13_63 (by decide) ?_
            exact ih hf hZ16 hS16 (lv_sub hl [0, 1, 2, 3] rfl)

noncomputable def f_SoundFile_loadTrack (K : zK) (l0 : Int) (l1 : Int) (F : zF) (B : zB) : zO := if 0 ≤ l0 ∧ l0 < K.2 8 then f_SoundFile_loadTrack_23 K K.1 0 (F 8 l0 2) l0 l1 (zup3 (zup3 (zup3 F 8 l0 9 0) 8 l0 10 0) 8 l0 11 0) B else none
set_option maxHeartbeats 4000000 in
set_option maxRecDepth 100000 in
theorem c_SoundFile_loadTrack {l : Launch} {D : va_G} {ca : Nat → ClassId} {ad : Nat → Int → Nat → Nat} {L : List Nat} {aS vS : Nat → Nat} {sz : Nat} {K : zK}  {l0 : Int} {l1 : Int} {F F9 : zF} {B B9 : zB} {r : Int} (hf : f_SoundFile_loadTrack K l0 l1 F B = some (r, F9, B9)) : Met l ({ cls := "StaveHouse$SoundFile", name := "loadTrack", desc := "(J)V" } : Jvm.MethodName) (Cond.code ({ cls := "StaveHouse$SoundFile", name := "loadTrack", desc := "(J)V" } : Jvm.MethodName) prog_10_method_13_code 5 (Option.none : Option Jvm.ClassFile.FieldType) :: wAll) ({ frames := 5, cells := 0, slots := 0, locals := 114 } : Room) (va_Pc [.ref (ad 8 l0 0), .long (lI l1)] (zPre D ca ad lnC K.2 L aS vS F B sz)) (Q_SoundFile_loadTrack K D ca ad L r F9 B9 (zA L sz)) 0 0 (zA L sz) := by
  refine zMet (Qc := Q_SoundFile_loadTrack K D ca ad L r F9 B9) (lv := [(0, .ref (ad 8 l0 0)), (1, .long (lI l1))]) (by decide) (Nat.le_of_ble_eq_true rfl) rfl (fun A p e s m below meth c ls X hZ hS hl => ?_)
  obtain ⟨hx, hb, hr, hml, hown, hts, hlk, hK, hA, hL, hX⟩ := id X
  replace hf : (if 0 ≤ l0 ∧ l0 < K.2 8 then f_SoundFile_loadTrack_23 K K.1 0 (F 8 l0 2) l0 l1 (zup3 (zup3 (zup3 F 8 l0 9 0) 8 l0 10 0) 8 l0 11 0) B else none) = some (r, F9, B9) := hf
  refine lv_aload_n hx hb d_10_13_0 rfl (lv_at hl 0 rfl) ?_
  obtain ⟨g1, hf⟩ := gif hf
  refine zget (ci := 8) (C := RX8) (T := TX8) (v := .int (iI (F 8 l0 2))) (k := 2) hx hb hts inW_8 hown hK hZ g1.1 g1.2 rfl (by decide) k_7_223 rfl d_10_13_1 ?_
  refine lv_istore_n (lv' := [(3, .int (iI (F 8 l0 2))), (0, .ref (ad 8 l0 0)), (1, .long (lI l1))]) hx hb d_10_13_4 rfl hl (by decide) rfl (fun ls hl => ?_)
  refine lv_aload_n hx hb d_10_13_5 rfl (lv_at hl 1 rfl) ?_
  refine lv_iconst (v := iI 0) hx hb d_10_13_6 rfl ?_
  refine zput (ci := 8) (C := RX8) (T := TX8) (k := 9) (v := 0) (w := .int (iI 0)) hx hb hts inW_8 tyX8 tyX8_ok nmX8 hown hK hZ hS g1.1 g1.2 rfl (by decide) k_7_233 rfl (fun G h => congrArg (fun q => Value.int (iI q)) h) rfl rfl (zno (by decide)) d_10_13_7 (fun H2 locs2 hZ2 hS2 => ?_)
  refine lv_aload_n hx hb d_10_13_10 rfl (lv_at hl 1 rfl) ?_
  refine lv_lconst (v := lI 0) hx hb d_10_13_11 (by decide) ?_
  refine zput (ci := 8) (C := RX8) (T := TX8) (k := 10) (v := 0) (w := .long (lI 0)) hx hb hts inW_8 tyX8 tyX8_ok nmX8 hown hK hZ2 hS2 g1.1 g1.2 rfl (by decide) k_7_234 rfl (fun G h => congrArg (fun q => Value.long (lI q)) h) rfl rfl (zno (by decide)) d_10_13_12 (fun H3 locs3 hZ3 hS3 => ?_)
  refine lv_aload_n hx hb d_10_13_15 rfl (lv_at hl 1 rfl) ?_
  refine lv_iconst (v := iI 0) hx hb d_10_13_16 rfl ?_
  refine zput (ci := 8) (C := RX8) (T := TX8) (k := 11) (v := 0) (w := .int (iI 0)) hx hb hts inW_8 tyX8 tyX8_ok nmX8 hown hK hZ3 hS3 g1.1 g1.2 rfl (by decide) k_7_235 rfl (fun G h => congrArg (fun q => Value.int (iI q)) h) rfl rfl (zno (by decide)) d_10_13_17 (fun H4 locs4 hZ4 hS4 => ?_)
  refine lv_iconst (v := iI 0) hx hb d_10_13_20 rfl ?_
  refine lv_istore (lv' := [(4, .int (iI 0)), (3, .int (iI (F 8 l0 2))), (0, .ref (ad 8 l0 0)), (1, .long (lI l1))]) hx hb d_10_13_21 hl (by decide) rfl (fun ls hl => ?_)
  exact b_SoundFile_loadTrack_23 X hf hZ4 hS4 (lv_sub hl [0, 1, 2, 3] rfl)

noncomputable abbrev Q_Scribe_writeSpan (K : zK) (D : va_G) (ca : Nat → ClassId) (ad : Nat → Int → Nat → Nat) (L : List Nat) (r : Int) (F : zF) (B : zB) (A : Nat → Prop) : Array Value → State → Outcome → State → Prop := va_Qv (S := Unit) (fun _ => True) (fun _ => zPo D ca ad lnC K.2 L F B A) A
noncomputable def f_Scribe_writeSpan_122 (K : zK)  (F : zF) (B : zB) : zO := some (0, F, B)
set_option maxHeartbeats 4000000 in
set_option maxRecDepth 100000 in
theorem b_Scribe_writeSpan_122 {D : va_G} {ca : Nat → ClassId} {ad : Nat → Int → Nat → Nat} {L : List Nat} {aS vS : Nat → Nat} {A : Nat → Prop} {p : Program} {l : Launch} {e : Env} {s : State} {m : MethodId} {args : Array Value} {below : List Frame} {meth : Method} {c : Code} {K : zK} {r : Int} {F9 : zF} {B9 : zB} (X : zX D ca L aS vS A p s m args meth c prog_9_method_12_code 7 (Option.none : Option Jvm.ClassFile.FieldType) "StaveHouse$Scribe")  {F : zF} {B : zB} {H : Heap} {locs : List Loc} {ls : Array Slot} (hf : f_Scribe_writeSpan_122 K  F B = some (r, F9, B9)) (hZ : zH D ca ad lnC K.2 L F B A H) (hS : va_S A s.heap H locs) (hl : lv_has ls 7 []) : W p l e ({ frames := 6, cells := 0, slots := 0, locals := 131 } : Room) s m args below meth c H locs 0 0 (MQ below (Q_Scribe_writeSpan K D ca ad L r F9 B9 A) args s 0 0 A) (F0 m 122 ls []) := by
  obtain ⟨hx, hb, hr, hml, hown, hts, hlk, hK, hA, hL, hX⟩ := id X
  replace hf : (some (0, F, B)) = some (r, F9, B9) := hf
  cases hf
  exact W.vret hx hb hr (fun t ht hW => ⟨⟨(), rfl, trivial, by rw [ht]; exact hZ, va_K.moved hW.alike hK⟩, hS.F ht⟩) hS.2.2 d_9_12_122 hlk

noncomputable def f_Scribe_writeSpan_116 (rec5 : Int → Int → Int → Int → zF → zB → zO) (K : zK) (l3 : Int) (l4 : Int) (l0 : Int) (l2 : Int) (F : zF) (B : zB) : zO := rec5 (l4 + 1) l3 l0 l2 F B
set_option maxHeartbeats 4000000 in
set_option maxRecDepth 100000 in
theorem b_Scribe_writeSpan_116 {D : va_G} {ca : Nat → ClassId} {ad : Nat → Int → Nat → Nat} {L : List Nat} {aS vS : Nat → Nat} {A : Nat → Prop} {p : Program} {l : Launch} {e : Env} {s : State} {m : MethodId} {args : Array Value} {below : List Frame} {meth : Method} {c : Code} {K : zK} {r : Int} {F9 : zF} {B9 : zB} (X : zX D ca L aS vS A p s m args meth c prog_9_method_12_code 7 (Option.none : Option Jvm.ClassFile.FieldType) "StaveHouse$Scribe") {rec5 : Int → Int → Int → Int → zF → zB → zO} (hrec5 : ∀ {l4 : Int} {l3 : Int} {l0 : Int} {l2 : Int} {F : zF} {B : zB} {H : Heap} {locs : List Loc} {ls : Array Slot}, rec5 l4 l3 l0 l2 F B = some (r, F9, B9) → zH D ca ad lnC K.2 L F B A H → va_S A s.heap H locs → lv_has ls 7 [(4, .int (iI l4)), (3, .int (iI l3)), (0, .ref (ad 7 l0 0)), (2, .int (iI l2))] → W p l e ({ frames := 6, cells := 0, slots := 0, locals := 131 } : Room) s m args below meth c H locs 0 0 (MQ below (Q_Scribe_writeSpan K D ca ad L r F9 B9 A) args s 0 0 A) (F0 m 5 ls [])) {l3 : Int} {l4 : Int} {l0 : Int} {l2 : Int} {F : zF} {B : zB} {H : Heap} {locs : List Loc} {ls : Array Slot} (hf : f_Scribe_writeSpan_116 rec5 K l3 l4 l0 l2 F B = some (r, F9, B9)) (hZ : zH D ca ad lnC K.2 L F B A H) (hS : va_S A s.heap H locs) (hl : lv_has ls 7 [(3, .int (iI l3)), (4, .int (iI l4)), (0, .ref (ad 7 l0 0)), (2, .int (iI l2))]) : W p l e ({ frames := 6, cells := 0, slots := 0, locals := 131 } : Room) s m args below meth c H locs 0 0 (MQ below (Q_Scribe_writeSpan K D ca ad L r F9 B9 A) args s 0 0 A) (F0 m 116 ls []) := by
  obtain ⟨hx, hb, hr, hml, hown, hts, hlk, hK, hA, hL, hX⟩ := id X
  replace hf : (rec5 (l4 + 1) l3 l0 l2 F B) = some (r, F9, B9) := hf
  refine lv_iinc (v := iI (l4 + 1)) (lv' := [(4, .int (iI (l4 + 1))), (3, .int (iI l3)), (0, .ref (ad 7 l0 0)), (2, .int (iI l2))]) hx hb d_9_12_116 hl (k := 1) rfl (iI_add _ 1) (by decide) rfl (fun ls hl => ?_)
  refine lv_goto (tgt := 5) hx hb d_9_12_119 (by decide) ?_
  exact hrec5 hf hZ hS (lv_sub hl [0, 1, 2, 3] rfl)

noncomputable def f_Scribe_writeSpan_95 (rec5 : Int → Int → Int → Int → zF → zB → zO) (K : zK) (l3 : Int) (l4 : Int) (l0 : Int) (l2 : Int) (s0 : Int) (s1 : Int) (s2 : Int) (F : zF) (B : zB) : zO := if 0 ≤ s0 ∧ s0 < K.2 7 then zbind (f_Scribe_writeNote K s0 s1 s2 F B) (fun r18 F18 B18 => if 0 ≤ l0 ∧ l0 < K.2 7 then if ¬ iI (F18 7 l0 3) = 0 then if r32 (zrm l3 (F18 7 l0 3)) then (if (zrm l3 (F18 7 l0 3)) = 0 then if 0 ≤ (F18 7 l0 1) ∧ (F18 7 l0 1) < K.2 0 then zbind (f_ByteRow_putText K (F18 7 l0 1) 13 F18 B18) (fun r24 F24 B24 => f_Scribe_writeSpan_116 rec5 K l3 l4 l0 l2 F24 B24) else none else f_Scribe_writeSpan_116 rec5 K l3 l4 l0 l2 F18 B18) else none else none else none) else none
set_option maxHeartbeats 4000000 in
set_option maxRecDepth 100000 in
theorem b_Scribe_writeSpan_95 {D : va_G} {ca : Nat → ClassId} {ad : Nat → Int → Nat → Nat} {L : List Nat} {aS vS : Nat → Nat} {A : Nat → Prop} {p : Program} {l : Launch} {e : Env} {s : State} {m : MethodId} {args : Array Value} {below : List Frame} {meth : Method} {c : Code} {K : zK} {r : Int} {F9 : zF} {B9 : zB} (X : zX D ca L aS vS A p s m args meth c prog_9_method_12_code 7 (Option.none : Option Jvm.ClassFile.FieldType) "StaveHouse$Scribe") {rec5 : Int → Int → Int → Int → zF → zB → zO} (hrec5 : ∀ {l4 : Int} {l3 : Int} {l0 : Int} {l2 : Int} {F : zF} {B : zB} {H : Heap} {locs : List Loc} {ls : Array Slot}, rec5 l4 l3 l0 l2 F B = some (r, F9, B9) → zH D ca ad lnC K.2 L F B A H → va_S A s.heap H locs → lv_has ls 7 [(4, .int (iI l4)), (3, .int (iI l3)), (0, .ref (ad 7 l0 0)), (2, .int (iI l2))] → W p l e ({ frames := 6, cells := 0, slots := 0, locals := 131 } : Room) s m args below meth c H locs 0 0 (MQ below (Q_Scribe_writeSpan K D ca ad L r F9 B9 A) args s 0 0 A) (F0 m 5 ls [])) {l3 : Int} {l4 : Int} {l0 : Int} {l2 : Int} {s0 : Int} {s1 : Int} {s2 : Int} {F : zF} {B : zB} {H : Heap} {locs : List Loc} {ls : Array Slot} (hf : f_Scribe_writeSpan_95 rec5 K l3 l4 l0 l2 s0 s1 s2 F B = some (r, F9, B9)) (hZ : zH D ca ad lnC K.2 L F B A H) (hS : va_S A s.heap H locs) (hl : lv_has ls 7 [(3, .int (iI l3)), (4, .int (iI l4)), (0, .ref (ad 7 l0 0)), (2, .int (iI l2))]) : W p l e ({ frames := 6, cells := 0, slots := 0, locals := 131 } : Room) s m args below meth c H locs 0 0 (MQ below (Q_Scribe_writeSpan K D ca ad L r F9 B9 A) args s 0 0 A) (F0 m 95 ls [.int (iI s2), .int (iI s1), va_rf (zrf ad 7 s0)]) := by
  obtain ⟨hx, hb, hr, hml, hown, hts, hlk, hK, hA, hL, hX⟩ := id X
  replace hf : (if 0 ≤ s0 ∧ s0 < K.2 7 then zbind (f_Scribe_writeNote K s0 s1 s2 F B) (fun r18 F18 B18 => if 0 ≤ l0 ∧ l0 < K.2 7 then if ¬ iI (F18 7 l0 3) = 0 then if r32 (zrm l3 (F18 7 l0 3)) then (if (zrm l3 (F18 7 l0 3)) = 0 then if 0 ≤ (F18 7 l0 1) ∧ (F18 7 l0 1) < K.2 0 then zbind (f_ByteRow_putText K (F18 7 l0 1) 13 F18 B18) (fun r24 F24 B24 => f_Scribe_writeSpan_116 rec5 K l3 l4 l0 l2 F24 B24) else none else f_Scribe_writeSpan_116 rec5 K l3 l4 l0 l2 F18 B18) else none else none else none) else none) = some (r, F9, B9) := hf
  obtain ⟨g17, hf⟩ := gif hf
  refine W.eq (g2 := F0 m 95 ls [.int (iI s2), .int (iI s1), .ref (ad 7 s0 0)]) (by rw [zrf_pos (ad := ad) (t := 7) g17.1]; try rfl) ?_
  obtain ⟨r18, F18, B18, hc18, hf⟩ := gbind hf
  refine va_callv (va_runV (As := [.int (iI s1), .int (iI s2)]) (rest := []) ⟨hx, hb, hml, hown, hts⟩ (c_Scribe_writeNote (l := l) hc18) (cwV 2 hts (gdV k_8_203 k_8_205 ks_119 k_1_7 k_8_206) rfl rfl rfl (by decide +kernel) ⟨Nat.le_of_ble_eq_true rfl, Nat.le_of_ble_eq_true rfl⟩) (zPV X hZ hS (ci := 7) g17.1 g17.2 (r := (RX7, TX7, 9)) rfl [.int (iI s1), .int (iI s2)]) rfl rfl hl.1 rfl (lv_room (Nat.le_of_ble_eq_true rfl)) d_9_12_95 ⟨Nat.le_of_ble_eq_true rfl, Nat.le_of_ble_eq_true rfl⟩) hS (fun q _ h => zAin X hS q h) (zAin X hS) (fun u18 t18 H18 locs18 ht18 hv18 hw18 hB18 hz18 hk18 hS18 => ?_)
  have hZ18 := zBack X ht18 hB18
  refine lv_iload_n hx hb d_9_12_98 rfl (lv_at hl 0 rfl) ?_
  refine lv_aload_n hx hb d_9_12_99 rfl (lv_at hl 2 rfl) ?_
  obtain ⟨g19, hf⟩ := gif hf
  refine zget (ci := 7) (C := RX7) (T := TX7) (v := .int (iI (F18 7 l0 3))) (k := 3) hx hb hts inW_7 hown hK hZ18 g19.1 g19.2 rfl (by decide) k_2_101 rfl d_9_12_100 ?_
  obtain ⟨g20, hf⟩ := gif hf
  refine zrm_r hx hb g20 d_9_12_103 ?_
  obtain ⟨g21, hf⟩ := gif hf
  refine z0ne (tgt := 116) hx hb g21 d_9_12_104 (by decide) (fun h22 => ?_) (fun h22 => ?_)
  · replace hf := gneg hf h22
    exact b_Scribe_writeSpan_116 X hrec5 hf hZ18 hS18 (lv_sub hl [0, 1, 2, 3] rfl)
  · replace hf := gpos hf h22
    refine lv_aload_n hx hb d_9_12_107 rfl (lv_at hl 2 rfl) ?_
    refine zget (ci := 7) (C := RX7) (T := TX7) (v := va_rf (zrf ad 0 (F18 7 l0 1))) (k := 1) hx hb hts inW_7 hown hK hZ18 g19.1 g19.2 rfl (by decide) k_2_99 rfl d_9_12_108 ?_
    refine va_ldcS hx hb hown (hX.2.2.2.2.1 13 _ rfl).1 d_9_12_111 ?_
    obtain ⟨g23, hf⟩ := gif hf
    refine W.eq (g2 := F0 m 113 ls [.ref (aS 13), .ref (ad 0 (F18 7 l0 1) 0)]) (by rw [zrf_pos (ad := ad) (t := 0) g23.1]; try rfl) ?_
    obtain ⟨r24, F24, B24, hc24, hf⟩ := gbind hf
    refine va_callv (va_runV (As := [.ref (aS 13)]) (rest := []) ⟨hx, hb, hml, hown, hts⟩ (c_ByteRow_putText (l := l) hc24) (cwV 1 hts (gdV k_8_172 k_7_129 k_7_130 k_1_2 k_7_131) rfl rfl rfl (by decide +kernel) ⟨Nat.le_of_ble_eq_true rfl, Nat.le_of_ble_eq_true rfl⟩) (zPV X hZ18 hS18 (ci := 0) g23.1 g23.2 (r := (RX0, TX0, 3)) rfl [.ref (aS 13)]) rfl rfl hl.1 rfl (lv_room (Nat.le_of_ble_eq_true rfl)) d_9_12_113 ⟨Nat.le_of_ble_eq_true rfl, Nat.le_of_ble_eq_true rfl⟩) hS18 (fun q _ h => zAin X hS18 q h) (zAin X hS18) (fun u24 t24 H24 locs24 ht24 hv24 hw24 hB24 hz24 hk24 hS24 => ?_)
    have hZ24 := zBack X ht24 hB24
    exact b_Scribe_writeSpan_116 X hrec5 hf hZ24 hS24 (lv_sub hl [0, 1, 2, 3] rfl)

noncomputable def f_Scribe_writeSpan_5 (K : zK) : Nat → Int → Int → Int → Int → zF → zB → zO
  | 0, _, _, _, _, _, _ => none
  | n + 1, l4, l3, l0, l2, F, B => if r32 l4 then (if 51200 ≤ l4 then f_Scribe_writeSpan_122 K F B else if r32 l3 then if r32 l2 then (if l2 ≤ l3 then f_Scribe_writeSpan_122 K F B else if 0 ≤ l0 ∧ l0 < K.2 7 then if r32 (F 7 l0 3) then (if (F 7 l0 3) ≤ 0 then f_Scribe_writeSpan_122 K F B else if ¬ iI (F 7 l0 3) = 0 then if r32 (l2 - l3) then if r32 ((F 7 l0 3) - (zrm l3 (F 7 l0 3))) then if 0 ≤ (F 7 l0 0) ∧ (F 7 l0 0) < K.2 8 then zbind (f_S_nextValue K (B 8 (F 7 l0 0) 0 4) (B 8 (F 7 l0 0) 0 5) (zrm l3 (F 7 l0 3)) (zmin (l2 - l3) ((F 7 l0 3) - (zrm l3 (F 7 l0 3)))) F B) (fun r13 F13 B13 => zbind (f_S_fineValue K r13 F13 B13) (fun r14 F14 B14 => if r32 (l3 + r14) then (if l2 ≤ (l3 + r14) then f_Scribe_writeSpan_95 (f_Scribe_writeSpan_5 K n) K (l3 + r14) l4 l0 l2 l0 r13 0 F14 B14 else f_Scribe_writeSpan_95 (f_Scribe_writeSpan_5 K n) K (l3 + r14) l4 l0 l2 l0 r13 1 F14 B14) else none)) else none else none else none else none) else none else none) else none else none) else none
set_option maxHeartbeats 4000000 in
set_option maxRecDepth 100000 in
theorem b_Scribe_writeSpan_5 {D : va_G} {ca : Nat → ClassId} {ad : Nat → Int → Nat → Nat} {L : List Nat} {aS vS : Nat → Nat} {A : Nat → Prop} {p : Program} {l : Launch} {e : Env} {s : State} {m : MethodId} {args : Array Value} {below : List Frame} {meth : Method} {c : Code} {K : zK} {r : Int} {F9 : zF} {B9 : zB} (X : zX D ca L aS vS A p s m args meth c prog_9_method_12_code 7 (Option.none : Option Jvm.ClassFile.FieldType) "StaveHouse$Scribe") : ∀ {n : Nat} {l4 : Int} {l3 : Int} {l0 : Int} {l2 : Int} {F : zF} {B : zB} {H : Heap} {locs : List Loc} {ls : Array Slot}, f_Scribe_writeSpan_5 K n l4 l3 l0 l2 F B = some (r, F9, B9) → zH D ca ad lnC K.2 L F B A H → va_S A s.heap H locs → lv_has ls 7 [(4, .int (iI l4)), (3, .int (iI l3)), (0, .ref (ad 7 l0 0)), (2, .int (iI l2))] → W p l e ({ frames := 6, cells := 0, slots := 0, locals := 131 } : Room) s m args below meth c H locs 0 0 (MQ below (Q_Scribe_writeSpan K D ca ad L r F9 B9 A) args s 0 0 A) (F0 m 5 ls []) := by
  obtain ⟨hx, hb, hr, hml, hown, hts, hlk, hK, hA, hL, hX⟩ := id X
  intro n
  induction n with
  | zero =>
    intros
    rename_i hf _ _ _
    cases hf
  | succ n ih =>
    intro l4 l3 l0 l2 F B H locs ls hf hZ hS hl
    replace hf : (if r32 l4 then (if 51200 ≤ l4 then f_Scribe_writeSpan_122 K F B else if r32 l3 then if r32 l2 then (if l2 ≤ l3 then f_Scribe_writeSpan_122 K F B else if 0 ≤ l0 ∧ l0 < K.2 7 then if r32 (F 7 l0 3) then (if (F 7 l0 3) ≤ 0 then f_Scribe_writeSpan_122 K F B else if ¬ iI (F 7 l0 3) = 0 then if r32 (l2 - l3) then if r32 ((F 7 l0 3) - (zrm l3 (F 7 l0 3))) then if 0 ≤ (F 7 l0 0) ∧ (F 7 l0 0) < K.2 8 then zbind (f_S_nextValue K (B 8 (F 7 l0 0) 0 4) (B 8 (F 7 l0 0) 0 5) (zrm l3 (F 7 l0 3)) (zmin (l2 - l3) ((F 7 l0 3) - (zrm l3 (F 7 l0 3)))) F B) (fun r13 F13 B13 => zbind (f_S_fineValue K r13 F13 B13) (fun r14 F14 B14 => if r32 (l3 + r14) then (if l2 ≤ (l3 + r14) then f_Scribe_writeSpan_95 (f_Scribe_writeSpan_5 K n) K (l3 + r14) l4 l0 l2 l0 r13 0 F14 B14 else f_Scribe_writeSpan_95 (f_Scribe_writeSpan_5 K n) K (l3 + r14) l4 l0 l2 l0 r13 1 F14 B14) else none)) else none else none else none else none) else none else none) else none else none) else none) = some (r, F9, B9) := hf
    refine lv_iload hx hb d_9_12_5 (lv_at hl 0 rfl) ?_
    refine lv_ldc hx hb hown (hts _ k_8_199) d_9_12_7 ?_
    refine W.eq (g2 := F0 m 9 ls [.int (iI 51200), .int (iI l4)]) rfl ?_
    obtain ⟨g1, hf⟩ := gif hf
    refine zge (tgt := 122) hx hb g1 (by decide) d_9_12_9 (by decide) (fun h2 => ?_) (fun h2 => ?_)
    · replace hf := gpos hf h2
      exact b_Scribe_writeSpan_122 X hf hZ hS (lv_sub hl [] rfl)
    · replace hf := gneg hf h2
      refine lv_iload_n hx hb d_9_12_12 rfl (lv_at hl 1 rfl) ?_
      refine lv_iload_n hx hb d_9_12_13 rfl (lv_at hl 3 rfl) ?_
      obtain ⟨g3, hf⟩ := gif hf
      obtain ⟨g4, hf⟩ := gif hf
      refine zge (tgt := 122) hx hb g3 g4 d_9_12_14 (by decide) (fun h5 => ?_) (fun h5 => ?_)
      · replace hf := gpos hf h5
        exact b_Scribe_writeSpan_122 X hf hZ hS (lv_sub hl [] rfl)
      · replace hf := gneg hf h5
        refine lv_aload_n hx hb d_9_12_17 rfl (lv_at hl 2 rfl) ?_
        obtain ⟨g6, hf⟩ := gif hf
        refine zget (ci := 7) (C := RX7) (T := TX7) (v := .int (iI (F 7 l0 3))) (k := 3) hx hb hts inW_7 hown hK hZ g6.1 g6.2 rfl (by decide) k_2_101 rfl d_9_12_18 ?_
        obtain ⟨g7, hf⟩ := gif hf
        refine z0le (tgt := 122) hx hb g7 d_9_12_21 (by decide) (fun h8 => ?_) (fun h8 => ?_)
        · replace hf := gpos hf h8
          exact b_Scribe_writeSpan_122 X hf hZ hS (lv_sub hl [] rfl)
        · replace hf := gneg hf h8
          refine lv_iload_n hx hb d_9_12_24 rfl (lv_at hl 3 rfl) ?_
          refine lv_iload_n hx hb d_9_12_25 rfl (lv_at hl 1 rfl) ?_
          refine zsub hx hb d_9_12_26 ?_
          refine lv_aload_n hx hb d_9_12_27 rfl (lv_at hl 2 rfl) ?_
          refine zget (ci := 7) (C := RX7) (T := TX7) (v := .int (iI (F 7 l0 3))) (k := 3) hx hb hts inW_7 hown hK hZ g6.1 g6.2 rfl (by decide) k_2_101 rfl d_9_12_28 ?_
          refine lv_iload_n hx hb d_9_12_31 rfl (lv_at hl 1 rfl) ?_
          refine lv_aload_n hx hb d_9_12_32 rfl (lv_at hl 2 rfl) ?_
          refine zget (ci := 7) (C := RX7) (T := TX7) (v := .int (iI (F 7 l0 3))) (k := 3) hx hb hts inW_7 hown hK hZ g6.1 g6.2 rfl (by decide) k_2_101 rfl d_9_12_33 ?_
          obtain ⟨g9, hf⟩ := gif hf
          refine zrm_r hx hb g9 d_9_12_36 ?_
          refine zsub hx hb d_9_12_37 ?_
          obtain ⟨g10, hf⟩ := gif hf
          obtain ⟨g11, hf⟩ := gif hf
          refine va_mmin hx hb (by rw [hml]; exact hl.1.symm) hown (hts _ k_8_200) (hts _ k_3_97) (hts _ k_1_3) (hts _ k_3_98) (Nat.le_of_ble_eq_true rfl) (Nat.le_of_ble_eq_true rfl) (Nat.le_of_ble_eq_true rfl) (Nat.le_of_ble_eq_true rfl) d_9_12_38 ?_
          rw [zmin_e g10 g11]
          refine lv_istore (lv' := [(5, .int (iI (zmin (l2 - l3) ((F 7 l0 3) - (zrm l3 (F 7 l0 3)))))), (4, .int (iI l4)), (3, .int (iI l3)), (0, .ref (ad 7 l0 0)), (2, .int (iI l2))]) hx hb d_9_12_41 hl (by decide) rfl (fun ls hl => ?_)
          refine lv_aload_n hx hb d_9_12_43 rfl (lv_at hl 3 rfl) ?_
          refine zget (ci := 7) (C := RX7) (T := TX7) (v := va_rf (zrf ad 8 (F 7 l0 0))) (k := 0) hx hb hts inW_7 hown hK hZ g6.1 g6.2 rfl (by decide) k_2_98 rfl d_9_12_44 ?_
          obtain ⟨g12, hf⟩ := gif hf
          refine zunrf g12.1 ?_
          refine zget (ci := 8) (C := RX8) (T := TX8) (v := .ref (ad 8 (F 7 l0 0) (0 + 1))) (k := 0) hx hb hts inW_8 hown hK hZ g12.1 g12.2 rfl (by decide) k_7_218 rfl d_9_12_47 ?_
          refine lv_iconst (v := iI 4) hx hb d_9_12_50 rfl ?_
          refine zald (ci := 8) (k := 0) hx hb hK rfl hZ g12.1 g12.2 rfl (Nat.le_of_ble_eq_true rfl) (by decide) (show (4 : Int) < 7 by decide) d_9_12_51 ?_
          refine lv_aload_n hx hb d_9_12_52 rfl (lv_at hl 3 rfl) ?_
          refine zget (ci := 7) (C := RX7) (T := TX7) (v := va_rf (zrf ad 8 (F 7 l0 0))) (k := 0) hx hb hts inW_7 hown hK hZ g6.1 g6.2 rfl (by decide) k_2_98 rfl d_9_12_53 ?_
          refine zunrf g12.1 ?_
          refine zget (ci := 8) (C := RX8) (T := TX8) (v := .ref (ad 8 (F 7 l0 0) (0 + 1))) (k := 0) hx hb hts inW_8 hown hK hZ g12.1 g12.2 rfl (by decide) k_7_218 rfl d_9_12_56 ?_
          refine lv_iconst (v := iI 5) hx hb d_9_12_59 rfl ?_
          refine zald (ci := 8) (k := 0) hx hb hK rfl hZ g12.1 g12.2 rfl (Nat.le_of_ble_eq_true rfl) (by decide) (show (5 : Int) < 7 by decide) d_9_12_60 ?_
          refine lv_iload_n hx hb d_9_12_61 rfl (lv_at hl 2 rfl) ?_
          refine lv_aload_n hx hb d_9_12_62 rfl (lv_at hl 3 rfl) ?_
          refine zget (ci := 7) (C := RX7) (T := TX7) (v := .int (iI (F 7 l0 3))) (k := 3) hx hb hts inW_7 hown hK hZ g6.1 g6.2 rfl (by decide) k_2_101 rfl d_9_12_63 ?_
          refine zrm_r hx hb g9 d_9_12_66 ?_
          refine lv_iload hx hb d_9_12_67 (lv_at hl 0 rfl) ?_
          obtain ⟨r13, F13, B13, hc13, hf⟩ := gbind hf
          refine va_calli (va_runSN (As := [.int (iI (B 8 (F 7 l0 0) 0 4)), .int (iI (B 8 (F 7 l0 0) 0 5)), .int (iI (zrm l3 (F 7 l0 3))), .int (iI (zmin (l2 - l3) ((F 7 l0 3) - (zrm l3 (F 7 l0 3)))))]) (rest := []) ⟨hx, hb, hml, hown, hts⟩ (c_S_nextValue (l := l) hc13) ⟨va_cnB 4 hts (gdC k_5_88) rfl rfl rfl (hX.1 _ (List.mem_of_getElem? (i := 22) rfl)) (hts _ k_1_1) (by decide +kernel) ⟨Nat.le_of_ble_eq_true rfl, Nat.le_of_ble_eq_true rfl⟩, hts _ k_5_87, trivial⟩ (zPS X hZ hS [.int (iI (B 8 (F 7 l0 0) 0 4)), .int (iI (B 8 (F 7 l0 0) 0 5)), .int (iI (zrm l3 (F 7 l0 3))), .int (iI (zmin (l2 - l3) ((F 7 l0 3) - (zrm l3 (F 7 l0 3)))))]) rfl rfl hl.1 rfl (lv_room (Nat.le_of_ble_eq_true rfl)) d_9_12_69 ⟨Nat.le_of_ble_eq_true rfl, Nat.le_of_ble_eq_true rfl⟩) hS (fun q _ h => zAin X hS q h) (zAin X hS) (fun p13 u13 t13 H13 locs13 ht13 hv13 hw13 hB13 hz13 hk13 hS13 => ?_)
          have hZ13 := zBack X ht13 hB13
          subst hw13
          refine lv_istore (lv' := [(6, .int (iI r13)), (5, .int (iI (zmin (l2 - l3) ((F 7 l0 3) - (zrm l3 (F 7 l0 3)))))), (4, .int (iI l4)), (3, .int (iI l3)), (0, .ref (ad 7 l0 0)), (2, .int (iI l2))]) hx hb d_9_12_72 hl (by decide) rfl (fun ls hl => ?_)
          refine lv_iload_n hx hb d_9_12_74 rfl (lv_at hl 3 rfl) ?_
          refine lv_iload hx hb d_9_12_75 (lv_at hl 0 rfl) ?_
          obtain ⟨r14, F14, B14, hc14, hf⟩ := gbind hf
          refine va_calli (va_runSN (As := [.int (iI r13)]) (rest := [.int (iI l3)]) ⟨hx, hb, hml, hown, hts⟩ (c_S_fineValue (l := l) hc14) ⟨va_cnB 1 hts (gdC k_5_69) rfl rfl rfl (hX.1 _ (List.mem_of_getElem? (i := 23) rfl)) (hts _ k_1_1) (by decide +kernel) ⟨Nat.le_of_ble_eq_true rfl, Nat.le_of_ble_eq_true rfl⟩, hts _ k_5_68, trivial⟩ (zPS X hZ13 hS13 [.int (iI r13)]) rfl rfl hl.1 rfl (lv_room (Nat.le_of_ble_eq_true rfl)) d_9_12_77 ⟨Nat.le_of_ble_eq_true rfl, Nat.le_of_ble_eq_true rfl⟩) hS13 (fun q _ h => zAin X hS13 q h) (zAin X hS13) (fun p14 u14 t14 H14 locs14 ht14 hv14 hw14 hB14 hz14 hk14 hS14 => ?_)
          have hZ14 := zBack X ht14 hB14
          subst hw14
          refine zadd hx hb d_9_12_80 ?_
          refine lv_istore_n (lv' := [(3, .int (iI (l3 + r14))), (6, .int (iI r13)), (5, .int (iI (zmin (l2 - l3) ((F 7 l0 3) - (zrm l3 (F 7 l0 3)))))), (4, .int (iI l4)), (0, .ref (ad 7 l0 0)), (2, .int (iI l2))]) hx hb d_9_12_81 rfl hl (by decide) rfl (fun ls hl => ?_)
          refine lv_aload_n hx hb d_9_12_82 rfl (lv_at hl 4 rfl) ?_
          refine lv_iload hx hb d_9_12_83 (lv_at hl 1 rfl) ?_
          refine lv_iload_n hx hb d_9_12_85 rfl (lv_at hl 0 rfl) ?_
          refine lv_iload_n hx hb d_9_12_86 rfl (lv_at hl 5 rfl) ?_
          obtain ⟨g15, hf⟩ := gif hf
          refine zge (tgt := 94) hx hb g15 g4 d_9_12_87 (by decide) (fun h16 => ?_) (fun h16 => ?_)
          · replace hf := gpos hf h16
            refine lv_iconst (v := iI 0) hx hb d_9_12_94 rfl ?_
            refine W.eq (g2 := F0 m 95 ls [.int (iI 0), .int (iI r13), va_rf (zrf ad 7 l0)]) (by rw [zrf_pos (ad := ad) (t := 7) g6.1]; try rfl) ?_
            exact b_Scribe_writeSpan_95 X ih hf hZ14 hS14 (lv_sub hl [0, 3, 4, 5] rfl)
          · replace hf := gneg hf h16
            refine lv_iconst (v := iI 1) hx hb d_9_12_90 rfl ?_
            refine lv_goto (tgt := 95) hx hb d_9_12_91 (by decide) ?_
            refine W.eq (g2 := F0 m 95 ls [.int (iI 1), .int (iI r13), va_rf (zrf ad 7 l0)]) (by rw [zrf_pos (ad := ad) (t := 7) g6.1]; try rfl) ?_
            exact b_Scribe_writeSpan_95 X ih hf hZ14 hS14 (lv_sub hl [0, 3, 4, 5] rfl)

noncomputable def f_Scribe_writeSpan (K : zK) (l0 : Int) (l1 : Int) (l2 : Int) (F : zF) (B : zB) : zO := f_Scribe_writeSpan_5 K K.1 0 l1 l0 l2 F B
set_option maxHeartbeats 4000000 in
set_option maxRecDepth 100000 in
theorem c_Scribe_writeSpan {l : Launch} {D : va_G} {ca : Nat → ClassId} {ad : Nat → Int → Nat → Nat} {L : List Nat} {aS vS : Nat → Nat} {sz : Nat} {K : zK}  {l0 : Int} {l1 : Int} {l2 : Int} {F F9 : zF} {B B9 : zB} {r : Int} (hf : f_Scribe_writeSpan K l0 l1 l2 F B = some (r, F9, B9)) : Met l ({ cls := "StaveHouse$Scribe", name := "writeSpan", desc := "(II)V" } : Jvm.MethodName) (Cond.code ({ cls := "StaveHouse$Scribe", name := "writeSpan", desc := "(II)V" } : Jvm.MethodName) prog_9_method_12_code 7 (Option.none : Option Jvm.ClassFile.FieldType) :: wAll) ({ frames := 6, cells := 0, slots := 0, locals := 131 } : Room) (va_Pc [.ref (ad 7 l0 0), .int (iI l1), .int (iI l2)] (zPre D ca ad lnC K.2 L aS vS F B sz)) (Q_Scribe_writeSpan K D ca ad L r F9 B9 (zA L sz)) 0 0 (zA L sz) := by
  refine zMet (Qc := Q_Scribe_writeSpan K D ca ad L r F9 B9) (lv := [(0, .ref (ad 7 l0 0)), (1, .int (iI l1)), (2, .int (iI l2))]) (by decide) (Nat.le_of_ble_eq_true rfl) rfl (fun A p e s m below meth c ls X hZ hS hl => ?_)
  obtain ⟨hx, hb, hr, hml, hown, hts, hlk, hK, hA, hL, hX⟩ := id X
  replace hf : (f_Scribe_writeSpan_5 K K.1 0 l1 l0 l2 F B) = some (r, F9, B9) := hf
  refine lv_iload_n hx hb d_9_12_0 rfl (lv_at hl 1 rfl) ?_
  refine lv_istore_n (lv' := [(3, .int (iI l1)), (0, .ref (ad 7 l0 0)), (1, .int (iI l1)), (2, .int (iI l2))]) hx hb d_9_12_1 rfl hl (by decide) rfl (fun ls hl => ?_)
  refine lv_iconst (v := iI 0) hx hb d_9_12_2 rfl ?_
  refine lv_istore (lv' := [(4, .int (iI 0)), (3, .int (iI l1)), (0, .ref (ad 7 l0 0)), (1, .int (iI l1)), (2, .int (iI l2))]) hx hb d_9_12_3 hl (by decide) rfl (fun ls hl => ?_)
  exact b_Scribe_writeSpan_5 X hf hZ hS (lv_sub hl [0, 1, 2, 4] rfl)

noncomputable abbrev Q_S_play (K : zK) (D : va_G) (ca : Nat → ClassId) (ad : Nat → Int → Nat → Nat) (L : List Nat) (r : Int) (F : zF) (B : zB) (A : Nat → Prop) : Array Value → State → Outcome → State → Prop := va_Qi (S := Unit) (fun p _ => p = iI r) (fun _ => zPo D ca ad lnC K.2 L F B A) A
noncomputable def f_S_play_33 (K : zK)  (F : zF) (B : zB) : zO := some ((-1), F, B)
set_option maxHeartbeats 4000000 in
set_option maxRecDepth 100000 in
theorem b_S_play_33 {D : va_G} {ca : Nat → ClassId} {ad : Nat → Int → Nat → Nat} {L : List Nat} {aS vS : Nat → Nat} {A : Nat → Prop} {p : Program} {l : Launch} {e : Env} {s : State} {m : MethodId} {args : Array Value} {below : List Frame} {meth : Method} {c : Code} {K : zK} {r : Int} {F9 : zF} {B9 : zB} (X : zX D ca L aS vS A p s m args meth c prog_1_method_28_code 5 (Option.some Jvm.ClassFile.FieldType.int) "StaveHouse")  {F : zF} {B : zB} {H : Heap} {locs : List Loc} {ls : Array Slot} (hf : f_S_play_33 K  F B = some (r, F9, B9)) (hZ : zH D ca ad lnC K.2 L F B A H) (hS : va_S A s.heap H locs) (hl : lv_has ls 5 []) : W p l e ({ frames := 5, cells := 0, slots := 0, locals := 112 } : Room) s m args below meth c H locs 0 0 (MQ below (Q_S_play K D ca ad L r F9 B9 A) args s 0 0 A) (F0 m 33 ls []) := by
  obtain ⟨hx, hb, hr, hml, hown, hts, hlk, hK, hA, hL, hX⟩ := id X
  replace hf : (some ((-1), F, B)) = some (r, F9, B9) := hf
  refine lv_iconst (v := iI (-1)) hx hb d_1_28_33 rfl ?_
  cases hf
  exact W.iret hx hb hr (fun t ht hW => ⟨⟨_, (), rfl, rfl, by rw [ht]; exact hZ, va_K.moved hW.alike hK⟩, hS.F ht⟩) hS.2.2 d_1_28_34 hlk

noncomputable def f_S_play (K : zK) (l0 : Int) (l1 : Int) (l2 : Int) (F : zF) (B : zB) : zO := if 0 ≤ l0 ∧ l0 < K.2 12 then zbind (f_S_performanceOf K l0 l1 F B) (fun r2 F2 B2 => zbind (f_S_pieceAt K l0 l1 F2 B2) (fun r3 F3 B3 => (if r2 < 0 then f_S_play_33 K F3 B3 else (if r3 < 0 then f_S_play_33 K F3 B3 else if r32 l2 then (if l2 < 0 then f_S_play_33 K F3 B3 else (if l2 ≤ 1000 then if 0 ≤ r2 ∧ r2 < K.2 5 then if 0 ≤ r3 ∧ r3 < K.2 6 then zbind (f_Performance_playOn K r2 r3 l2 F3 B3) (fun r11 F11 B11 => some (r11, F11, B11)) else none else none else f_S_play_33 K F3 B3)) else none)))) else none
