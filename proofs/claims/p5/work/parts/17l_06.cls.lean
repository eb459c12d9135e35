set_option maxHeartbeats 4000000 in
set_option maxRecDepth 100000 in
theorem c_SoundFile_load {l : Launch} {D : va_G} {ca : Nat → ClassId} {ad : Nat → Int → Nat → Nat} {L : List Nat} {aS vS : Nat → Nat} {sz : Nat} {K : zK}  {l0 : Int} {l1 : Int} {F F9 : zF} {B B9 : zB} {r : Int} (hf : f_SoundFile_load K l0 l1 F B = some (r, F9, B9)) : Met l ({ cls := "StaveHouse$SoundFile", name := "load", desc := "(LStaveHouse$ByteRow;)I" } : Jvm.MethodName) (Cond.code ({ cls := "StaveHouse$SoundFile", name := "load", desc := "(LStaveHouse$ByteRow;)I" } : Jvm.MethodName) prog_10_method_2_code 7 (Option.some Jvm.ClassFile.FieldType.int) :: wAll) ({ frames := 6, cells := 0, slots := 0, locals := 138 } : Room) (va_Pc [.ref (ad 8 l0 0), .ref (ad 0 l1 0)] (zPre D ca ad lnC K.2 L aS vS F B sz)) (Q_SoundFile_load K D ca ad L r F9 B9 (zA L sz)) 0 0 (zA L sz) := by
  refine zMet (Qc := Q_SoundFile_load K D ca ad L r F9 B9) (lv := [(0, .ref (ad 8 l0 0)), (1, .ref (ad 0 l1 0))]) (by decide) (Nat.le_of_ble_eq_true rfl) rfl (fun A p e s m below meth c ls X hZ hS hl => ?_)
  obtain ⟨hx, hb, hr, hml, hown, hts, hlk, hK, hA, hL, hX⟩ := id X
  replace hf : (if 0 ≤ l0 ∧ l0 < K.2 8 then if 0 ≤ l1 ∧ l1 < K.2 0 then if l1 < K.2 0 then zbind (f_SoundFile_setDefaults K l0 (zup3 (zup3 (zup3 (zup3 (zup3 F 8 l0 4 l1) 8 l0 5 0) 8 l0 6 (F 0 l1 1)) 8 l0 7 0) 8 l0 2 0) B) (fun r9 F9 B9 => zbind (f_SoundFile_loadHead K l0 F9 B9) (fun r10 F10 B10 => f_SoundFile_load_43 K K.1 0 l0 l1 (zup3 F10 8 l0 8 0) B10)) else none else none else none) = some (r, F9, B9) := hf
  refine lv_aload_n hx hb d_10_2_0 rfl (lv_at hl 0 rfl) ?_
  refine lv_aload_n hx hb d_10_2_1 rfl (lv_at hl 1 rfl) ?_
  obtain ⟨g1, hf⟩ := gif hf
  obtain ⟨g3, hf⟩ := gif hf
  refine W.eq (g2 := F0 m 2 ls [va_rf (zrf ad 0 l1), .ref (ad 8 l0 0)]) (by rw [zrf_pos (ad := ad) (t := 0) g3.1]; try rfl) ?_
  obtain ⟨g4, hf⟩ := gif hf
  refine zput (ci := 8) (C := RX8) (T := TX8) (k := 4) (v := l1) (w := va_rf (zrf ad 0 l1)) hx hb hts inW_8 tyX8 tyX8_ok nmX8 hown hK hZ hS g1.1 g1.2 rfl (by decide) k_7_228 rfl (fun G h => congrArg (fun q => va_rf (zrf ad 0 q)) h) (zrf_nar rfl _) (zrf_fit rfl _) (zyes (t0 := 0) rfl g4) d_10_2_2 (fun H2 locs2 hZ2 hS2 => ?_)
  refine lv_aload_n hx hb d_10_2_5 rfl (lv_at hl 0 rfl) ?_
  refine lv_iconst (v := iI 0) hx hb d_10_2_6 rfl ?_
  refine zput (ci := 8) (C := RX8) (T := TX8) (k := 5) (v := 0) (w := .int (iI 0)) hx hb hts inW_8 tyX8 tyX8_ok nmX8 hown hK hZ2 hS2 g1.1 g1.2 rfl (by decide) k_7_229 rfl (fun G h => congrArg (fun q => Value.int (iI q)) h) rfl rfl (zno (by decide)) d_10_2_7 (fun H5 locs5 hZ5 hS5 => ?_)
  refine lv_aload_n hx hb d_10_2_10 rfl (lv_at hl 0 rfl) ?_
  refine lv_aload_n hx hb d_10_2_11 rfl (lv_at hl 1 rfl) ?_
  refine zget (ci := 0) (C := RX0) (T := TX0) (v := .int (iI (F 0 l1 1))) (k := 1) hx hb hts inW_0 hown hK hZ5 g3.1 g3.2 rfl (by decide) k_1_43 (congrArg (fun q : Int => Value.int (iI q)) (show (zup3 (zup3 F 8 l0 4 l1) 8 l0 5 0) 0 l1 1 = F 0 l1 1 by simp [zup3])) d_10_2_12 ?_
  refine zput (ci := 8) (C := RX8) (T := TX8) (k := 6) (v := (F 0 l1 1)) (w := .int (iI (F 0 l1 1))) hx hb hts inW_8 tyX8 tyX8_ok nmX8 hown hK hZ5 hS5 g1.1 g1.2 rfl (by decide) k_7_230 rfl (fun G h => congrArg (fun q => Value.int (iI q)) h) rfl rfl (zno (by decide)) d_10_2_15 (fun H6 locs6 hZ6 hS6 => ?_)
  refine lv_aload_n hx hb d_10_2_18 rfl (lv_at hl 0 rfl) ?_
  refine lv_iconst (v := iI 0) hx hb d_10_2_19 rfl ?_
  refine zput (ci := 8) (C := RX8) (T := TX8) (k := 7) (v := 0) (w := .int (iI 0)) hx hb hts inW_8 tyX8 tyX8_ok nmX8 hown hK hZ6 hS6 g1.1 g1.2 rfl (by decide) k_7_231 rfl (fun G h => congrArg (fun q => Value.int (iI q)) h) rfl rfl (zno (by decide)) d_10_2_20 (fun H7 locs7 hZ7 hS7 => ?_)
  refine lv_aload_n hx hb d_10_2_23 rfl (lv_at hl 0 rfl) ?_
  refine lv_iconst (v := iI 0) hx hb d_10_2_24 rfl ?_
  refine zput (ci := 8) (C := RX8) (T := TX8) (k := 2) (v := 0) (w := .int (iI 0)) hx hb hts inW_8 tyX8 tyX8_ok nmX8 hown hK hZ7 hS7 g1.1 g1.2 rfl (by decide) k_7_223 rfl (fun G h => congrArg (fun q => Value.int (iI q)) h) rfl rfl (zno (by decide)) d_10_2_25 (fun H8 locs8 hZ8 hS8 => ?_)
  refine lv_aload_n hx hb d_10_2_28 rfl (lv_at hl 0 rfl) ?_
  obtain ⟨r9, F9, B9, hc9, hf⟩ := gbind hf
  refine va_callv (va_runV (As := []) (rest := []) ⟨hx, hb, hml, hown, hts⟩ (c_SoundFile_setDefaults (l := l) hc9) (cwV 0 hts (gdV k_8_34 k_8_36 ks_92 k_1_23 k_8_37) rfl rfl rfl (by decide +kernel) ⟨Nat.le_of_ble_eq_true rfl, Nat.le_of_ble_eq_true rfl⟩) (zPV X hZ8 hS8 (ci := 8) g1.1 g1.2 (r := (RX8, TX8, 15)) rfl []) rfl rfl hl.1 rfl (lv_room (Nat.le_of_ble_eq_true rfl)) d_10_2_29 ⟨Nat.le_of_ble_eq_true rfl, Nat.le_of_ble_eq_true rfl⟩) hS8 (fun q _ h => zAin X hS8 q h) (zAin X hS8) (fun u9 t9 H9 locs9 ht9 hv9 hw9 hB9 hz9 hk9 hS9 => ?_)
  have hZ9 := zBack X ht9 hB9
  refine lv_aload_n hx hb d_10_2_32 rfl (lv_at hl 0 rfl) ?_
  obtain ⟨r10, F10, B10, hc10, hf⟩ := gbind hf
  refine va_callv (va_runV (As := []) (rest := []) ⟨hx, hb, hml, hown, hts⟩ (c_SoundFile_loadHead (l := l) hc10) (cwV 0 hts (gdV k_8_38 k_8_40 ks_93 k_1_23 k_8_41) rfl rfl rfl (by decide +kernel) ⟨Nat.le_of_ble_eq_true rfl, Nat.le_of_ble_eq_true rfl⟩) (zPV X hZ9 hS9 (ci := 8) g1.1 g1.2 (r := (RX8, TX8, 15)) rfl []) rfl rfl hl.1 rfl (lv_room (Nat.le_of_ble_eq_true rfl)) d_10_2_33 ⟨Nat.le_of_ble_eq_true rfl, Nat.le_of_ble_eq_true rfl⟩) hS9 (fun q _ h => zAin X hS9 q h) (zAin X hS9) (fun u10 t10 H10 locs10 ht10 hv10 hw10 hB10 hz10 hk10 hS10 => ?_)
  have hZ10 := zBack X ht10 hB10
  refine lv_aload_n hx hb d_10_2_36 rfl (lv_at hl 0 rfl) ?_
  refine lv_iconst (v := iI 0) hx hb d_10_2_37 rfl ?_
  refine zput (ci := 8) (C := RX8) (T := TX8) (k := 8) (v := 0) (w := .int (iI 0)) hx hb hts inW_8 tyX8 tyX8_ok nmX8 hown hK hZ10 hS10 g1.1 g1.2 rfl (by decide) k_7_232 rfl (fun G h => congrArg (fun q => Value.int (iI q)) h) rfl rfl (zno (by decide)) d_10_2_38 (fun H11 locs11 hZ11 hS11 => ?_)
  refine lv_iconst (v := iI 0) hx hb d_10_2_41 rfl ?_
  refine lv_istore_n (lv' := [(2, .int (iI 0)), (0, .ref (ad 8 l0 0)), (1, .ref (ad 0 l1 0))]) hx hb d_10_2_42 rfl hl (by decide) rfl (fun ls hl => ?_)
  exact b_SoundFile_load_43 X hf hZ11 hS11 (lv_sub hl [0, 1, 2] rfl)

noncomputable abbrev Q_Scribe_writeRest (K : zK) (D : va_G) (ca : Nat → ClassId) (ad : Nat → Int → Nat → Nat) (L : List Nat) (r : Int) (F : zF) (B : zB) (A : Nat → Prop) : Array Value → State → Outcome → State → Prop := va_Qv (S := Unit) (fun _ => True) (fun _ => zPo D ca ad lnC K.2 L F B A) A
noncomputable def f_Scribe_writeRest (K : zK) (l0 : Int) (l1 : Int) (l2 : Int) (F : zF) (B : zB) : zO := if 0 ≤ l0 ∧ l0 < K.2 7 then if 0 ≤ (F 7 l0 4) ∧ (F 7 l0 4) < K.2 1 then zbind (f_Scribe_writeSpan K l0 l1 l2 (zup3 F 1 (F 7 l0 4) 10 0) B) (fun r4 F4 B4 => some (0, F4, B4)) else none else none
set_option maxHeartbeats 4000000 in
set_option maxRecDepth 100000 in
theorem c_Scribe_writeRest {l : Launch} {D : va_G} {ca : Nat → ClassId} {ad : Nat → Int → Nat → Nat} {L : List Nat} {aS vS : Nat → Nat} {sz : Nat} {K : zK}  {l0 : Int} {l1 : Int} {l2 : Int} {F F9 : zF} {B B9 : zB} {r : Int} (hf : f_Scribe_writeRest K l0 l1 l2 F B = some (r, F9, B9)) : Met l ({ cls := "StaveHouse$Scribe", name := "writeRest", desc := "(II)V" } : Jvm.MethodName) (Cond.code ({ cls := "StaveHouse$Scribe", name := "writeRest", desc := "(II)V" } : Jvm.MethodName) prog_9_method_11_code 3 (Option.none : Option Jvm.ClassFile.FieldType) :: wAll) ({ frames := 7, cells := 0, slots := 0, locals := 157 } : Room) (va_Pc [.ref (ad 7 l0 0), .int (iI l1), .int (iI l2)] (zPre D ca ad lnC K.2 L aS vS F B sz)) (Q_Scribe_writeRest K D ca ad L r F9 B9 (zA L sz)) 0 0 (zA L sz) := by
  refine zMet (Qc := Q_Scribe_writeRest K D ca ad L r F9 B9) (lv := [(0, .ref (ad 7 l0 0)), (1, .int (iI l1)), (2, .int (iI l2))]) (by decide) (Nat.le_of_ble_eq_true rfl) rfl (fun A p e s m below meth c ls X hZ hS hl => ?_)
  obtain ⟨hx, hb, hr, hml, hown, hts, hlk, hK, hA, hL, hX⟩ := id X
  replace hf : (if 0 ≤ l0 ∧ l0 < K.2 7 then if 0 ≤ (F 7 l0 4) ∧ (F 7 l0 4) < K.2 1 then zbind (f_Scribe_writeSpan K l0 l1 l2 (zup3 F 1 (F 7 l0 4) 10 0) B) (fun r4 F4 B4 => some (0, F4, B4)) else none else none) = some (r, F9, B9) := hf
  refine lv_aload_n hx hb d_9_11_0 rfl (lv_at hl 0 rfl) ?_
  obtain ⟨g1, hf⟩ := gif hf
  refine zget (ci := 7) (C := RX7) (T := TX7) (v := va_rf (zrf ad 1 (F 7 l0 4))) (k := 4) hx hb hts inW_7 hown hK hZ g1.1 g1.2 rfl (by decide) k_2_102 rfl d_9_11_1 ?_
  refine lv_iconst (v := iI 0) hx hb d_9_11_4 rfl ?_
  obtain ⟨g2, hf⟩ := gif hf
  refine W.eq (g2 := F0 m 5 ls [.int (iI 0), .ref (ad 1 (F 7 l0 4) 0)]) (by rw [zrf_pos (ad := ad) (t := 1) g2.1]; try rfl) ?_
  refine zput (ci := 1) (C := RX1) (T := TX1) (k := 10) (v := 0) (w := .int (iI 0)) hx hb hts inW_1 tyX1 tyX1_ok nmX1 hown hK hZ hS g2.1 g2.2 rfl (by decide) k_2_50 rfl (fun G h => congrArg (fun q => Value.int (iI q)) h) rfl rfl (zno (by decide)) d_9_11_5 (fun H3 locs3 hZ3 hS3 => ?_)
  refine lv_aload_n hx hb d_9_11_8 rfl (lv_at hl 0 rfl) ?_
  refine lv_iload_n hx hb d_9_11_9 rfl (lv_at hl 1 rfl) ?_
  refine lv_iload_n hx hb d_9_11_10 rfl (lv_at hl 2 rfl) ?_
  obtain ⟨r4, F4, B4, hc4, hf⟩ := gbind hf
  refine va_callv (va_runV (As := [.int (iI l1), .int (iI l2)]) (rest := []) ⟨hx, hb, hml, hown, hts⟩ (c_Scribe_writeSpan (l := l) hc4) (cwV 2 hts (gdV k_8_195 k_8_197 ks_118 k_1_7 k_8_198) rfl rfl rfl (by decide +kernel) ⟨Nat.le_of_ble_eq_true rfl, Nat.le_of_ble_eq_true rfl⟩) (zPV X hZ3 hS3 (ci := 7) g1.1 g1.2 (r := (RX7, TX7, 9)) rfl [.int (iI l1), .int (iI l2)]) rfl rfl hl.1 rfl (lv_room (Nat.le_of_ble_eq_true rfl)) d_9_11_11 ⟨Nat.le_of_ble_eq_true rfl, Nat.le_of_ble_eq_true rfl⟩) hS3 (fun q _ h => zAin X hS3 q h) (zAin X hS3) (fun u4 t4 H4 locs4 ht4 hv4 hw4 hB4 hz4 hk4 hS4 => ?_)
  have hZ4 := zBack X ht4 hB4
  cases hf
  exact W.vret hx hb hr (fun t ht hW => ⟨⟨(), rfl, trivial, by rw [ht]; exact hZ4, va_K.moved hW.alike hK⟩, hS4.F ht⟩) hS4.2.2 d_9_11_14 hlk

noncomputable abbrev Q_S_file (K : zK) (D : va_G) (ca : Nat → ClassId) (ad : Nat → Int → Nat → Nat) (L : List Nat) (r : Int) (F : zF) (B : zB) (A : Nat → Prop) : Array Value → State → Outcome → State → Prop := va_Qi (S := Unit) (fun p _ => p = iI r) (fun _ => zPo D ca ad lnC K.2 L F B A) A
noncomputable def f_S_file_20 (K : zK)  (F : zF) (B : zB) : zO := some ((-1), F, B)
set_option maxHeartbeats 4000000 in
set_option maxRecDepth 100000 in
theorem b_S_file_20 {D : va_G} {ca : Nat → ClassId} {ad : Nat → Int → Nat → Nat} {L : List Nat} {aS vS : Nat → Nat} {A : Nat → Prop} {p : Program} {l : Launch} {e : Env} {s : State} {m : MethodId} {args : Array Value} {below : List Frame} {meth : Method} {c : Code} {K : zK} {r : Int} {F9 : zF} {B9 : zB} (X : zX D ca L aS vS A p s m args meth c prog_1_method_21_code 4 (Option.some Jvm.ClassFile.FieldType.int) "StaveHouse")  {F : zF} {B : zB} {H : Heap} {locs : List Loc} {ls : Array Slot} (hf : f_S_file_20 K  F B = some (r, F9, B9)) (hZ : zH D ca ad lnC K.2 L F B A H) (hS : va_S A s.heap H locs) (hl : lv_has ls 4 []) : W p l e ({ frames := 8, cells := 0, slots := 0, locals := 176 } : Room) s m args below meth c H locs 0 0 (MQ below (Q_S_file K D ca ad L r F9 B9 A) args s 0 0 A) (F0 m 20 ls []) := by
  obtain ⟨hx, hb, hr, hml, hown, hts, hlk, hK, hA, hL, hX⟩ := id X
  replace hf : (some ((-1), F, B)) = some (r, F9, B9) := hf
  refine lv_iconst (v := iI (-1)) hx hb d_1_21_20 rfl ?_
  cases hf
  exact W.iret hx hb hr (fun t ht hW => ⟨⟨_, (), rfl, rfl, by rw [ht]; exact hZ, va_K.moved hW.alike hK⟩, hS.F ht⟩) hS.2.2 d_1_21_21 hlk

noncomputable def f_S_file (K : zK) (l0 : Int) (l1 : Int) (F : zF) (B : zB) : zO := if 0 ≤ l0 ∧ l0 < K.2 12 then zbind (f_S_pieceAt K l0 l1 F B) (fun r2 F2 B2 => zbind (f_S_performanceOf K l0 l1 F2 B2) (fun r3 F3 B3 => (if r2 < 0 then f_S_file_20 K F3 B3 else (if r3 < 0 then f_S_file_20 K F3 B3 else if 0 ≤ (F3 12 l0 2) ∧ (F3 12 l0 2) < K.2 0 then zbind (f_ByteRow_clear K (F3 12 l0 2) F3 B3) (fun r7 F7 B7 => if 0 ≤ r3 ∧ r3 < K.2 5 then if 0 ≤ r2 ∧ r2 < K.2 6 then if 0 ≤ (F7 12 l0 2) ∧ (F7 12 l0 2) < K.2 0 then zbind (f_Performance_write K r3 r2 (F7 12 l0 2) F7 B7) (fun r11 F11 B11 => if 0 ≤ (F11 12 l0 2) ∧ (F11 12 l0 2) < K.2 0 then some (F11 0 (F11 12 l0 2) 1, F11, B11) else none) else none else none else none) else none)))) else none
set_option maxHeartbeats 4000000 in
set_option maxRecDepth 100000 in
theorem c_S_file {l : Launch} {D : va_G} {ca : Nat → ClassId} {ad : Nat → Int → Nat → Nat} {L : List Nat} {aS vS : Nat → Nat} {sz : Nat} {K : zK}  {l0 : Int} {l1 : Int} {F F9 : zF} {B B9 : zB} {r : Int} (hf : f_S_file K l0 l1 F B = some (r, F9, B9)) : Met l ({ cls := "StaveHouse", name := "file", desc := "(I)I" } : Jvm.MethodName) (Cond.code ({ cls := "StaveHouse", name := "file", desc := "(I)I" } : Jvm.MethodName) prog_1_method_21_code 4 (Option.some Jvm.ClassFile.FieldType.int) :: wAll) ({ frames := 8, cells := 0, slots := 0, locals := 176 } : Room) (va_Pc [.ref (ad 12 l0 0), .int (iI l1)] (zPre D ca ad lnC K.2 L aS vS F B sz)) (Q_S_file K D ca ad L r F9 B9 (zA L sz)) 0 0 (zA L sz) := by
  refine zMet (Qc := Q_S_file K D ca ad L r F9 B9) (lv := [(0, .ref (ad 12 l0 0)), (1, .int (iI l1))]) (by decide) (Nat.le_of_ble_eq_true rfl) rfl (fun A p e s m below meth c ls X hZ hS hl => ?_)
  obtain ⟨hx, hb, hr, hml, hown, hts, hlk, hK, hA, hL, hX⟩ := id X
  replace hf : (if 0 ≤ l0 ∧ l0 < K.2 12 then zbind (f_S_pieceAt K l0 l1 F B) (fun r2 F2 B2 => zbind (f_S_performanceOf K l0 l1 F2 B2) (fun r3 F3 B3 => (if r2 < 0 then f_S_file_20 K F3 B3 else (if r3 < 0 then f_S_file_20 K F3 B3 else if 0 ≤ (F3 12 l0 2) ∧ (F3 12 l0 2) < K.2 0 then zbind (f_ByteRow_clear K (F3 12 l0 2) F3 B3) (fun r7 F7 B7 => if 0 ≤ r3 ∧ r3 < K.2 5 then if 0 ≤ r2 ∧ r2 < K.2 6 then if 0 ≤ (F7 12 l0 2) ∧ (F7 12 l0 2) < K.2 0 then zbind (f_Performance_write K r3 r2 (F7 12 l0 2) F7 B7) (fun r11 F11 B11 => if 0 ≤ (F11 12 l0 2) ∧ (F11 12 l0 2) < K.2 0 then some (F11 0 (F11 12 l0 2) 1, F11, B11) else none) else none else none else none) else none)))) else none) = some (r, F9, B9) := hf
  refine lv_aload_n hx hb d_1_21_0 rfl (lv_at hl 0 rfl) ?_
  refine lv_iload_n hx hb d_1_21_1 rfl (lv_at hl 1 rfl) ?_
  obtain ⟨g1, hf⟩ := gif hf
  obtain ⟨r2, F2, B2, hc2, hf⟩ := gbind hf
  refine va_callq (va_runV (As := [.int (iI l1)]) (rest := []) ⟨hx, hb, hml, hown, hts⟩ (c_S_pieceAt (l := l) hc2) (cwV 1 hts (gdV k_5_182 k_5_184 ks_65 k_1_1 k_5_185) rfl rfl rfl (by decide +kernel) ⟨Nat.le_of_ble_eq_true rfl, Nat.le_of_ble_eq_true rfl⟩) (zPV X hZ hS (ci := 12) g1.1 g1.2 (r := (RX12, TX12, 10)) rfl [.int (iI l1)]) rfl rfl hl.1 rfl (lv_room (Nat.le_of_ble_eq_true rfl)) d_1_21_2 ⟨Nat.le_of_ble_eq_true rfl, Nat.le_of_ble_eq_true rfl⟩) hS (fun q _ h => zAin X hS q h) (zAin X hS) (fun p2 u2 t2 H2 locs2 ht2 hv2 hw2 hB2 hz2 hk2 hS2 => ?_)
  have hZ2 := zBack X ht2 hB2
  subst hw2
  refine zastore_n (lv' := [(0, .ref (ad 12 l0 0)), (1, .int (iI l1))]) hx hb d_1_21_5 rfl hl (by decide) (fun _ _ => rfl) (fun ls hl => ?_)
  refine lv_aload_n hx hb d_1_21_6 rfl (lv_at hl 1 rfl) ?_
  refine lv_iload_n hx hb d_1_21_7 rfl (lv_at hl 2 rfl) ?_
  obtain ⟨r3, F3, B3, hc3, hf⟩ := gbind hf
  refine va_callq (va_runV (As := [.int (iI l1)]) (rest := []) ⟨hx, hb, hml, hown, hts⟩ (c_S_performanceOf (l := l) hc3) (cwV 1 hts (gdV k_7_108 k_7_110 ks_89 k_1_1 k_7_111) rfl rfl rfl (by decide +kernel) ⟨Nat.le_of_ble_eq_true rfl, Nat.le_of_ble_eq_true rfl⟩) (zPV X hZ2 hS2 (ci := 12) g1.1 g1.2 (r := (RX12, TX12, 10)) rfl [.int (iI l1)]) rfl rfl hl.1 rfl (lv_room (Nat.le_of_ble_eq_true rfl)) d_1_21_8 ⟨Nat.le_of_ble_eq_true rfl, Nat.le_of_ble_eq_true rfl⟩) hS2 (fun q _ h => zAin X hS2 q h) (zAin X hS2) (fun p3 u3 t3 H3 locs3 ht3 hv3 hw3 hB3 hz3 hk3 hS3 => ?_)
  have hZ3 := zBack X ht3 hB3
  subst hw3
  refine zastore_n (lv' := [(2, va_rf (zrf ad 6 r2)), (0, .ref (ad 12 l0 0)), (1, .int (iI l1))]) hx hb d_1_21_11 rfl hl (by decide) (fun v hv => by cases zrf ad 6 r2 <;> rfl) (fun ls hl => ?_)
  refine zaload_n hx hb d_1_21_12 rfl (lv_at hl 1 rfl) ?_
  refine zifnull (tgt := 20) hx hb d_1_21_13 (by decide) (fun h4 => ?_) (fun h4 => ?_)
  · replace hf := gpos hf h4
    exact b_S_file_20 X hf hZ3 hS3 (lv_sub hl [] rfl)
  · replace hf := gneg hf h4
    refine zaload_n hx hb d_1_21_16 rfl (lv_at hl 0 rfl) ?_
    refine zifnonnull (tgt := 22) hx hb d_1_21_17 (by decide) (fun h5 => ?_) (fun h5 => ?_)
    · replace hf := gneg hf h5
      refine lv_aload_n hx hb d_1_21_22 rfl (lv_at hl 2 rfl) ?_
      refine zget (ci := 12) (C := RX12) (T := TX12) (v := va_rf (zrf ad 0 (F3 12 l0 2))) (k := 2) hx hb hts inW_12 hown hK hZ3 g1.1 g1.2 rfl (by decide) k_2_129 rfl d_1_21_23 ?_
      obtain ⟨g6, hf⟩ := gif hf
      refine W.eq (g2 := F0 m 26 ls [.ref (ad 0 (F3 12 l0 2) 0)]) (by rw [zrf_pos (ad := ad) (t := 0) g6.1]; try rfl) ?_
      obtain ⟨r7, F7, B7, hc7, hf⟩ := gbind hf
      refine va_callv (va_runV (As := []) (rest := []) ⟨hx, hb, hml, hown, hts⟩ (c_ByteRow_clear (l := l) hc7) (cwV 0 hts (gdV k_5_166 k_5_167 k_5_168 k_1_2 k_5_169) rfl rfl rfl (by decide +kernel) ⟨Nat.le_of_ble_eq_true rfl, Nat.le_of_ble_eq_true rfl⟩) (zPV X hZ3 hS3 (ci := 0) g6.1 g6.2 (r := (RX0, TX0, 3)) rfl []) rfl rfl hl.1 rfl (lv_room (Nat.le_of_ble_eq_true rfl)) d_1_21_26 ⟨Nat.le_of_ble_eq_true rfl, Nat.le_of_ble_eq_true rfl⟩) hS3 (fun q _ h => zAin X hS3 q h) (zAin X hS3) (fun u7 t7 H7 locs7 ht7 hv7 hw7 hB7 hz7 hk7 hS7 => ?_)
      have hZ7 := zBack X ht7 hB7
      refine zaload_n hx hb d_1_21_29 rfl (lv_at hl 0 rfl) ?_
      refine zaload_n hx hb d_1_21_30 rfl (lv_at hl 1 rfl) ?_
      refine lv_aload_n hx hb d_1_21_31 rfl (lv_at hl 2 rfl) ?_
      refine zget (ci := 12) (C := RX12) (T := TX12) (v := va_rf (zrf ad 0 (F7 12 l0 2))) (k := 2) hx hb hts inW_12 hown hK hZ7 g1.1 g1.2 rfl (by decide) k_2_129 rfl d_1_21_32 ?_
      obtain ⟨g8, hf⟩ := gif hf
      refine W.eq (g2 := F0 m 35 ls [va_rf (zrf ad 0 (F7 12 l0 2)), va_rf (zrf ad 6 r2), .ref (ad 5 r3 0)]) (by rw [zrf_pos (ad := ad) (t := 5) g8.1]; try rfl) ?_
      obtain ⟨g9, hf⟩ := gif hf
      refine W.eq (g2 := F0 m 35 ls [va_rf (zrf ad 0 (F7 12 l0 2)), .ref (ad 6 r2 0), .ref (ad 5 r3 0)]) (by rw [zrf_pos (ad := ad) (t := 6) g9.1]; try rfl) ?_
      obtain ⟨g10, hf⟩ := gif hf
      refine W.eq (g2 := F0 m 35 ls [.ref (ad 0 (F7 12 l0 2) 0), .ref (ad 6 r2 0), .ref (ad 5 r3 0)]) (by rw [zrf_pos (ad := ad) (t := 0) g10.1]; try rfl) ?_
      obtain ⟨r11, F11, B11, hc11, hf⟩ := gbind hf
      refine va_callv (va_runV (As := [.ref (ad 6 r2 0), .ref (ad 0 (F7 12 l0 2) 0)]) (rest := []) ⟨hx, hb, hml, hown, hts⟩ (c_Performance_write (l := l) hc11) (cwV 2 hts (gdV k_7_123 k_7_124 k_7_125 k_1_20 k_7_126) rfl rfl rfl (by decide +kernel) ⟨Nat.le_of_ble_eq_true rfl, Nat.le_of_ble_eq_true rfl⟩) (zPV X hZ7 hS7 (ci := 5) g8.1 g8.2 (r := (RX5, TX5, 14)) rfl [.ref (ad 6 r2 0), .ref (ad 0 (F7 12 l0 2) 0)]) rfl rfl hl.1 rfl (lv_room (Nat.le_of_ble_eq_true rfl)) d_1_21_35 ⟨Nat.le_of_ble_eq_true rfl, Nat.le_of_ble_eq_true rfl⟩) hS7 (fun q _ h => zAin X hS7 q h) (zAin X hS7) (fun u11 t11 H11 locs11 ht11 hv11 hw11 hB11 hz11 hk11 hS11 => ?_)
      have hZ11 := zBack X ht11 hB11
      refine lv_aload_n hx hb d_1_21_38 rfl (lv_at hl 2 rfl) ?_
      refine zget (ci := 12) (C := RX12) (T := TX12) (v := va_rf (zrf ad 0 (F11 12 l0 2))) (k := 2) hx hb hts inW_12 hown hK hZ11 g1.1 g1.2 rfl (by decide) k_2_129 rfl d_1_21_39 ?_
      obtain ⟨g12, hf⟩ := gif hf
      refine zunrf g12.1 ?_
      refine zget (ci := 0) (C := RX0) (T := TX0) (v := .int (iI (F11 0 (F11 12 l0 2) 1))) (k := 1) hx hb hts inW_0 hown hK hZ11 g12.1 g12.2 rfl (by decide) k_1_46 rfl d_1_21_42 ?_
      cases hf
      exact W.iret hx hb hr (fun t ht hW => ⟨⟨_, (), rfl, rfl, by rw [ht]; exact hZ11, va_K.moved hW.alike hK⟩, hS11.F ht⟩) hS11.2.2 d_1_21_45 hlk
    · replace hf := gpos hf h5
      exact b_S_file_20 X hf hZ3 hS3 (lv_sub hl [] rfl)

noncomputable abbrev Q_Scribe_writeVoice (K : zK) (D : va_G) (ca : Nat → ClassId) (ad : Nat → Int → Nat → Nat) (L : List Nat) (r : Int) (F : zF) (B : zB) (A : Nat → Prop) : Array Value → State → Outcome → State → Prop := va_Qv (S := Unit) (fun _ => True) (fun _ => zPo D ca ad lnC K.2 L F B A) A
noncomputable def f_Scribe_writeVoice_242 (K : zK) (l9 : Int) (l0 : Int) (l3 : Int) (F : zF) (B : zB) : zO := if 0 ≤ l0 ∧ l0 < K.2 7 then zbind (f_Scribe_writeRest K l0 l9 l3 F B) (fun r45 F45 B45 => if r32 (F45 7 l0 3) then if ¬ iI (zmax (F45 7 l0 3) 1) = 0 then zbind (f_Scribe_writeRest K l0 l3 ((zdv ((l3 + (F45 7 l0 3)) - 1) (zmax (F45 7 l0 3) 1)) * (F45 7 l0 3)) F45 B45) (fun r48 F48 B48 => if 0 ≤ (F48 7 l0 1) ∧ (F48 7 l0 1) < K.2 0 then zbind (f_ByteRow_putText K (F48 7 l0 1) 12 F48 B48) (fun r50 F50 B50 => some (0, F50, B50)) else none) else none else none) else none
set_option maxHeartbeats 4000000 in
set_option maxRecDepth 100000 in
theorem b_Scribe_writeVoice_242 {D : va_G} {ca : Nat → ClassId} {ad : Nat → Int → Nat → Nat} {L : List Nat} {aS vS : Nat → Nat} {A : Nat → Prop} {p : Program} {l : Launch} {e : Env} {s : State} {m : MethodId} {args : Array Value} {below : List Frame} {meth : Method} {c : Code} {K : zK} {r : Int} {F9 : zF} {B9 : zB} (X : zX D ca L aS vS A p s m args meth c prog_9_method_10_code 11 (Option.none : Option Jvm.ClassFile.FieldType) "StaveHouse$Scribe") {l9 : Int} {l0 : Int} {l3 : Int} {F : zF} {B : zB} {H : Heap} {locs : List Loc} {ls : Array Slot} (hf : f_Scribe_writeVoice_242 K l9 l0 l3 F B = some (r, F9, B9)) (hZ : zH D ca ad lnC K.2 L F B A H) (hS : va_S A s.heap H locs) (hl : lv_has ls 11 [(9, .int (iI l9)), (0, .ref (ad 7 l0 0)), (3, .int (iI l3))]) : W p l e ({ frames := 8, cells := 0, slots := 0, locals := 179 } : Room) s m args below meth c H locs 0 0 (MQ below (Q_Scribe_writeVoice K D ca ad L r F9 B9 A) args s 0 0 A) (F0 m 242 ls []) := by
  obtain ⟨hx, hb, hr, hml, hown, hts, hlk, hK, hA, hL, hX⟩ := id X
  replace hf : (if 0 ≤ l0 ∧ l0 < K.2 7 then zbind (f_Scribe_writeRest K l0 l9 l3 F B) (fun r45 F45 B45 => if r32 (F45 7 l0 3) then if ¬ iI (zmax (F45 7 l0 3) 1) = 0 then zbind (f_Scribe_writeRest K l0 l3 ((zdv ((l3 + (F45 7 l0 3)) - 1) (zmax (F45 7 l0 3) 1)) * (F45 7 l0 3)) F45 B45) (fun r48 F48 B48 => if 0 ≤ (F48 7 l0 1) ∧ (F48 7 l0 1) < K.2 0 then zbind (f_ByteRow_putText K (F48 7 l0 1) 12 F48 B48) (fun r50 F50 B50 => some (0, F50, B50)) else none) else none else none) else none) = some (r, F9, B9) := hf
  refine lv_aload_n hx hb d_9_10_242 rfl (lv_at hl 1 rfl) ?_
  refine lv_iload hx hb d_9_10_243 (lv_at hl 0 rfl) ?_
  refine lv_iload_n hx hb d_9_10_245 rfl (lv_at hl 2 rfl) ?_
  obtain ⟨g44, hf⟩ := gif hf
  obtain ⟨r45, F45, B45, hc45, hf⟩ := gbind hf
  refine va_callv (va_runV (As := [.int (iI l9), .int (iI l3)]) (rest := []) ⟨hx, hb, hml, hown, hts⟩ (c_Scribe_writeRest (l := l) hc45) (cwV 2 hts (gdV k_8_191 k_8_193 ks_117 k_1_7 k_8_194) rfl rfl rfl (by decide +kernel) ⟨Nat.le_of_ble_eq_true rfl, Nat.le_of_ble_eq_true rfl⟩) (zPV X hZ hS (ci := 7) g44.1 g44.2 (r := (RX7, TX7, 9)) rfl [.int (iI l9), .int (iI l3)]) rfl rfl hl.1 rfl (lv_room (Nat.le_of_ble_eq_true rfl)) d_9_10_246 ⟨Nat.le_of_ble_eq_true rfl, Nat.le_of_ble_eq_true rfl⟩) hS (fun q _ h => zAin X hS q h) (zAin X hS) (fun u45 t45 H45 locs45 ht45 hv45 hw45 hB45 hz45 hk45 hS45 => ?_)
  have hZ45 := zBack X ht45 hB45
  refine lv_aload_n hx hb d_9_10_249 rfl (lv_at hl 1 rfl) ?_
  refine lv_iload_n hx hb d_9_10_250 rfl (lv_at hl 2 rfl) ?_
  refine lv_iload_n hx hb d_9_10_251 rfl (lv_at hl 2 rfl) ?_
  refine lv_aload_n hx hb d_9_10_252 rfl (lv_at hl 1 rfl) ?_
  refine zget (ci := 7) (C := RX7) (T := TX7) (v := .int (iI (F45 7 l0 3))) (k := 3) hx hb hts inW_7 hown hK hZ45 g44.1 g44.2 rfl (by decide) k_2_101 rfl d_9_10_253 ?_
  refine zadd hx hb d_9_10_256 ?_
  refine lv_iconst (v := iI 1) hx hb d_9_10_257 rfl ?_
  refine zsub hx hb d_9_10_258 ?_
  refine lv_aload_n hx hb d_9_10_259 rfl (lv_at hl 1 rfl) ?_
  refine zget (ci := 7) (C := RX7) (T := TX7) (v := .int (iI (F45 7 l0 3))) (k := 3) hx hb hts inW_7 hown hK hZ45 g44.1 g44.2 rfl (by decide) k_2_101 rfl d_9_10_260 ?_
  refine lv_iconst (v := iI 1) hx hb d_9_10_263 rfl ?_
  obtain ⟨g46, hf⟩ := gif hf
  refine va_mmax hx hb (by rw [hml]; exact hl.1.symm) hown (hts _ k_8_142) (hts _ k_1_39) (hts _ k_1_3) (hts _ k_1_40) (Nat.le_of_ble_eq_true rfl) (Nat.le_of_ble_eq_true rfl) (Nat.le_of_ble_eq_true rfl) (Nat.le_of_ble_eq_true rfl) d_9_10_264 ?_
  rw [zmax_e g46 (by decide)]
  obtain ⟨g47, hf⟩ := gif hf
  refine zdv_r hx hb g47 d_9_10_267 ?_
  refine lv_aload_n hx hb d_9_10_268 rfl (lv_at hl 1 rfl) ?_
  refine zget (ci := 7) (C := RX7) (T := TX7) (v := .int (iI (F45 7 l0 3))) (k := 3) hx hb hts inW_7 hown hK hZ45 g44.1 g44.2 rfl (by decide) k_2_101 rfl d_9_10_269 ?_
  refine zmul hx hb d_9_10_272 ?_
  obtain ⟨r48, F48, B48, hc48, hf⟩ := gbind hf
  refine va_callv (va_runV (As := [.int (iI l3), .int (iI ((zdv ((l3 + (F45 7 l0 3)) - 1) (zmax (F45 7 l0 3) 1)) * (F45 7 l0 3)))]) (rest := []) ⟨hx, hb, hml, hown, hts⟩ (c_Scribe_writeRest (l := l) hc48) (cwV 2 hts (gdV k_8_191 k_8_193 ks_117 k_1_7 k_8_194) rfl rfl rfl (by decide +kernel) ⟨Nat.le_of_ble_eq_true rfl, Nat.le_of_ble_eq_true rfl⟩) (zPV X hZ45 hS45 (ci := 7) g44.1 g44.2 (r := (RX7, TX7, 9)) rfl [.int (iI l3), .int (iI ((zdv ((l3 + (F45 7 l0 3)) - 1) (zmax (F45 7 l0 3) 1)) * (F45 7 l0 3)))]) rfl rfl hl.1 rfl (lv_room (Nat.le_of_ble_eq_true rfl)) d_9_10_273 ⟨Nat.le_of_ble_eq_true rfl, Nat.le_of_ble_eq_true rfl⟩) hS45 (fun q _ h => zAin X hS45 q h) (zAin X hS45) (fun u48 t48 H48 locs48 ht48 hv48 hw48 hB48 hz48 hk48 hS48 => ?_)
  have hZ48 := zBack X ht48 hB48
  refine lv_aload_n hx hb d_9_10_276 rfl (lv_at hl 1 rfl) ?_
  refine zget (ci := 7) (C := RX7) (T := TX7) (v := va_rf (zrf ad 0 (F48 7 l0 1))) (k := 1) hx hb hts inW_7 hown hK hZ48 g44.1 g44.2 rfl (by decide) k_2_99 rfl d_9_10_277 ?_
  refine va_ldcS hx hb hown (hX.2.2.2.2.1 12 _ rfl).1 d_9_10_280 ?_
  obtain ⟨g49, hf⟩ := gif hf
  refine W.eq (g2 := F0 m 282 ls [.ref (aS 12), .ref (ad 0 (F48 7 l0 1) 0)]) (by rw [zrf_pos (ad := ad) (t := 0) g49.1]; try rfl) ?_
  obtain ⟨r50, F50, B50, hc50, hf⟩ := gbind hf
  refine va_callv (va_runV (As := [.ref (aS 12)]) (rest := []) ⟨hx, hb, hml, hown, hts⟩ (c_ByteRow_putText (l := l) hc50) (cwV 1 hts (gdV k_8_172 k_7_129 k_7_130 k_1_2 k_7_131) rfl rfl rfl (by decide +kernel) ⟨Nat.le_of_ble_eq_true rfl, Nat.le_of_ble_eq_true rfl⟩) (zPV X hZ48 hS48 (ci := 0) g49.1 g49.2 (r := (RX0, TX0, 3)) rfl [.ref (aS 12)]) rfl rfl hl.1 rfl (lv_room (Nat.le_of_ble_eq_true rfl)) d_9_10_282 ⟨Nat.le_of_ble_eq_true rfl, Nat.le_of_ble_eq_true rfl⟩) hS48 (fun q _ h => zAin X hS48 q h) (zAin X hS48) (fun u50 t50 H50 locs50 ht50 hv50 hw50 hB50 hz50 hk50 hS50 => ?_)
  have hZ50 := zBack X ht50 hB50
  cases hf
  exact W.vret hx hb hr (fun t ht hW => ⟨⟨(), rfl, trivial, by rw [ht]; exact hZ50, va_K.moved hW.alike hK⟩, hS50.F ht⟩) hS50.2.2 d_9_10_285 hlk

noncomputable def f_Scribe_writeVoice_157 (K : zK) : Nat → Int → Int → Int → Int → Int → Int → zF → zB → zO
  | 0, _, _, _, _, _, _, _, _ => none
  | n + 1, l10, l9, l8, l4, l0, l3, F, B => if 0 ≤ l0 ∧ l0 < K.2 7 then if 0 ≤ (F 7 l0 0) ∧ (F 7 l0 0) < K.2 8 then if r32 l10 then if r32 (F 8 (F 7 l0 0) 2) then (if (F 8 (F 7 l0 0) 2) ≤ l10 then f_Scribe_writeVoice_242 K l9 l0 l3 F B else if r32 (F 7 l0 7) then if r32 l4 then (if l4 ≤ (F 7 l0 7) then f_Scribe_writeVoice_242 K l9 l0 l3 F B else zbind (f_Scribe_gatherEvent K l0 (F 7 l0 7) l4 F B) (fun r40 F40 B40 => zbind (f_Scribe_writeRest K l0 l9 ((F40 7 l0 5) * l8) F40 B40) (fun r41 F41 B41 => zbind (f_Scribe_spellEvent K l0 F41 B41) (fun r42 F42 B42 => zbind (f_Scribe_writeSpan K l0 ((F42 7 l0 5) * l8) ((F42 7 l0 6) * l8) F42 B42) (fun r43 F43 B43 => f_Scribe_writeVoice_157 K n (l10 + 1) ((F43 7 l0 6) * l8) l8 l4 l0 l3 F43 B43))))) else none else none) else none else none else none else none
set_option maxHeartbeats 4000000 in
set_option maxRecDepth 100000 in
theorem b_Scribe_writeVoice_157 {D : va_G} {ca : Nat → ClassId} {ad : Nat → Int → Nat → Nat} {L : List Nat} {aS vS : Nat → Nat} {A : Nat → Prop} {p : Program} {l : Launch} {e : Env} {s : State} {m : MethodId} {args : Array Value} {below : List Frame} {meth : Method} {c : Code} {K : zK} {r : Int} {F9 : zF} {B9 : zB} (X : zX D ca L aS vS A p s m args meth c prog_9_method_10_code 11 (Option.none : Option Jvm.ClassFile.FieldType) "StaveHouse$Scribe") : ∀ {n : Nat} {l10 : Int} {l9 : Int} {l8 : Int} {l4 : Int} {l0 : Int} {l3 : Int} {F : zF} {B : zB} {H : Heap} {locs : List Loc} {ls : Array Slot}, f_Scribe_writeVoice_157 K n l10 l9 l8 l4 l0 l3 F B = some (r, F9, B9) → zH D ca ad lnC K.2 L F B A H → va_S A s.heap H locs → lv_has ls 11 [(10, .int (iI l10)), (9, .int (iI l9)), (8, .int (iI l8)), (4, .int (iI l4)), (0, .ref (ad 7 l0 0)), (3, .int (iI l3))] → W p l e ({ frames := 8, cells := 0, slots := 0, locals := 179 } : Room) s m args below meth c H locs 0 0 (MQ below (Q_Scribe_writeVoice K D ca ad L r F9 B9 A) args s 0 0 A) (F0 m 157 ls []) := by
  obtain ⟨hx, hb, hr, hml, hown, hts, hlk, hK, hA, hL, hX⟩ := id X
  intro n
  induction n with
  | zero =>
    intros
    rename_i hf _ _ _
    cases hf
  | succ n ih =>
    intro l10 l9 l8 l4 l0 l3 F B H locs ls hf hZ hS hl
    replace hf : (if 0 ≤ l0 ∧ l0 < K.2 7 then if 0 ≤ (F 7 l0 0) ∧ (F 7 l0 0) < K.2 8 then if r32 l10 then if r32 (F 8 (F 7 l0 0) 2) then (if (F 8 (F 7 l0 0) 2) ≤ l10 then f_Scribe_writeVoice_242 K l9 l0 l3 F B else if r32 (F 7 l0 7) then if r32 l4 then (if l4 ≤ (F 7 l0 7) then f_Scribe_writeVoice_242 K l9 l0 l3 F B else zbind (f_Scribe_gatherEvent K l0 (F 7 l0 7) l4 F B) (fun r40 F40 B40 => zbind (f_Scribe_writeRest K l0 l9 ((F40 7 l0 5) * l8) F40 B40) (fun r41 F41 B41 => zbind (f_Scribe_spellEvent K l0 F41 B41) (fun r42 F42 B42 => zbind (f_Scribe_writeSpan K l0 ((F42 7 l0 5) * l8) ((F42 7 l0 6) * l8) F42 B42) (fun r43 F43 B43 => f_Scribe_writeVoice_157 K n (l10 + 1) ((F43 7 l0 6) * l8) l8 l4 l0 l3 F43 B43))))) else none else none) else none else none else none else none) = some (r, F9, B9) := hf
    refine lv_iload hx hb d_9_10_157 (lv_at hl 0 rfl) ?_
    refine lv_aload_n hx hb d_9_10_159 rfl (lv_at hl 4 rfl) ?_
    obtain ⟨g31, hf⟩ := gif hf
    refine zget (ci := 7) (C := RX7) (T := TX7) (v := va_rf (zrf ad 8 (F 7 l0 0))) (k := 0) hx hb hts inW_7 hown hK hZ g31.1 g31.2 rfl (by decide) k_2_98 rfl d_9_10_160 ?_
    obtain ⟨g33, hf⟩ := gif hf
    refine zunrf g33.1 ?_
    refine zget (ci := 8) (C := RX8) (T := TX8) (v := .int (iI (F 8 (F 7 l0 0) 2))) (k := 2) hx hb hts inW_8 hown hK hZ g33.1 g33.2 rfl (by decide) k_7_224 rfl d_9_10_163 ?_
    obtain ⟨g34, hf⟩ := gif hf
    obtain ⟨g35, hf⟩ := gif hf
    refine zge (tgt := 242) hx hb g34 g35 d_9_10_166 (by decide) (fun h36 => ?_) (fun h36 => ?_)
    · replace hf := gpos hf h36
      exact b_Scribe_writeVoice_242 X hf hZ hS (lv_sub hl [1, 4, 5] rfl)
    · replace hf := gneg hf h36
      refine lv_aload_n hx hb d_9_10_169 rfl (lv_at hl 4 rfl) ?_
      refine zget (ci := 7) (C := RX7) (T := TX7) (v := .int (iI (F 7 l0 7))) (k := 7) hx hb hts inW_7 hown hK hZ g31.1 g31.2 rfl (by decide) k_2_105 rfl d_9_10_170 ?_
      refine lv_iload hx hb d_9_10_173 (lv_at hl 3 rfl) ?_
      obtain ⟨g37, hf⟩ := gif hf
      obtain ⟨g38, hf⟩ := gif hf
      refine zge (tgt := 242) hx hb g37 g38 d_9_10_175 (by decide) (fun h39 => ?_) (fun h39 => ?_)
      · replace hf := gpos hf h39
        exact b_Scribe_writeVoice_242 X hf hZ hS (lv_sub hl [1, 4, 5] rfl)
      · replace hf := gneg hf h39
        refine lv_aload_n hx hb d_9_10_178 rfl (lv_at hl 4 rfl) ?_
        refine lv_aload_n hx hb d_9_10_179 rfl (lv_at hl 4 rfl) ?_
        refine zget (ci := 7) (C := RX7) (T := TX7) (v := .int (iI (F 7 l0 7))) (k := 7) hx hb hts inW_7 hown hK hZ g31.1 g31.2 rfl (by decide) k_2_105 rfl d_9_10_180 ?_
        refine lv_iload hx hb d_9_10_183 (lv_at hl 3 rfl) ?_
        obtain ⟨r40, F40, B40, hc40, hf⟩ := gbind hf
        refine va_callv (va_runV (As := [.int (iI (F 7 l0 7)), .int (iI l4)]) (rest := []) ⟨hx, hb, hml, hown, hts⟩ (c_Scribe_gatherEvent (l := l) hc40) (cwV 2 hts (gdV k_8_152 k_8_154 ks_113 k_1_7 k_8_155) rfl rfl rfl (by decide +kernel) ⟨Nat.le_of_ble_eq_true rfl, Nat.le_of_ble_eq_true rfl⟩) (zPV X hZ hS (ci := 7) g31.1 g31.2 (r := (RX7, TX7, 9)) rfl [.int (iI (F 7 l0 7)), .int (iI l4)]) rfl rfl hl.1 rfl (lv_room (Nat.le_of_ble_eq_true rfl)) d_9_10_185 ⟨Nat.le_of_ble_eq_true rfl, Nat.le_of_ble_eq_true rfl⟩) hS (fun q _ h => zAin X hS q h) (zAin X hS) (fun u40 t40 H40 locs40 ht40 hv40 hw40 hB40 hz40 hk40 hS40 => ?_)
        have hZ40 := zBack X ht40 hB40
        refine lv_aload_n hx hb d_9_10_188 rfl (lv_at hl 4 rfl) ?_
        refine lv_iload hx hb d_9_10_189 (lv_at hl 1 rfl) ?_
        refine lv_aload_n hx hb d_9_10_191 rfl (lv_at hl 4 rfl) ?_
        refine zget (ci := 7) (C := RX7) (T := TX7) (v := .long (lI (F40 7 l0 5))) (k := 5) hx hb hts inW_7 hown hK hZ40 g31.1 g31.2 rfl (by decide) k_2_103 rfl d_9_10_192 ?_
        refine zl2iw hx hb d_9_10_195 ?_
        refine lv_iload hx hb d_9_10_196 (lv_at hl 2 rfl) ?_
        refine zmul hx hb d_9_10_198 ?_
        obtain ⟨r41, F41, B41, hc41, hf⟩ := gbind hf
        refine va_callv (va_runV (As := [.int (iI l9), .int (iI ((F40 7 l0 5) * l8))]) (rest := []) ⟨hx, hb, hml, hown, hts⟩ (c_Scribe_writeRest (l := l) hc41) (cwV 2 hts (gdV k_8_191 k_8_193 ks_117 k_1_7 k_8_194) rfl rfl rfl (by decide +kernel) ⟨Nat.le_of_ble_eq_true rfl, Nat.le_of_ble_eq_true rfl⟩) (zPV X hZ40 hS40 (ci := 7) g31.1 g31.2 (r := (RX7, TX7, 9)) rfl [.int (iI l9), .int (iI ((F40 7 l0 5) * l8))]) rfl rfl hl.1 rfl (lv_room (Nat.le_of_ble_eq_true rfl)) d_9_10_199 ⟨Nat.le_of_ble_eq_true rfl, Nat.le_of_ble_eq_true rfl⟩) hS40 (fun q _ h => zAin X hS40 q h) (zAin X hS40) (fun u41 t41 H41 locs41 ht41 hv41 hw41 hB41 hz41 hk41 hS41 => ?_)
        have hZ41 := zBack X ht41 hB41
        refine lv_aload_n hx hb d_9_10_202 rfl (lv_at hl 4 rfl) ?_
        obtain ⟨r42, F42, B42, hc42, hf⟩ := gbind hf
        refine va_callv (va_runV (As := []) (rest := []) ⟨hx, hb, hml, hown, hts⟩ (c_Scribe_spellEvent (l := l) hc42) (cwV 0 hts (gdV k_8_222 k_8_224 ks_121 k_1_7 k_8_225) rfl rfl rfl (by decide +kernel) ⟨Nat.le_of_ble_eq_true rfl, Nat.le_of_ble_eq_true rfl⟩) (zPV X hZ41 hS41 (ci := 7) g31.1 g31.2 (r := (RX7, TX7, 9)) rfl []) rfl rfl hl.1 rfl (lv_room (Nat.le_of_ble_eq_true rfl)) d_9_10_203 ⟨Nat.le_of_ble_eq_true rfl, Nat.le_of_ble_eq_true rfl⟩) hS41 (fun q _ h => zAin X hS41 q h) (zAin X hS41) (fun u42 t42 H42 locs42 ht42 hv42 hw42 hB42 hz42 hk42 hS42 => ?_)
        have hZ42 := zBack X ht42 hB42
        refine lv_aload_n hx hb d_9_10_206 rfl (lv_at hl 4 rfl) ?_
        refine lv_aload_n hx hb d_9_10_207 rfl (lv_at hl 4 rfl) ?_
        refine zget (ci := 7) (C := RX7) (T := TX7) (v := .long (lI (F42 7 l0 5))) (k := 5) hx hb hts inW_7 hown hK hZ42 g31.1 g31.2 rfl (by decide) k_2_103 rfl d_9_10_208 ?_
        refine zl2iw hx hb d_9_10_211 ?_
        refine lv_iload hx hb d_9_10_212 (lv_at hl 2 rfl) ?_
        refine zmul hx hb d_9_10_214 ?_
        refine lv_aload_n hx hb d_9_10_215 rfl (lv_at hl 4 rfl) ?_
        refine zget (ci := 7) (C := RX7) (T := TX7) (v := .long (lI (F42 7 l0 6))) (k := 6) hx hb hts inW_7 hown hK hZ42 g31.1 g31.2 rfl (by decide) k_2_104 rfl d_9_10_216 ?_
        refine zl2iw hx hb d_9_10_219 ?_
        refine lv_iload hx hb d_9_10_220 (lv_at hl 2 rfl) ?_
        refine zmul hx hb d_9_10_222 ?_
        obtain ⟨r43, F43, B43, hc43, hf⟩ := gbind hf
        refine va_callv (va_runV (As := [.int (iI ((F42 7 l0 5) * l8)), .int (iI ((F42 7 l0 6) * l8))]) (rest := []) ⟨hx, hb, hml, hown, hts⟩ (c_Scribe_writeSpan (l := l) hc43) (cwV 2 hts (gdV k_8_195 k_8_197 ks_118 k_1_7 k_8_198) rfl rfl rfl (by decide +kernel) ⟨Nat.le_of_ble_eq_true rfl, Nat.le_of_ble_eq_true rfl⟩) (zPV X hZ42 hS42 (ci := 7) g31.1 g31.2 (r := (RX7, TX7, 9)) rfl [.int (iI ((F42 7 l0 5) * l8)), .int (iI ((F42 7 l0 6) * l8))]) rfl rfl hl.1 rfl (lv_room (Nat.le_of_ble_eq_true rfl)) d_9_10_223 ⟨Nat.le_of_ble_eq_true rfl, Nat.le_of_ble_eq_true rfl⟩) hS42 (fun q _ h => zAin X hS42 q h) (zAin X hS42) (fun u43 t43 H43 locs43 ht43 hv43 hw43 hB43 hz43 hk43 hS43 => ?_)
        have hZ43 := zBack X ht43 hB43
        refine lv_aload_n hx hb d_9_10_226 rfl (lv_at hl 4 rfl) ?_
        refine zget (ci := 7) (C := RX7) (T := TX7) (v := .long (lI (F43 7 l0 6))) (k := 6) hx hb hts inW_7 hown hK hZ43 g31.1 g31.2 rfl (by decide) k_2_104 rfl d_9_10_227 ?_
        refine zl2iw hx hb d_9_10_230 ?_
        refine lv_iload hx hb d_9_10_231 (lv_at hl 2 rfl) ?_
        refine zmul hx hb d_9_10_233 ?_
        refine lv_istore (lv' := [(9, .int (iI ((F43 7 l0 6) * l8))), (10, .int (iI l10)), (8, .int (iI l8)), (4, .int (iI l4)), (0, .ref (ad 7 l0 0)), (3, .int (iI l3))]) hx hb d_9_10_234 hl (by decide) rfl (fun ls hl => ?_)
        refine lv_iinc (v := iI (l10 + 1)) (lv' := [(10, .int (iI (l10 + 1))), (9, .int (iI ((F43 7 l0 6) * l8))), (8, .int (iI l8)), (4, .int (iI l4)), (0, .ref (ad 7 l0 0)), (3, .int (iI l3))]) hx hb d_9_10_236 hl (k := 1) rfl (iI_add _ 1) (by decide) rfl (fun ls hl => ?_)
        refine lv_goto (tgt := 157) hx hb d_9_10_239 (by decide) ?_
        exact ih hf hZ43 hS43 (lv_sub hl [0, 1, 2, 3, 4, 5] rfl)

noncomputable def f_Scribe_writeVoice_89 (K : zK) (l4 : Int) (l0 : Int) (l1 : Int) (l3 : Int) (s0 : Int) (s1 : Nat) (F : zF) (B : zB) : zO := if 0 ≤ s0 ∧ s0 < K.2 0 then zbind (f_ByteRow_putText K s0 s1 F B) (fun r19 F19 B19 => if 0 ≤ l0 ∧ l0 < K.2 7 then if 0 ≤ (F19 7 l0 0) ∧ (F19 7 l0 0) < K.2 8 then if 0 ≤ l1 ∧ l1 < 400 then if 0 ≤ (B19 8 (F19 7 l0 0) 220 l1) ∧ (B19 8 (F19 7 l0 0) 220 l1) < 8 then if 0 ≤ (F19 7 l0 1) ∧ (F19 7 l0 1) < K.2 0 then if r32 (B19 8 (F19 7 l0 0) 3 (B19 8 (F19 7 l0 0) 220 l1)) then zbind (f_ByteRow_putDecimal K (F19 7 l0 1) (zmax (B19 8 (F19 7 l0 0) 3 (B19 8 (F19 7 l0 0) 220 l1)) 0) F19 B19) (fun r26 F26 B26 => if 0 ≤ (F26 7 l0 1) ∧ (F26 7 l0 1) < K.2 0 then zbind (f_ByteRow_putText K (F26 7 l0 1) 11 F26 B26) (fun r28 F28 B28 => if ¬ iI (F28 7 l0 2) = 0 then f_Scribe_writeVoice_157 K K.1 0 0 (zdv 512 (F28 7 l0 2)) l4 l0 l3 (zup3 F28 7 l0 7 l1) B28 else none) else none) else none else none else none else none else none else none) else none
set_option maxHeartbeats 4000000 in
set_option maxRecDepth 100000 in
theorem b_Scribe_writeVoice_89 {D : va_G} {ca : Nat → ClassId} {ad : Nat → Int → Nat → Nat} {L : List Nat} {aS vS : Nat → Nat} {A : Nat → Prop} {p : Program} {l : Launch} {e : Env} {s : State} {m : MethodId} {args : Array Value} {below : List Frame} {meth : Method} {c : Code} {K : zK} {r : Int} {F9 : zF} {B9 : zB} (X : zX D ca L aS vS A p s m args meth c prog_9_method_10_code 11 (Option.none : Option Jvm.ClassFile.FieldType) "StaveHouse$Scribe") {l4 : Int} {l0 : Int} {l1 : Int} {l3 : Int} {s0 : Int} {s1 : Nat} {F : zF} {B : zB} {H : Heap} {locs : List Loc} {ls : Array Slot} (hf : f_Scribe_writeVoice_89 K l4 l0 l1 l3 s0 s1 F B = some (r, F9, B9)) (hZ : zH D ca ad lnC K.2 L F B A H) (hS : va_S A s.heap H locs) (hl : lv_has ls 11 [(4, .int (iI l4)), (0, .ref (ad 7 l0 0)), (1, .int (iI l1)), (3, .int (iI l3))]) : W p l e ({ frames := 8, cells := 0, slots := 0, locals := 179 } : Room) s m args below meth c H locs 0 0 (MQ below (Q_Scribe_writeVoice K D ca ad L r F9 B9 A) args s 0 0 A) (F0 m 89 ls [.ref (aS s1), va_rf (zrf ad 0 s0)]) := by
  obtain ⟨hx, hb, hr, hml, hown, hts, hlk, hK, hA, hL, hX⟩ := id X
  replace hf : (if 0 ≤ s0 ∧ s0 < K.2 0 then zbind (f_ByteRow_putText K s0 s1 F B) (fun r19 F19 B19 => if 0 ≤ l0 ∧ l0 < K.2 7 then if 0 ≤ (F19 7 l0 0) ∧ (F19 7 l0 0) < K.2 8 then if 0 ≤ l1 ∧ l1 < 400 then if 0 ≤ (B19 8 (F19 7 l0 0) 220 l1) ∧ (B19 8 (F19 7 l0 0) 220 l1) < 8 then if 0 ≤ (F19 7 l0 1) ∧ (F19 7 l0 1) < K.2 0 then if r32 (B19 8 (F19 7 l0 0) 3 (B19 8 (F19 7 l0 0) 220 l1)) then zbind (f_ByteRow_putDecimal K (F19 7 l0 1) (zmax (B19 8 (F19 7 l0 0) 3 (B19 8 (F19 7 l0 0) 220 l1)) 0) F19 B19) (fun r26 F26 B26 => if 0 ≤ (F26 7 l0 1) ∧ (F26 7 l0 1) < K.2 0 then zbind (f_ByteRow_putText K (F26 7 l0 1) 11 F26 B26) (fun r28 F28 B28 => if ¬ iI (F28 7 l0 2) = 0 then f_Scribe_writeVoice_157 K K.1 0 0 (zdv 512 (F28 7 l0 2)) l4 l0 l3 (zup3 F28 7 l0 7 l1) B28 else none) else none) else none else none else none else none else none else none) else none) = some (r, F9, B9) := hf
  obtain ⟨g18, hf⟩ := gif hf
  refine W.eq (g2 := F0 m 89 ls [.ref (aS s1), .ref (ad 0 s0 0)]) (by rw [zrf_pos (ad := ad) (t := 0) g18.1]; try rfl) ?_
  obtain ⟨r19, F19, B19, hc19, hf⟩ := gbind hf
  refine va_callv (va_runV (As := [.ref (aS s1)]) (rest := []) ⟨hx, hb, hml, hown, hts⟩ (c_ByteRow_putText (l := l) hc19) (cwV 1 hts (gdV k_8_172 k_7_129 k_7_130 k_1_2 k_7_131) rfl rfl rfl (by decide +kernel) ⟨Nat.le_of_ble_eq_true rfl, Nat.le_of_ble_eq_true rfl⟩) (zPV X hZ hS (ci := 0) g18.1 g18.2 (r := (RX0, TX0, 3)) rfl [.ref (aS s1)]) rfl rfl hl.1 rfl (lv_room (Nat.le_of_ble_eq_true rfl)) d_9_10_89 ⟨Nat.le_of_ble_eq_true rfl, Nat.le_of_ble_eq_true rfl⟩) hS (fun q _ h => zAin X hS q h) (zAin X hS) (fun u19 t19 H19 locs19 ht19 hv19 hw19 hB19 hz19 hk19 hS19 => ?_)
  have hZ19 := zBack X ht19 hB19
  refine lv_aload_n hx hb d_9_10_92 rfl (lv_at hl 1 rfl) ?_
  obtain ⟨g20, hf⟩ := gif hf
  refine zget (ci := 7) (C := RX7) (T := TX7) (v := va_rf (zrf ad 8 (F19 7 l0 0))) (k := 0) hx hb hts inW_7 hown hK hZ19 g20.1 g20.2 rfl (by decide) k_2_98 rfl d_9_10_93 ?_
  obtain ⟨g21, hf⟩ := gif hf
  refine zunrf g21.1 ?_
  refine zget (ci := 8) (C := RX8) (T := TX8) (v := .ref (ad 8 (F19 7 l0 0) (3 + 1))) (k := 3) hx hb hts inW_8 hown hK hZ19 g21.1 g21.2 rfl (by decide) k_7_227 rfl d_9_10_96 ?_
  refine lv_aload_n hx hb d_9_10_99 rfl (lv_at hl 1 rfl) ?_
  refine zget (ci := 7) (C := RX7) (T := TX7) (v := va_rf (zrf ad 8 (F19 7 l0 0))) (k := 0) hx hb hts inW_7 hown hK hZ19 g20.1 g20.2 rfl (by decide) k_2_98 rfl d_9_10_100 ?_
  refine zunrf g21.1 ?_
  refine zget (ci := 8) (C := RX8) (T := TX8) (v := .ref (ad 8 (F19 7 l0 0) (1 + 1))) (k := 1) hx hb hts inW_8 hown hK hZ19 g21.1 g21.2 rfl (by decide) k_7_221 rfl d_9_10_103 ?_
  refine lv_iconst (v := iI 0) hx hb d_9_10_106 rfl ?_
  refine zaldQ (t := 1) (ci := 8) (k := 1) hx hb hK rfl hZ19 g21.1 g21.2 rfl (Nat.le_of_ble_eq_true rfl) (by decide) (by decide) d_9_10_107 ?_
  refine W.eq (g2 := F0 m 108 ls [.ref (ad 8 (F19 7 l0 0) (220 + 1)), .ref (ad 8 (F19 7 l0 0) (3 + 1))]) rfl ?_
  refine lv_iload_n hx hb d_9_10_108 rfl (lv_at hl 2 rfl) ?_
  obtain ⟨g22, hf⟩ := gif hf
  refine zlald (ci := 8) (k := 220) hx hb hK rfl hZ19 g21.1 g21.2 rfl (Nat.le_of_ble_eq_true rfl) g22.1 g22.2 d_9_10_109 ?_
  refine zl2iw hx hb d_9_10_110 ?_
  obtain ⟨g23, hf⟩ := gif hf
  refine zald (ci := 8) (k := 3) hx hb hK rfl hZ19 g21.1 g21.2 rfl (Nat.le_of_ble_eq_true rfl) g23.1 g23.2 d_9_10_111 ?_
  refine lv_istore (lv' := [(7, .int (iI (B19 8 (F19 7 l0 0) 3 (B19 8 (F19 7 l0 0) 220 l1)))), (4, .int (iI l4)), (0, .ref (ad 7 l0 0)), (1, .int (iI l1)), (3, .int (iI l3))]) hx hb d_9_10_112 hl (by decide) rfl (fun ls hl => ?_)
  refine lv_aload_n hx hb d_9_10_114 rfl (lv_at hl 2 rfl) ?_
  refine zget (ci := 7) (C := RX7) (T := TX7) (v := va_rf (zrf ad 0 (F19 7 l0 1))) (k := 1) hx hb hts inW_7 hown hK hZ19 g20.1 g20.2 rfl (by decide) k_2_99 rfl d_9_10_115 ?_
  refine lv_iload hx hb d_9_10_118 (lv_at hl 0 rfl) ?_
  refine lv_iconst (v := iI 0) hx hb d_9_10_120 rfl ?_
  obtain ⟨g24, hf⟩ := gif hf
  refine W.eq (g2 := F0 m 121 ls [.int (iI 0), .int (iI (B19 8 (F19 7 l0 0) 3 (B19 8 (F19 7 l0 0) 220 l1))), .ref (ad 0 (F19 7 l0 1) 0)]) (by rw [zrf_pos (ad := ad) (t := 0) g24.1]; try rfl) ?_
  obtain ⟨g25, hf⟩ := gif hf
  refine va_mmax hx hb (by rw [hml]; exact hl.1.symm) hown (hts _ k_8_142) (hts _ k_1_39) (hts _ k_1_3) (hts _ k_1_40) (Nat.le_of_ble_eq_true rfl) (Nat.le_of_ble_eq_true rfl) (Nat.le_of_ble_eq_true rfl) (Nat.le_of_ble_eq_true rfl) d_9_10_121 ?_
  rw [zmax_e g25 (by decide)]
  obtain ⟨r26, F26, B26, hc26, hf⟩ := gbind hf
  refine va_callv (va_runV (As := [.int (iI (zmax (B19 8 (F19 7 l0 0) 3 (B19 8 (F19 7 l0 0) 220 l1)) 0))]) (rest := []) ⟨hx, hb, hml, hown, hts⟩ (c_ByteRow_putDecimal (l := l) hc26) (cwV 1 hts (gdV k_8_174 k_8_175 k_8_176 k_1_2 k_8_177) rfl rfl rfl (by decide +kernel) ⟨Nat.le_of_ble_eq_true rfl, Nat.le_of_ble_eq_true rfl⟩) (zPV X hZ19 hS19 (ci := 0) g24.1 g24.2 (r := (RX0, TX0, 3)) rfl [.int (iI (zmax (B19 8 (F19 7 l0 0) 3 (B19 8 (F19 7 l0 0) 220 l1)) 0))]) rfl rfl hl.1 rfl (lv_room (Nat.le_of_ble_eq_true rfl)) d_9_10_124 ⟨Nat.le_of_ble_eq_true rfl, Nat.le_of_ble_eq_true rfl⟩) hS19 (fun q _ h => zAin X hS19 q h) (zAin X hS19) (fun u26 t26 H26 locs26 ht26 hv26 hw26 hB26 hz26 hk26 hS26 => ?_)
  have hZ26 := zBack X ht26 hB26
  refine lv_aload_n hx hb d_9_10_127 rfl (lv_at hl 2 rfl) ?_
  refine zget (ci := 7) (C := RX7) (T := TX7) (v := va_rf (zrf ad 0 (F26 7 l0 1))) (k := 1) hx hb hts inW_7 hown hK hZ26 g20.1 g20.2 rfl (by decide) k_2_99 rfl d_9_10_128 ?_
  refine va_ldcS hx hb hown (hX.2.2.2.2.1 11 _ rfl).1 d_9_10_131 ?_
  obtain ⟨g27, hf⟩ := gif hf
  refine W.eq (g2 := F0 m 133 ls [.ref (aS 11), .ref (ad 0 (F26 7 l0 1) 0)]) (by rw [zrf_pos (ad := ad) (t := 0) g27.1]; try rfl) ?_
  obtain ⟨r28, F28, B28, hc28, hf⟩ := gbind hf
  refine va_callv (va_runV (As := [.ref (aS 11)]) (rest := []) ⟨hx, hb, hml, hown, hts⟩ (c_ByteRow_putText (l := l) hc28) (cwV 1 hts (gdV k_8_172 k_7_129 k_7_130 k_1_2 k_7_131) rfl rfl rfl (by decide +kernel) ⟨Nat.le_of_ble_eq_true rfl, Nat.le_of_ble_eq_true rfl⟩) (zPV X hZ26 hS26 (ci := 0) g27.1 g27.2 (r := (RX0, TX0, 3)) rfl [.ref (aS 11)]) rfl rfl hl.1 rfl (lv_room (Nat.le_of_ble_eq_true rfl)) d_9_10_133 ⟨Nat.le_of_ble_eq_true rfl, Nat.le_of_ble_eq_true rfl⟩) hS26 (fun q _ h => zAin X hS26 q h) (zAin X hS26) (fun u28 t28 H28 locs28 ht28 hv28 hw28 hB28 hz28 hk28 hS28 => ?_)
  have hZ28 := zBack X ht28 hB28
  refine lv_sipush (v := iI 512) hx hb d_9_10_136 (by decide) ?_
  refine lv_aload_n hx hb d_9_10_139 rfl (lv_at hl 2 rfl) ?_
  refine zget (ci := 7) (C := RX7) (T := TX7) (v := .int (iI (F28 7 l0 2))) (k := 2) hx hb hts inW_7 hown hK hZ28 g20.1 g20.2 rfl (by decide) k_2_100 rfl d_9_10_140 ?_
  obtain ⟨g29, hf⟩ := gif hf
  refine zdv_r hx hb g29 d_9_10_143 ?_
  refine lv_istore (lv' := [(8, .int (iI (zdv 512 (F28 7 l0 2)))), (7, .int (iI (B19 8 (F19 7 l0 0) 3 (B19 8 (F19 7 l0 0) 220 l1)))), (4, .int (iI l4)), (0, .ref (ad 7 l0 0)), (1, .int (iI l1)), (3, .int (iI l3))]) hx hb d_9_10_144 hl (by decide) rfl (fun ls hl => ?_)
  refine lv_iconst (v := iI 0) hx hb d_9_10_146 rfl ?_
  refine lv_istore (lv' := [(9, .int (iI 0)), (8, .int (iI (zdv 512 (F28 7 l0 2)))), (7, .int (iI (B19 8 (F19 7 l0 0) 3 (B19 8 (F19 7 l0 0) 220 l1)))), (4, .int (iI l4)), (0, .ref (ad 7 l0 0)), (1, .int (iI l1)), (3, .int (iI l3))]) hx hb d_9_10_147 hl (by decide) rfl (fun ls hl => ?_)
  refine lv_aload_n hx hb d_9_10_149 rfl (lv_at hl 4 rfl) ?_
  refine lv_iload_n hx hb d_9_10_150 rfl (lv_at hl 5 rfl) ?_
  refine zput (ci := 7) (C := RX7) (T := TX7) (k := 7) (v := l1) (w := .int (iI l1)) hx hb hts inW_7 tyX7 tyX7_ok nmX7 hown hK hZ28 hS28 g20.1 g20.2 rfl (by decide) k_2_105 rfl (fun G h => congrArg (fun q => Value.int (iI q)) h) rfl rfl (zno (by decide)) d_9_10_151 (fun H30 locs30 hZ30 hS30 => ?_)
  refine lv_iconst (v := iI 0) hx hb d_9_10_154 rfl ?_
  refine lv_istore (lv' := [(10, .int (iI 0)), (9, .int (iI 0)), (8, .int (iI (zdv 512 (F28 7 l0 2)))), (7, .int (iI (B19 8 (F19 7 l0 0) 3 (B19 8 (F19 7 l0 0) 220 l1)))), (4, .int (iI l4)), (0, .ref (ad 7 l0 0)), (1, .int (iI l1)), (3, .int (iI l3))]) hx hb d_9_10_155 hl (by decide) rfl (fun ls hl => ?_)
  exact b_Scribe_writeVoice_157 X hf hZ30 hS30 (lv_sub hl [0, 1, 2, 4, 5, 7] rfl)

noncomputable def f_Scribe_writeVoice_13 (K : zK) : Nat → Int → Int → Int → Int → Int → Int → Int → zF → zB → zO
  | 0, _, _, _, _, _, _, _, _, _ => none
  | n + 1, l7, l5, l4, l0, l1, l2, l3, F, B => if r32 l7 then if r32 l4 then (if l4 ≤ l7 then if 0 ≤ l0 ∧ l0 < K.2 7 then if 0 ≤ (F 7 l0 1) ∧ (F 7 l0 1) < K.2 0 then zbind (f_ByteRow_putText K (F 7 l0 1) 8 F B) (fun r8 F8 B8 => if 0 ≤ (F8 7 l0 1) ∧ (F8 7 l0 1) < K.2 0 then zbind (f_ByteRow_put K (F8 7 l0 1) (97 + l2) F8 B8) (fun r10 F10 B10 => if r32 (l4 - l1) then if r64 l5 then if r64 (60 * (l4 - l1)) then (if (zcmp l5 (60 * (l4 - l1))) < 0 then f_Scribe_writeVoice_89 K l4 l0 l1 l3 (F10 7 l0 1) 10 F10 B10 else f_Scribe_writeVoice_89 K l4 l0 l1 l3 (F10 7 l0 1) 9 F10 B10) else none else none else none) else none) else none else none else if 0 ≤ l0 ∧ l0 < K.2 7 then if 0 ≤ (F 7 l0 0) ∧ (F 7 l0 0) < K.2 8 then if 0 ≤ l7 ∧ l7 < 400 then f_Scribe_writeVoice_13 K n (l7 + 1) (l5 + (B 8 (F 7 l0 0) 222 l7)) l4 l0 l1 l2 l3 F B else none else none else none) else none else none
set_option maxHeartbeats 4000000 in
set_option maxRecDepth 100000 in
theorem b_Scribe_writeVoice_13 {D : va_G} {ca : Nat → ClassId} {ad : Nat → Int → Nat → Nat} {L : List Nat} {aS vS : Nat → Nat} {A : Nat → Prop} {p : Program} {l : Launch} {e : Env} {s : State} {m : MethodId} {args : Array Value} {below : List Frame} {meth : Method} {c : Code} {K : zK} {r : Int} {F9 : zF} {B9 : zB} (X : zX D ca L aS vS A p s m args meth c prog_9_method_10_code 11 (Option.none : Option Jvm.ClassFile.FieldType) "StaveHouse$Scribe") : ∀ {n : Nat} {l7 : Int} {l5 : Int} {l4 : Int} {l0 : Int} {l1 : Int} {l2 : Int} {l3 : Int} {F : zF} {B : zB} {H : Heap} {locs : List Loc} {ls : Array Slot}, f_Scribe_writeVoice_13 K n l7 l5 l4 l0 l1 l2 l3 F B = some (r, F9, B9) → zH D ca ad lnC K.2 L F B A H → va_S A s.heap H locs → lv_has ls 11 [(7, .int (iI l7)), (5, .long (lI l5)), (4, .int (iI l4)), (0, .ref (ad 7 l0 0)), (1, .int (iI l1)), (2, .int (iI l2)), (3, .int (iI l3))] → W p l e ({ frames := 8, cells := 0, slots := 0, locals := 179 } : Room) s m args below meth c H locs 0 0 (MQ below (Q_Scribe_writeVoice K D ca ad L r F9 B9 A) args s 0 0 A) (F0 m 13 ls []) := by
  obtain ⟨hx, hb, hr, hml, hown, hts, hlk, hK, hA, hL, hX⟩ := id X
  intro n
  induction n with
  | zero =>
    intros
    rename_i hf _ _ _
    cases hf
  | succ n ih =>
    intro l7 l5 l4 l0 l1 l2 l3 F B H locs ls hf hZ hS hl
    replace hf : (if r32 l7 then if r32 l4 then (if l4 ≤ l7 then if 0 ≤ l0 ∧ l0 < K.2 7 then if 0 ≤ (F 7 l0 1) ∧ (F 7 l0 1) < K.2 0 then zbind (f_ByteRow_putText K (F 7 l0 1) 8 F B) (fun r8 F8 B8 => if 0 ≤ (F8 7 l0 1) ∧ (F8 7 l0 1) < K.2 0 then zbind (f_ByteRow_put K (F8 7 l0 1) (97 + l2) F8 B8) (fun r10 F10 B10 => if r32 (l4 - l1) then if r64 l5 then if r64 (60 * (l4 - l1)) then (if (zcmp l5 (60 * (l4 - l1))) < 0 then f_Scribe_writeVoice_89 K l4 l0 l1 l3 (F10 7 l0 1) 10 F10 B10 else f_Scribe_writeVoice_89 K l4 l0 l1 l3 (F10 7 l0 1) 9 F10 B10) else none else none else none) else none) else none else none else if 0 ≤ l0 ∧ l0 < K.2 7 then if 0 ≤ (F 7 l0 0) ∧ (F 7 l0 0) < K.2 8 then if 0 ≤ l7 ∧ l7 < 400 then f_Scribe_writeVoice_13 K n (l7 + 1) (l5 + (B 8 (F 7 l0 0) 222 l7)) l4 l0 l1 l2 l3 F B else none else none else none) else none else none) = some (r, F9, B9) := hf
    refine lv_iload hx hb d_9_10_13 (lv_at hl 0 rfl) ?_
    refine lv_iload hx hb d_9_10_15 (lv_at hl 2 rfl) ?_
    obtain ⟨g3, hf⟩ := gif hf
    obtain ⟨g4, hf⟩ := gif hf
    refine zge (tgt := 43) hx hb g3 g4 d_9_10_17 (by decide) (fun h5 => ?_) (fun h5 => ?_)
    · replace hf := gpos hf h5
      refine lv_aload_n hx hb d_9_10_43 rfl (lv_at hl 3 rfl) ?_
      obtain ⟨g6, hf⟩ := gif hf
      refine zget (ci := 7) (C := RX7) (T := TX7) (v := va_rf (zrf ad 0 (F 7 l0 1))) (k := 1) hx hb hts inW_7 hown hK hZ g6.1 g6.2 rfl (by decide) k_2_99 rfl d_9_10_44 ?_
      refine va_ldcS hx hb hown (hX.2.2.2.2.1 8 _ rfl).1 d_9_10_47 ?_
      obtain ⟨g7, hf⟩ := gif hf
      refine W.eq (g2 := F0 m 49 ls [.ref (aS 8), .ref (ad 0 (F 7 l0 1) 0)]) (by rw [zrf_pos (ad := ad) (t := 0) g7.1]; try rfl) ?_
      obtain ⟨r8, F8, B8, hc8, hf⟩ := gbind hf
      refine va_callv (va_runV (As := [.ref (aS 8)]) (rest := []) ⟨hx, hb, hml, hown, hts⟩ (c_ByteRow_putText (l := l) hc8) (cwV 1 hts (gdV k_8_172 k_7_129 k_7_130 k_1_2 k_7_131) rfl rfl rfl (by decide +kernel) ⟨Nat.le_of_ble_eq_true rfl, Nat.le_of_ble_eq_true rfl⟩) (zPV X hZ hS (ci := 0) g7.1 g7.2 (r := (RX0, TX0, 3)) rfl [.ref (aS 8)]) rfl rfl hl.1 rfl (lv_room (Nat.le_of_ble_eq_true rfl)) d_9_10_49 ⟨Nat.le_of_ble_eq_true rfl, Nat.le_of_ble_eq_true rfl⟩) hS (fun q _ h => zAin X hS q h) (zAin X hS) (fun u8 t8 H8 locs8 ht8 hv8 hw8 hB8 hz8 hk8 hS8 => ?_)
      have hZ8 := zBack X ht8 hB8
      refine lv_aload_n hx hb d_9_10_52 rfl (lv_at hl 3 rfl) ?_
      refine zget (ci := 7) (C := RX7) (T := TX7) (v := va_rf (zrf ad 0 (F8 7 l0 1))) (k := 1) hx hb hts inW_7 hown hK hZ8 g6.1 g6.2 rfl (by decide) k_2_99 rfl d_9_10_53 ?_
      refine lv_bipush (v := iI 97) hx hb d_9_10_56 (by decide) ?_
      refine lv_iload_n hx hb d_9_10_58 rfl (lv_at hl 5 rfl) ?_
      refine zadd hx hb d_9_10_59 ?_
      obtain ⟨g9, hf⟩ := gif hf
      refine W.eq (g2 := F0 m 60 ls [.int (iI (97 + l2)), .ref (ad 0 (F8 7 l0 1) 0)]) (by rw [zrf_pos (ad := ad) (t := 0) g9.1]; try rfl) ?_
      obtain ⟨r10, F10, B10, hc10, hf⟩ := gbind hf
      refine va_callv (va_runV (As := [.int (iI (97 + l2))]) (rest := []) ⟨hx, hb, hml, hown, hts⟩ (c_ByteRow_put (l := l) hc10) (cwV 1 hts (gdV k_8_180 k_2_171 k_2_172 k_1_2 k_2_173) rfl rfl rfl (by decide +kernel) ⟨Nat.le_of_ble_eq_true rfl, Nat.le_of_ble_eq_true rfl⟩) (zPV X hZ8 hS8 (ci := 0) g9.1 g9.2 (r := (RX0, TX0, 3)) rfl [.int (iI (97 + l2))]) rfl rfl hl.1 rfl (lv_room (Nat.le_of_ble_eq_true rfl)) d_9_10_60 ⟨Nat.le_of_ble_eq_true rfl, Nat.le_of_ble_eq_true rfl⟩) hS8 (fun q _ h => zAin X hS8 q h) (zAin X hS8) (fun u10 t10 H10 locs10 ht10 hv10 hw10 hB10 hz10 hk10 hS10 => ?_)
      have hZ10 := zBack X ht10 hB10
      refine lv_aload_n hx hb d_9_10_63 rfl (lv_at hl 3 rfl) ?_
      refine zget (ci := 7) (C := RX7) (T := TX7) (v := va_rf (zrf ad 0 (F10 7 l0 1))) (k := 1) hx hb hts inW_7 hown hK hZ10 g6.1 g6.2 rfl (by decide) k_2_99 rfl d_9_10_64 ?_
      refine lv_lload hx hb d_9_10_67 (lv_at hl 1 rfl) ?_
      refine lv_ldc2 hx hb hown (hts _ k_8_187) d_9_10_69 ?_
      refine W.eq (g2 := F0 m 72 ls [.long (lI 60), .long (lI l5), va_rf (zrf ad 0 (F10 7 l0 1))]) rfl ?_
      refine lv_iload hx hb d_9_10_72 (lv_at hl 2 rfl) ?_
      refine lv_iload_n hx hb d_9_10_74 rfl (lv_at hl 4 rfl) ?_
      refine zsub hx hb d_9_10_75 ?_
      obtain ⟨g11, hf⟩ := gif hf
      refine zi2l hx hb g11 d_9_10_76 ?_
      refine zlmul hx hb d_9_10_77 ?_
      obtain ⟨g12, hf⟩ := gif hf
      obtain ⟨g13, hf⟩ := gif hf
      refine zcmp_r hx hb g12 g13 d_9_10_78 ?_
      refine z0lt (tgt := 87) hx hb zcmp_32 d_9_10_79 (by decide) (fun h14 => ?_) (fun h14 => ?_)
      · replace hf := gpos hf h14
        refine va_ldcS hx hb hown (hX.2.2.2.2.1 10 _ rfl).1 d_9_10_87 ?_
        exact b_Scribe_writeVoice_89 X hf hZ10 hS10 (lv_sub hl [2, 3, 4, 6] rfl)
      · replace hf := gneg hf h14
        refine va_ldcS hx hb hown (hX.2.2.2.2.1 9 _ rfl).1 d_9_10_82 ?_
        refine lv_goto (tgt := 89) hx hb d_9_10_84 (by decide) ?_
        exact b_Scribe_writeVoice_89 X hf hZ10 hS10 (lv_sub hl [2, 3, 4, 6] rfl)
    · replace hf := gneg hf h5
      refine lv_lload hx hb d_9_10_20 (lv_at hl 1 rfl) ?_
      refine lv_aload_n hx hb d_9_10_22 rfl (lv_at hl 3 rfl) ?_
      obtain ⟨g15, hf⟩ := gif hf
      refine zget (ci := 7) (C := RX7) (T := TX7) (v := va_rf (zrf ad 8 (F 7 l0 0))) (k := 0) hx hb hts inW_7 hown hK hZ g15.1 g15.2 rfl (by decide) k_2_98 rfl d_9_10_23 ?_
      obtain ⟨g16, hf⟩ := gif hf
      refine zunrf g16.1 ?_
      refine zget (ci := 8) (C := RX8) (T := TX8) (v := .ref (ad 8 (F 7 l0 0) (1 + 1))) (k := 1) hx hb hts inW_8 hown hK hZ g16.1 g16.2 rfl (by decide) k_7_221 rfl d_9_10_26 ?_
      refine lv_iconst (v := iI 2) hx hb d_9_10_29 rfl ?_
      refine zaldQ (t := 1) (ci := 8) (k := 1) hx hb hK rfl hZ g16.1 g16.2 rfl (Nat.le_of_ble_eq_true rfl) (by decide) (by decide) d_9_10_30 ?_
      refine W.eq (g2 := F0 m 31 ls [.ref (ad 8 (F 7 l0 0) (222 + 1)), .long (lI l5)]) rfl ?_
      refine lv_iload hx hb d_9_10_31 (lv_at hl 0 rfl) ?_
      obtain ⟨g17, hf⟩ := gif hf
      refine zlald (ci := 8) (k := 222) hx hb hK rfl hZ g16.1 g16.2 rfl (Nat.le_of_ble_eq_true rfl) g17.1 g17.2 d_9_10_33 ?_
      refine zladd hx hb d_9_10_34 ?_
      refine lv_lstore (lv' := [(5, .long (lI (l5 + (B 8 (F 7 l0 0) 222 l7)))), (7, .int (iI l7)), (4, .int (iI l4)), (0, .ref (ad 7 l0 0)), (1, .int (iI l1)), (2, .int (iI l2)), (3, .int (iI l3))]) hx hb d_9_10_35 hl (by decide) rfl (fun ls hl => ?_)
      refine lv_iinc (v := iI (l7 + 1)) (lv' := [(7, .int (iI (l7 + 1))), (5, .long (lI (l5 + (B 8 (F 7 l0 0) 222 l7)))), (4, .int (iI l4)), (0, .ref (ad 7 l0 0)), (1, .int (iI l1)), (2, .int (iI l2)), (3, .int (iI l3))]) hx hb d_9_10_37 hl (k := 1) rfl (iI_add _ 1) (by decide) rfl (fun ls hl => ?_)
      refine lv_goto (tgt := 13) hx hb d_9_10_40 (by decide) ?_
      exact ih hf hZ hS (lv_sub hl [0, 1, 2, 3, 4, 5, 6] rfl)

noncomputable def f_Scribe_writeVoice (K : zK) (l0 : Int) (l1 : Int) (l2 : Int) (l3 : Int) (F : zF) (B : zB) : zO := if 0 ≤ l0 ∧ l0 < K.2 7 then zbind (f_Scribe_trackEnd K l0 l1 F B) (fun r2 F2 B2 => f_Scribe_writeVoice_13 K K.1 l1 0 r2 l0 l1 l2 l3 F2 B2) else none
set_option maxHeartbeats 4000000 in
set_option maxRecDepth 100000 in
theorem c_Scribe_writeVoice {l : Launch} {D : va_G} {ca : Nat → ClassId} {ad : Nat → Int → Nat → Nat} {L : List Nat} {aS vS : Nat → Nat} {sz : Nat} {K : zK}  {l0 : Int} {l1 : Int} {l2 : Int} {l3 : Int} {F F9 : zF} {B B9 : zB} {r : Int} (hf : f_Scribe_writeVoice K l0 l1 l2 l3 F B = some (r, F9, B9)) : Met l ({ cls := "StaveHouse$Scribe", name := "writeVoice", desc := "(III)V" } : Jvm.MethodName) (Cond.code ({ cls := "StaveHouse$Scribe", name := "writeVoice", desc := "(III)V" } : Jvm.MethodName) prog_9_method_10_code 11 (Option.none : Option Jvm.ClassFile.FieldType) :: wAll) ({ frames := 8, cells := 0, slots := 0, locals := 179 } : Room) (va_Pc [.ref (ad 7 l0 0), .int (iI l1), .int (iI l2), .int (iI l3)] (zPre D ca ad lnC K.2 L aS vS F B sz)) (Q_Scribe_writeVoice K D ca ad L r F9 B9 (zA L sz)) 0 0 (zA L sz) := by
  refine zMet (Qc := Q_Scribe_writeVoice K D ca ad L r F9 B9) (lv := [(0, .ref (ad 7 l0 0)), (1, .int (iI l1)), (2, .int (iI l2)), (3, .int (iI l3))]) (by decide) (Nat.le_of_ble_eq_true rfl) rfl (fun A p e s m below meth c ls X hZ hS hl => ?_)
  obtain ⟨hx, hb, hr, hml, hown, hts, hlk, hK, hA, hL, hX⟩ := id X
  replace hf : (if 0 ≤ l0 ∧ l0 < K.2 7 then zbind (f_Scribe_trackEnd K l0 l1 F B) (fun r2 F2 B2 => f_Scribe_writeVoice_13 K K.1 l1 0 r2 l0 l1 l2 l3 F2 B2) else none) = some (r, F9, B9) := hf
  refine lv_aload_n hx hb d_9_10_0 rfl (lv_at hl 0 rfl) ?_
  refine lv_iload_n hx hb d_9_10_1 rfl (lv_at hl 1 rfl) ?_
  obtain ⟨g1, hf⟩ := gif hf
  obtain ⟨r2, F2, B2, hc2, hf⟩ := gbind hf
  refine va_calli (va_runV (As := [.int (iI l1)]) (rest := []) ⟨hx, hb, hml, hown, hts⟩ (c_Scribe_trackEnd (l := l) hc2) (cwV 1 hts (gdV k_8_148 k_8_150 ks_112 k_1_7 k_8_151) rfl rfl rfl (by decide +kernel) ⟨Nat.le_of_ble_eq_true rfl, Nat.le_of_ble_eq_true rfl⟩) (zPV X hZ hS (ci := 7) g1.1 g1.2 (r := (RX7, TX7, 9)) rfl [.int (iI l1)]) rfl rfl hl.1 rfl (lv_room (Nat.le_of_ble_eq_true rfl)) d_9_10_2 ⟨Nat.le_of_ble_eq_true rfl, Nat.le_of_ble_eq_true rfl⟩) hS (fun q _ h => zAin X hS q h) (zAin X hS) (fun p2 u2 t2 H2 locs2 ht2 hv2 hw2 hB2 hz2 hk2 hS2 => ?_)
  have hZ2 := zBack X ht2 hB2
  subst hw2
  refine lv_istore (lv' := [(4, .int (iI r2)), (0, .ref (ad 7 l0 0)), (1, .int (iI l1)), (2, .int (iI l2)), (3, .int (iI l3))]) hx hb d_9_10_5 hl (by decide) rfl (fun ls hl => ?_)
  refine lv_lconst (v := lI 0) hx hb d_9_10_7 (by decide) ?_
  refine lv_lstore (lv' := [(5, .long (lI 0)), (4, .int (iI r2)), (0, .ref (ad 7 l0 0)), (1, .int (iI l1)), (2, .int (iI l2)), (3, .int (iI l3))]) hx hb d_9_10_8 hl (by decide) rfl (fun ls hl => ?_)
  refine lv_iload_n hx hb d_9_10_10 rfl (lv_at hl 3 rfl) ?_
  refine lv_istore (lv' := [(7, .int (iI l1)), (5, .long (lI 0)), (4, .int (iI r2)), (0, .ref (ad 7 l0 0)), (1, .int (iI l1)), (2, .int (iI l2)), (3, .int (iI l3))]) hx hb d_9_10_11 hl (by decide) rfl (fun ls hl => ?_)
  exact b_Scribe_writeVoice_13 X hf hZ2 hS2 (lv_sub hl [0, 1, 2, 3, 4, 5, 6] rfl)


