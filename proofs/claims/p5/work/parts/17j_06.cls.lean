set_option maxHeartbeats 4000000 in
set_option maxRecDepth 100000 in
theorem b_Performance_writeVoice_56 {D : va_G} {ca : Nat → ClassId} {ad : Nat → Int → Nat → Nat} {L : List Nat} {aS vS : Nat → Nat} {A : Nat → Prop} {p : Program} {l : Launch} {e : Env} {s : State} {m : MethodId} {args : Array Value} {below : List Frame} {meth : Method} {c : Code} {K : zK} {r : Int} {F9 : zF} {B9 : zB} (X : zX D ca L aS vS A p s m args meth c prog_7_method_22_code 7 (Option.none : Option Jvm.ClassFile.FieldType) "StaveHouse$Performance") : ∀ {n : Nat} {l6 : Int} {l4 : Int} {l0 : Int} {l1 : Int} {l2 : Int} {l3 : Int} {F : zF} {B : zB} {H : Heap} {locs : List Loc} {ls : Array Slot}, f_Performance_writeVoice_56 K n l6 l4 l0 l1 l2 l3 F B = some (r, F9, B9) → zH D ca ad lnC K.2 L F B A H → va_S A s.heap H locs → lv_has ls 7 [(6, .int (iI l6)), (4, .int (iI l4)), (0, .ref (ad 5 l0 0)), (1, .ref (ad 4 l1 0)), (2, .int (iI l2)), (3, .ref (ad 0 l3 0))] → W p l e ({ frames := 6, cells := 0, slots := 0, locals := 127 } : Room) s m args below meth c H locs 0 0 (MQ below (Q_Performance_writeVoice K D ca ad L r F9 B9 A) args s 0 0 A) (F0 m 56 ls []) := by
  obtain ⟨hx, hb, hr, hml, hown, hts, hlk, hK, hA, hL, hX⟩ := id X
  intro n
  induction n with
  | zero =>
    intros
    rename_i hf _ _ _
    cases hf
  | succ n ih =>
    intro l6 l4 l0 l1 l2 l3 F B H locs ls hf hZ hS hl
    replace hf : (if r32 l6 then (if l6 < 0 then if 0 ≤ l3 ∧ l3 < K.2 0 then zbind (f_ByteRow_put K l3 0 F B) (fun r11 F11 B11 => zbind (f_ByteRow_put K l3 (192 + l2) F11 B11) (fun r12 F12 B12 => if 0 ≤ l1 ∧ l1 < K.2 4 then zbind (f_ByteRow_put K l3 (F12 4 l1 2) F12 B12) (fun r14 F14 B14 => if 0 ≤ l0 ∧ l0 < K.2 5 then zbind (f_Performance_writeStrokes K l0 l2 l3 F14 B14) (fun r16 F16 B16 => zbind (f_Performance_endTrack K l3 l4 F16 B16) (fun r17 F17 B17 => some (0, F17, B17))) else none) else none)) else none else if 0 ≤ l1 ∧ l1 < K.2 4 then if 0 ≤ l3 ∧ l3 < K.2 0 then zbind (f_ByteRow_put K l3 (zlushr (F 4 l1 0) (8 * l6)) F B) (fun r20 F20 B20 => f_Performance_writeVoice_56 K n (l6 - 1) l4 l0 l1 l2 l3 F20 B20) else none else none) else none) = some (r, F9, B9) := hf
    refine lv_iload hx hb d_7_22_56 (lv_at hl 0 rfl) ?_
    obtain ⟨g8, hf⟩ := gif hf
    refine z0lt (tgt := 82) hx hb g8 d_7_22_58 (by decide) (fun h9 => ?_) (fun h9 => ?_)
    · replace hf := gpos hf h9
      refine lv_aload_n hx hb d_7_22_82 rfl (lv_at hl 5 rfl) ?_
      refine lv_iconst (v := iI 0) hx hb d_7_22_83 rfl ?_
      obtain ⟨g10, hf⟩ := gif hf
      obtain ⟨r11, F11, B11, hc11, hf⟩ := gbind hf
      refine va_callv (va_runV (As := [.int (iI 0)]) (rest := []) ⟨hx, hb, hml, hown, hts⟩ (c_ByteRow_put (l := l) hc11) (cwV 1 hts (gdV k_7_168 k_2_171 k_2_172 k_1_2 k_2_173) rfl rfl rfl (by decide +kernel) ⟨Nat.le_of_ble_eq_true rfl, Nat.le_of_ble_eq_true rfl⟩) (zPV X hZ hS (ci := 0) g10.1 g10.2 (r := (RX0, TX0, 3)) rfl [.int (iI 0)]) rfl rfl hl.1 rfl (lv_room (Nat.le_of_ble_eq_true rfl)) d_7_22_84 ⟨Nat.le_of_ble_eq_true rfl, Nat.le_of_ble_eq_true rfl⟩) hS (fun q _ h => zAin X hS q h) (zAin X hS) (fun u11 t11 H11 locs11 ht11 hv11 hw11 hB11 hz11 hk11 hS11 => ?_)
      have hZ11 := zBack X ht11 hB11
      refine lv_aload_n hx hb d_7_22_87 rfl (lv_at hl 5 rfl) ?_
      refine lv_sipush (v := iI 192) hx hb d_7_22_88 (by decide) ?_
      refine lv_iload_n hx hb d_7_22_91 rfl (lv_at hl 4 rfl) ?_
      refine zadd hx hb d_7_22_92 ?_
      obtain ⟨r12, F12, B12, hc12, hf⟩ := gbind hf
      refine va_callv (va_runV (As := [.int (iI (192 + l2))]) (rest := []) ⟨hx, hb, hml, hown, hts⟩ (c_ByteRow_put (l := l) hc12) (cwV 1 hts (gdV k_7_168 k_2_171 k_2_172 k_1_2 k_2_173) rfl rfl rfl (by decide +kernel) ⟨Nat.le_of_ble_eq_true rfl, Nat.le_of_ble_eq_true rfl⟩) (zPV X hZ11 hS11 (ci := 0) g10.1 g10.2 (r := (RX0, TX0, 3)) rfl [.int (iI (192 + l2))]) rfl rfl hl.1 rfl (lv_room (Nat.le_of_ble_eq_true rfl)) d_7_22_93 ⟨Nat.le_of_ble_eq_true rfl, Nat.le_of_ble_eq_true rfl⟩) hS11 (fun q _ h => zAin X hS11 q h) (zAin X hS11) (fun u12 t12 H12 locs12 ht12 hv12 hw12 hB12 hz12 hk12 hS12 => ?_)
      have hZ12 := zBack X ht12 hB12
      refine lv_aload_n hx hb d_7_22_96 rfl (lv_at hl 5 rfl) ?_
      refine lv_aload_n hx hb d_7_22_97 rfl (lv_at hl 3 rfl) ?_
      obtain ⟨g13, hf⟩ := gif hf
      refine zget (ci := 4) (C := RX4) (T := TX4) (v := .int (iI (F12 4 l1 2))) (k := 2) hx hb hts inW_4 hown hK hZ12 g13.1 g13.2 rfl (by decide) k_4_124 rfl d_7_22_98 ?_
      obtain ⟨r14, F14, B14, hc14, hf⟩ := gbind hf
      refine va_callv (va_runV (As := [.int (iI (F12 4 l1 2))]) (rest := []) ⟨hx, hb, hml, hown, hts⟩ (c_ByteRow_put (l := l) hc14) (cwV 1 hts (gdV k_7_168 k_2_171 k_2_172 k_1_2 k_2_173) rfl rfl rfl (by decide +kernel) ⟨Nat.le_of_ble_eq_true rfl, Nat.le_of_ble_eq_true rfl⟩) (zPV X hZ12 hS12 (ci := 0) g10.1 g10.2 (r := (RX0, TX0, 3)) rfl [.int (iI (F12 4 l1 2))]) rfl rfl hl.1 rfl (lv_room (Nat.le_of_ble_eq_true rfl)) d_7_22_101 ⟨Nat.le_of_ble_eq_true rfl, Nat.le_of_ble_eq_true rfl⟩) hS12 (fun q _ h => zAin X hS12 q h) (zAin X hS12) (fun u14 t14 H14 locs14 ht14 hv14 hw14 hB14 hz14 hk14 hS14 => ?_)
      have hZ14 := zBack X ht14 hB14
      refine lv_aload_n hx hb d_7_22_104 rfl (lv_at hl 2 rfl) ?_
      refine lv_iload_n hx hb d_7_22_105 rfl (lv_at hl 4 rfl) ?_
      refine lv_aload_n hx hb d_7_22_106 rfl (lv_at hl 5 rfl) ?_
      obtain ⟨g15, hf⟩ := gif hf
      obtain ⟨r16, F16, B16, hc16, hf⟩ := gbind hf
      refine va_callv (va_runV (As := [.int (iI l2), .ref (ad 0 l3 0)]) (rest := []) ⟨hx, hb, hml, hown, hts⟩ (c_Performance_writeStrokes (l := l) hc16) (cwV 2 hts (gdV k_7_187 k_7_189 ks_91 k_1_20 k_7_190) rfl rfl rfl (by decide +kernel) ⟨Nat.le_of_ble_eq_true rfl, Nat.le_of_ble_eq_true rfl⟩) (zPV X hZ14 hS14 (ci := 5) g15.1 g15.2 (r := (RX5, TX5, 14)) rfl [.int (iI l2), .ref (ad 0 l3 0)]) rfl rfl hl.1 rfl (lv_room (Nat.le_of_ble_eq_true rfl)) d_7_22_107 ⟨Nat.le_of_ble_eq_true rfl, Nat.le_of_ble_eq_true rfl⟩) hS14 (fun q _ h => zAin X hS14 q h) (zAin X hS14) (fun u16 t16 H16 locs16 ht16 hv16 hw16 hB16 hz16 hk16 hS16 => ?_)
      have hZ16 := zBack X ht16 hB16
      refine lv_aload_n hx hb d_7_22_110 rfl (lv_at hl 5 rfl) ?_
      refine lv_iload hx hb d_7_22_111 (lv_at hl 1 rfl) ?_
      obtain ⟨r17, F17, B17, hc17, hf⟩ := gbind hf
      refine va_callv (va_runS (As := [.ref (ad 0 l3 0), .int (iI l4)]) (rest := []) ⟨hx, hb, hml, hown, hts⟩ (c_Performance_endTrack (l := l) hc17) (va_cwS 2 hts (gdS k_7_176 k_7_177 k_1_20 k_7_178) rfl rfl rfl (by decide +kernel) ⟨Nat.le_of_ble_eq_true rfl, Nat.le_of_ble_eq_true rfl⟩) (zPS X hZ16 hS16 [.ref (ad 0 l3 0), .int (iI l4)]) rfl rfl hl.1 rfl (lv_room (Nat.le_of_ble_eq_true rfl)) d_7_22_113 ⟨Nat.le_of_ble_eq_true rfl, Nat.le_of_ble_eq_true rfl⟩) hS16 (fun q _ h => zAin X hS16 q h) (zAin X hS16) (fun u17 t17 H17 locs17 ht17 hv17 hw17 hB17 hz17 hk17 hS17 => ?_)
      have hZ17 := zBack X ht17 hB17
      cases hf
      exact W.vret hx hb hr (fun t ht hW => ⟨⟨(), rfl, trivial, by rw [ht]; exact hZ17, va_K.moved hW.alike hK⟩, hS17.F ht⟩) hS17.2.2 d_7_22_116 hlk
    · replace hf := gneg hf h9
      refine lv_aload_n hx hb d_7_22_61 rfl (lv_at hl 5 rfl) ?_
      refine lv_aload_n hx hb d_7_22_62 rfl (lv_at hl 3 rfl) ?_
      obtain ⟨g18, hf⟩ := gif hf
      refine zget (ci := 4) (C := RX4) (T := TX4) (v := .long (lI (F 4 l1 0))) (k := 0) hx hb hts inW_4 hown hK hZ g18.1 g18.2 rfl (by decide) k_4_118 rfl d_7_22_63 ?_
      refine lv_bipush (v := iI 8) hx hb d_7_22_66 (by decide) ?_
      refine lv_iload hx hb d_7_22_68 (lv_at hl 0 rfl) ?_
      refine zmul hx hb d_7_22_70 ?_
      refine zlushr_r hx hb d_7_22_71 ?_
      refine zl2iw hx hb d_7_22_72 ?_
      obtain ⟨g19, hf⟩ := gif hf
      obtain ⟨r20, F20, B20, hc20, hf⟩ := gbind hf
      refine va_callv (va_runV (As := [.int (iI (zlushr (F 4 l1 0) (8 * l6)))]) (rest := []) ⟨hx, hb, hml, hown, hts⟩ (c_ByteRow_put (l := l) hc20) (cwV 1 hts (gdV k_7_168 k_2_171 k_2_172 k_1_2 k_2_173) rfl rfl rfl (by decide +kernel) ⟨Nat.le_of_ble_eq_true rfl, Nat.le_of_ble_eq_true rfl⟩) (zPV X hZ hS (ci := 0) g19.1 g19.2 (r := (RX0, TX0, 3)) rfl [.int (iI (zlushr (F 4 l1 0) (8 * l6)))]) rfl rfl hl.1 rfl (lv_room (Nat.le_of_ble_eq_true rfl)) d_7_22_73 ⟨Nat.le_of_ble_eq_true rfl, Nat.le_of_ble_eq_true rfl⟩) hS (fun q _ h => zAin X hS q h) (zAin X hS) (fun u20 t20 H20 locs20 ht20 hv20 hw20 hB20 hz20 hk20 hS20 => ?_)
      have hZ20 := zBack X ht20 hB20
      refine lv_iinc (v := iI (l6 - 1)) (lv' := [(6, .int (iI (l6 - 1))), (4, .int (iI l4)), (0, .ref (ad 5 l0 0)), (1, .ref (ad 4 l1 0)), (2, .int (iI l2)), (3, .ref (ad 0 l3 0))]) hx hb d_7_22_76 hl (k := 0) rfl (by rw [show Int32.ofInt (-1) = iI (-1) from rfl, iI_add]; congr 1) (by decide) rfl (fun ls hl => ?_)
      refine lv_goto (tgt := 56) hx hb d_7_22_79 (by decide) ?_
      exact ih hf hZ20 hS20 (lv_sub hl [0, 1, 2, 3, 4, 5] rfl)

noncomputable def f_Performance_writeVoice_43 (K : zK) (l5 : Int) (l4 : Int) (l0 : Int) (l1 : Int) (l2 : Int) (l3 : Int) (F : zF) (B : zB) : zO := zbind (f_Performance_putMeta K l3 3 l5 F B) (fun r7 F7 B7 => f_Performance_writeVoice_56 K K.1 (l5 - 1) l4 l0 l1 l2 l3 F7 B7)
set_option maxHeartbeats 4000000 in
set_option maxRecDepth 100000 in
theorem b_Performance_writeVoice_43 {D : va_G} {ca : Nat → ClassId} {ad : Nat → Int → Nat → Nat} {L : List Nat} {aS vS : Nat → Nat} {A : Nat → Prop} {p : Program} {l : Launch} {e : Env} {s : State} {m : MethodId} {args : Array Value} {below : List Frame} {meth : Method} {c : Code} {K : zK} {r : Int} {F9 : zF} {B9 : zB} (X : zX D ca L aS vS A p s m args meth c prog_7_method_22_code 7 (Option.none : Option Jvm.ClassFile.FieldType) "StaveHouse$Performance") {l5 : Int} {l4 : Int} {l0 : Int} {l1 : Int} {l2 : Int} {l3 : Int} {F : zF} {B : zB} {H : Heap} {locs : List Loc} {ls : Array Slot} (hf : f_Performance_writeVoice_43 K l5 l4 l0 l1 l2 l3 F B = some (r, F9, B9)) (hZ : zH D ca ad lnC K.2 L F B A H) (hS : va_S A s.heap H locs) (hl : lv_has ls 7 [(5, .int (iI l5)), (4, .int (iI l4)), (0, .ref (ad 5 l0 0)), (1, .ref (ad 4 l1 0)), (2, .int (iI l2)), (3, .ref (ad 0 l3 0))]) : W p l e ({ frames := 6, cells := 0, slots := 0, locals := 127 } : Room) s m args below meth c H locs 0 0 (MQ below (Q_Performance_writeVoice K D ca ad L r F9 B9 A) args s 0 0 A) (F0 m 43 ls []) := by
  obtain ⟨hx, hb, hr, hml, hown, hts, hlk, hK, hA, hL, hX⟩ := id X
  replace hf : (zbind (f_Performance_putMeta K l3 3 l5 F B) (fun r7 F7 B7 => f_Performance_writeVoice_56 K K.1 (l5 - 1) l4 l0 l1 l2 l3 F7 B7)) = some (r, F9, B9) := hf
  refine lv_aload_n hx hb d_7_22_43 rfl (lv_at hl 5 rfl) ?_
  refine lv_iconst (v := iI 3) hx hb d_7_22_44 rfl ?_
  refine lv_iload hx hb d_7_22_45 (lv_at hl 0 rfl) ?_
  obtain ⟨r7, F7, B7, hc7, hf⟩ := gbind hf
  refine va_callv (va_runS (As := [.ref (ad 0 l3 0), .int (iI 3), .int (iI l5)]) (rest := []) ⟨hx, hb, hml, hown, hts⟩ (c_Performance_putMeta (l := l) hc7) (va_cwS 3 hts (gdS k_7_165 k_7_166 k_1_20 k_7_167) rfl rfl rfl (by decide +kernel) ⟨Nat.le_of_ble_eq_true rfl, Nat.le_of_ble_eq_true rfl⟩) (zPS X hZ hS [.ref (ad 0 l3 0), .int (iI 3), .int (iI l5)]) rfl rfl hl.1 rfl (lv_room (Nat.le_of_ble_eq_true rfl)) d_7_22_47 ⟨Nat.le_of_ble_eq_true rfl, Nat.le_of_ble_eq_true rfl⟩) hS (fun q _ h => zAin X hS q h) (zAin X hS) (fun u7 t7 H7 locs7 ht7 hv7 hw7 hB7 hz7 hk7 hS7 => ?_)
  have hZ7 := zBack X ht7 hB7
  refine lv_iload hx hb d_7_22_50 (lv_at hl 0 rfl) ?_
  refine lv_iconst (v := iI 1) hx hb d_7_22_52 rfl ?_
  refine zsub hx hb d_7_22_53 ?_
  refine lv_istore (lv' := [(6, .int (iI (l5 - 1))), (5, .int (iI l5)), (4, .int (iI l4)), (0, .ref (ad 5 l0 0)), (1, .ref (ad 4 l1 0)), (2, .int (iI l2)), (3, .ref (ad 0 l3 0))]) hx hb d_7_22_54 hl (by decide) rfl (fun ls hl => ?_)
  exact b_Performance_writeVoice_56 X hf hZ7 hS7 (lv_sub hl [0, 2, 3, 4, 5, 6] rfl)

noncomputable def f_Performance_writeVoice_12 (K : zK) : Nat → Int → Int → Int → Int → Int → Int → Int → zF → zB → zO
  | 0, _, _, _, _, _, _, _, _, _ => none
  | n + 1, l6, l5, l4, l0, l1, l2, l3, F, B => if r32 l6 then (if 8 ≤ l6 then f_Performance_writeVoice_43 K l5 l4 l0 l1 l2 l3 F B else if 0 ≤ l1 ∧ l1 < K.2 4 then if r64 (zlushr (F 4 l1 0) (8 * l6)) then (if (zcmp (zlushr (F 4 l1 0) (8 * l6)) 0) = 0 then f_Performance_writeVoice_43 K l5 l4 l0 l1 l2 l3 F B else f_Performance_writeVoice_12 K n (l6 + 1) (l5 + 1) l4 l0 l1 l2 l3 F B) else none else none) else none
set_option maxHeartbeats 4000000 in
set_option maxRecDepth 100000 in
theorem b_Performance_writeVoice_12 {D : va_G} {ca : Nat → ClassId} {ad : Nat → Int → Nat → Nat} {L : List Nat} {aS vS : Nat → Nat} {A : Nat → Prop} {p : Program} {l : Launch} {e : Env} {s : State} {m : MethodId} {args : Array Value} {below : List Frame} {meth : Method} {c : Code} {K : zK} {r : Int} {F9 : zF} {B9 : zB} (X : zX D ca L aS vS A p s m args meth c prog_7_method_22_code 7 (Option.none : Option Jvm.ClassFile.FieldType) "StaveHouse$Performance") : ∀ {n : Nat} {l6 : Int} {l5 : Int} {l4 : Int} {l0 : Int} {l1 : Int} {l2 : Int} {l3 : Int} {F : zF} {B : zB} {H : Heap} {locs : List Loc} {ls : Array Slot}, f_Performance_writeVoice_12 K n l6 l5 l4 l0 l1 l2 l3 F B = some (r, F9, B9) → zH D ca ad lnC K.2 L F B A H → va_S A s.heap H locs → lv_has ls 7 [(6, .int (iI l6)), (5, .int (iI l5)), (4, .int (iI l4)), (0, .ref (ad 5 l0 0)), (1, .ref (ad 4 l1 0)), (2, .int (iI l2)), (3, .ref (ad 0 l3 0))] → W p l e ({ frames := 6, cells := 0, slots := 0, locals := 127 } : Room) s m args below meth c H locs 0 0 (MQ below (Q_Performance_writeVoice K D ca ad L r F9 B9 A) args s 0 0 A) (F0 m 12 ls []) := by
  obtain ⟨hx, hb, hr, hml, hown, hts, hlk, hK, hA, hL, hX⟩ := id X
  intro n
  induction n with
  | zero =>
    intros
    rename_i hf _ _ _
    cases hf
  | succ n ih =>
    intro l6 l5 l4 l0 l1 l2 l3 F B H locs ls hf hZ hS hl
    replace hf : (if r32 l6 then (if 8 ≤ l6 then f_Performance_writeVoice_43 K l5 l4 l0 l1 l2 l3 F B else if 0 ≤ l1 ∧ l1 < K.2 4 then if r64 (zlushr (F 4 l1 0) (8 * l6)) then (if (zcmp (zlushr (F 4 l1 0) (8 * l6)) 0) = 0 then f_Performance_writeVoice_43 K l5 l4 l0 l1 l2 l3 F B else f_Performance_writeVoice_12 K n (l6 + 1) (l5 + 1) l4 l0 l1 l2 l3 F B) else none else none) else none) = some (r, F9, B9) := hf
    refine lv_iload hx hb d_7_22_12 (lv_at hl 0 rfl) ?_
    refine lv_bipush (v := iI 8) hx hb d_7_22_14 (by decide) ?_
    obtain ⟨g2, hf⟩ := gif hf
    refine zge (tgt := 43) hx hb g2 (by decide) d_7_22_16 (by decide) (fun h3 => ?_) (fun h3 => ?_)
    · replace hf := gpos hf h3
      exact b_Performance_writeVoice_43 X hf hZ hS (lv_sub hl [1, 2, 3, 4, 5, 6] rfl)
    · replace hf := gneg hf h3
      refine lv_aload_n hx hb d_7_22_19 rfl (lv_at hl 4 rfl) ?_
      obtain ⟨g4, hf⟩ := gif hf
      refine zget (ci := 4) (C := RX4) (T := TX4) (v := .long (lI (F 4 l1 0))) (k := 0) hx hb hts inW_4 hown hK hZ g4.1 g4.2 rfl (by decide) k_4_118 rfl d_7_22_20 ?_
      refine lv_bipush (v := iI 8) hx hb d_7_22_23 (by decide) ?_
      refine lv_iload hx hb d_7_22_25 (lv_at hl 0 rfl) ?_
      refine zmul hx hb d_7_22_27 ?_
      refine zlushr_r hx hb d_7_22_28 ?_
      refine lv_lconst (v := lI 0) hx hb d_7_22_29 (by decide) ?_
      obtain ⟨g5, hf⟩ := gif hf
      refine zcmp_r hx hb g5 (by decide) d_7_22_30 ?_
      refine z0eq (tgt := 43) hx hb zcmp_32 d_7_22_31 (by decide) (fun h6 => ?_) (fun h6 => ?_)
      · replace hf := gpos hf h6
        exact b_Performance_writeVoice_43 X hf hZ hS (lv_sub hl [1, 2, 3, 4, 5, 6] rfl)
      · replace hf := gneg hf h6
        refine lv_iinc (v := iI (l5 + 1)) (lv' := [(5, .int (iI (l5 + 1))), (6, .int (iI l6)), (4, .int (iI l4)), (0, .ref (ad 5 l0 0)), (1, .ref (ad 4 l1 0)), (2, .int (iI l2)), (3, .ref (ad 0 l3 0))]) hx hb d_7_22_34 hl (k := 1) rfl (iI_add _ 1) (by decide) rfl (fun ls hl => ?_)
        refine lv_iinc (v := iI (l6 + 1)) (lv' := [(6, .int (iI (l6 + 1))), (5, .int (iI (l5 + 1))), (4, .int (iI l4)), (0, .ref (ad 5 l0 0)), (1, .ref (ad 4 l1 0)), (2, .int (iI l2)), (3, .ref (ad 0 l3 0))]) hx hb d_7_22_37 hl (k := 1) rfl (iI_add _ 1) (by decide) rfl (fun ls hl => ?_)
        refine lv_goto (tgt := 12) hx hb d_7_22_40 (by decide) ?_
        exact ih hf hZ hS (lv_sub hl [0, 1, 2, 3, 4, 5, 6] rfl)

noncomputable def f_Performance_writeVoice (K : zK) (l0 : Int) (l1 : Int) (l2 : Int) (l3 : Int) (F : zF) (B : zB) : zO := zbind (f_Performance_beginTrack K l3 F B) (fun r1 F1 B1 => f_Performance_writeVoice_12 K K.1 0 0 r1 l0 l1 l2 l3 F1 B1)
set_option maxHeartbeats 4000000 in
set_option maxRecDepth 100000 in
theorem c_Performance_writeVoice {l : Launch} {D : va_G} {ca : Nat → ClassId} {ad : Nat → Int → Nat → Nat} {L : List Nat} {aS vS : Nat → Nat} {sz : Nat} {K : zK}  {l0 : Int} {l1 : Int} {l2 : Int} {l3 : Int} {F F9 : zF} {B B9 : zB} {r : Int} (hf : f_Performance_writeVoice K l0 l1 l2 l3 F B = some (r, F9, B9)) : Met l ({ cls := "StaveHouse$Performance", name := "writeVoice", desc := "(LStaveHouse$Part;ILStaveHouse$ByteRow;)V" } : Jvm.MethodName) (Cond.code ({ cls := "StaveHouse$Performance", name := "writeVoice", desc := "(LStaveHouse$Part;ILStaveHouse$ByteRow;)V" } : Jvm.MethodName) prog_7_method_22_code 7 (Option.none : Option Jvm.ClassFile.FieldType) :: wAll) ({ frames := 6, cells := 0, slots := 0, locals := 127 } : Room) (va_Pc [.ref (ad 5 l0 0), .ref (ad 4 l1 0), .int (iI l2), .ref (ad 0 l3 0)] (zPre D ca ad lnC K.2 L aS vS F B sz)) (Q_Performance_writeVoice K D ca ad L r F9 B9 (zA L sz)) 0 0 (zA L sz) := by
  refine zMet (Qc := Q_Performance_writeVoice K D ca ad L r F9 B9) (lv := [(0, .ref (ad 5 l0 0)), (1, .ref (ad 4 l1 0)), (2, .int (iI l2)), (3, .ref (ad 0 l3 0))]) (by decide) (Nat.le_of_ble_eq_true rfl) rfl (fun A p e s m below meth c ls X hZ hS hl => ?_)
  obtain ⟨hx, hb, hr, hml, hown, hts, hlk, hK, hA, hL, hX⟩ := id X
  replace hf : (zbind (f_Performance_beginTrack K l3 F B) (fun r1 F1 B1 => f_Performance_writeVoice_12 K K.1 0 0 r1 l0 l1 l2 l3 F1 B1)) = some (r, F9, B9) := hf
  refine lv_aload_n hx hb d_7_22_0 rfl (lv_at hl 3 rfl) ?_
  obtain ⟨r1, F1, B1, hc1, hf⟩ := gbind hf
  refine va_calli (va_runS (As := [.ref (ad 0 l3 0)]) (rest := []) ⟨hx, hb, hml, hown, hts⟩ (c_Performance_beginTrack (l := l) hc1) (va_cwS 1 hts (gdS k_7_161 k_7_162 k_1_20 k_7_163) rfl rfl rfl (by decide +kernel) ⟨Nat.le_of_ble_eq_true rfl, Nat.le_of_ble_eq_true rfl⟩) (zPS X hZ hS [.ref (ad 0 l3 0)]) rfl rfl hl.1 rfl (lv_room (Nat.le_of_ble_eq_true rfl)) d_7_22_1 ⟨Nat.le_of_ble_eq_true rfl, Nat.le_of_ble_eq_true rfl⟩) hS (fun q _ h => zAin X hS q h) (zAin X hS) (fun p1 u1 t1 H1 locs1 ht1 hv1 hw1 hB1 hz1 hk1 hS1 => ?_)
  have hZ1 := zBack X ht1 hB1
  subst hw1
  refine lv_istore (lv' := [(4, .int (iI r1)), (0, .ref (ad 5 l0 0)), (1, .ref (ad 4 l1 0)), (2, .int (iI l2)), (3, .ref (ad 0 l3 0))]) hx hb d_7_22_4 hl (by decide) rfl (fun ls hl => ?_)
  refine lv_iconst (v := iI 0) hx hb d_7_22_6 rfl ?_
  refine lv_istore (lv' := [(5, .int (iI 0)), (4, .int (iI r1)), (0, .ref (ad 5 l0 0)), (1, .ref (ad 4 l1 0)), (2, .int (iI l2)), (3, .ref (ad 0 l3 0))]) hx hb d_7_22_7 hl (by decide) rfl (fun ls hl => ?_)
  refine lv_iconst (v := iI 0) hx hb d_7_22_9 rfl ?_
  refine lv_istore (lv' := [(6, .int (iI 0)), (5, .int (iI 0)), (4, .int (iI r1)), (0, .ref (ad 5 l0 0)), (1, .ref (ad 4 l1 0)), (2, .int (iI l2)), (3, .ref (ad 0 l3 0))]) hx hb d_7_22_10 hl (by decide) rfl (fun ls hl => ?_)
  exact b_Performance_writeVoice_12 X hf hZ1 hS1 (lv_sub hl [0, 1, 2, 3, 4, 5, 6] rfl)

noncomputable abbrev Q_SoundFile_loadHead (K : zK) (D : va_G) (ca : Nat → ClassId) (ad : Nat → Int → Nat → Nat) (L : List Nat) (r : Int) (F : zF) (B : zB) (A : Nat → Prop) : Array Value → State → Outcome → State → Prop := va_Qv (S := Unit) (fun _ => True) (fun _ => zPo D ca ad lnC K.2 L F B A) A
noncomputable def f_SoundFile_loadHead_58 (K : zK) (l3 : Int) (l0 : Int) (F : zF) (B : zB) : zO := if 0 ≤ l0 ∧ l0 < K.2 8 then zbind (f_SoundFile_takeOnly K l0 0 0 F B) (fun r16 F16 B16 => zbind (f_SoundFile_takeOnly K l0 0 1 F16 B16) (fun r17 F17 B17 => zbind (f_SoundFile_takeBounded K l0 2 1 8 F17 B17) (fun r18 F18 B18 => zbind (f_SoundFile_takeBounded K l0 2 1 960 F18 (zup4 B18 8 l0 0 0 r18)) (fun r20 F20 B20 => zbind (f_SoundFile_skip K l0 (l3 - 6) F20 (zup4 B20 8 l0 0 1 r20)) (fun r22 F22 B22 => some (0, F22, B22)))))) else none
set_option maxHeartbeats 4000000 in
set_option maxRecDepth 100000 in
theorem b_SoundFile_loadHead_58 {D : va_G} {ca : Nat → ClassId} {ad : Nat → Int → Nat → Nat} {L : List Nat} {aS vS : Nat → Nat} {A : Nat → Prop} {p : Program} {l : Launch} {e : Env} {s : State} {m : MethodId} {args : Array Value} {below : List Frame} {meth : Method} {c : Code} {K : zK} {r : Int} {F9 : zF} {B9 : zB} (X : zX D ca L aS vS A p s m args meth c prog_10_method_12_code 5 (Option.none : Option Jvm.ClassFile.FieldType) "StaveHouse$SoundFile") {l3 : Int} {l0 : Int} {F : zF} {B : zB} {H : Heap} {locs : List Loc} {ls : Array Slot} (hf : f_SoundFile_loadHead_58 K l3 l0 F B = some (r, F9, B9)) (hZ : zH D ca ad lnC K.2 L F B A H) (hS : va_S A s.heap H locs) (hl : lv_has ls 5 [(3, .long (lI l3)), (0, .ref (ad 8 l0 0))]) : W p l e ({ frames := 4, cells := 0, slots := 0, locals := 94 } : Room) s m args below meth c H locs 0 0 (MQ below (Q_SoundFile_loadHead K D ca ad L r F9 B9 A) args s 0 0 A) (F0 m 58 ls []) := by
  obtain ⟨hx, hb, hr, hml, hown, hts, hlk, hK, hA, hL, hX⟩ := id X
  replace hf : (if 0 ≤ l0 ∧ l0 < K.2 8 then zbind (f_SoundFile_takeOnly K l0 0 0 F B) (fun r16 F16 B16 => zbind (f_SoundFile_takeOnly K l0 0 1 F16 B16) (fun r17 F17 B17 => zbind (f_SoundFile_takeBounded K l0 2 1 8 F17 B17) (fun r18 F18 B18 => zbind (f_SoundFile_takeBounded K l0 2 1 960 F18 (zup4 B18 8 l0 0 0 r18)) (fun r20 F20 B20 => zbind (f_SoundFile_skip K l0 (l3 - 6) F20 (zup4 B20 8 l0 0 1 r20)) (fun r22 F22 B22 => some (0, F22, B22)))))) else none) = some (r, F9, B9) := hf
  refine lv_aload_n hx hb d_10_12_58 rfl (lv_at hl 1 rfl) ?_
  refine lv_iconst (v := iI 0) hx hb d_10_12_59 rfl ?_
  refine lv_iconst (v := iI 0) hx hb d_10_12_60 rfl ?_
  obtain ⟨g15, hf⟩ := gif hf
  obtain ⟨r16, F16, B16, hc16, hf⟩ := gbind hf
  refine va_callv (va_runV (As := [.int (iI 0), .int (iI 0)]) (rest := []) ⟨hx, hb, hml, hown, hts⟩ (c_SoundFile_takeOnly (l := l) hc16) (cwV 2 hts (gdV k_8_45 k_8_47 ks_94 k_1_23 k_8_48) rfl rfl rfl (by decide +kernel) ⟨Nat.le_of_ble_eq_true rfl, Nat.le_of_ble_eq_true rfl⟩) (zPV X hZ hS (ci := 8) g15.1 g15.2 (r := (RX8, TX8, 15)) rfl [.int (iI 0), .int (iI 0)]) rfl rfl hl.1 rfl (lv_room (Nat.le_of_ble_eq_true rfl)) d_10_12_61 ⟨Nat.le_of_ble_eq_true rfl, Nat.le_of_ble_eq_true rfl⟩) hS (fun q _ h => zAin X hS q h) (zAin X hS) (fun u16 t16 H16 locs16 ht16 hv16 hw16 hB16 hz16 hk16 hS16 => ?_)
  have hZ16 := zBack X ht16 hB16
  refine lv_aload_n hx hb d_10_12_64 rfl (lv_at hl 1 rfl) ?_
  refine lv_iconst (v := iI 0) hx hb d_10_12_65 rfl ?_
  refine lv_iconst (v := iI 1) hx hb d_10_12_66 rfl ?_
  obtain ⟨r17, F17, B17, hc17, hf⟩ := gbind hf
  refine va_callv (va_runV (As := [.int (iI 0), .int (iI 1)]) (rest := []) ⟨hx, hb, hml, hown, hts⟩ (c_SoundFile_takeOnly (l := l) hc17) (cwV 2 hts (gdV k_8_45 k_8_47 ks_94 k_1_23 k_8_48) rfl rfl rfl (by decide +kernel) ⟨Nat.le_of_ble_eq_true rfl, Nat.le_of_ble_eq_true rfl⟩) (zPV X hZ16 hS16 (ci := 8) g15.1 g15.2 (r := (RX8, TX8, 15)) rfl [.int (iI 0), .int (iI 1)]) rfl rfl hl.1 rfl (lv_room (Nat.le_of_ble_eq_true rfl)) d_10_12_67 ⟨Nat.le_of_ble_eq_true rfl, Nat.le_of_ble_eq_true rfl⟩) hS16 (fun q _ h => zAin X hS16 q h) (zAin X hS16) (fun u17 t17 H17 locs17 ht17 hv17 hw17 hB17 hz17 hk17 hS17 => ?_)
  have hZ17 := zBack X ht17 hB17
  refine lv_aload_n hx hb d_10_12_70 rfl (lv_at hl 1 rfl) ?_
  refine zget (ci := 8) (C := RX8) (T := TX8) (v := .ref (ad 8 l0 (0 + 1))) (k := 0) hx hb hts inW_8 hown hK hZ17 g15.1 g15.2 rfl (by decide) k_7_217 rfl d_10_12_71 ?_
  refine lv_iconst (v := iI 0) hx hb d_10_12_74 rfl ?_
  refine lv_aload_n hx hb d_10_12_75 rfl (lv_at hl 1 rfl) ?_
  refine lv_iconst (v := iI 2) hx hb d_10_12_76 rfl ?_
  refine lv_lconst (v := lI 1) hx hb d_10_12_77 (by decide) ?_
  refine lv_ldc2 hx hb hown (hts _ k_8_64) d_10_12_78 ?_
  refine W.eq (g2 := F0 m 81 ls [.long (lI 8), .long (lI 1), .int (iI 2), .ref (ad 8 l0 0), .int (iI 0), .ref (ad 8 l0 (0 + 1))]) rfl ?_
  obtain ⟨r18, F18, B18, hc18, hf⟩ := gbind hf
  refine va_calli (va_runV (As := [.int (iI 2), .long (lI 1), .long (lI 8)]) (rest := [.int (iI 0), .ref (ad 8 l0 (0 + 1))]) ⟨hx, hb, hml, hown, hts⟩ (c_SoundFile_takeBounded (l := l) hc18) (cwV 3 hts (gdV k_8_65 k_8_67 ks_98 k_1_23 k_8_68) rfl rfl rfl (by decide +kernel) ⟨Nat.le_of_ble_eq_true rfl, Nat.le_of_ble_eq_true rfl⟩) (zPV X hZ17 hS17 (ci := 8) g15.1 g15.2 (r := (RX8, TX8, 15)) rfl [.int (iI 2), .long (lI 1), .long (lI 8)]) rfl rfl hl.1 rfl (lv_room (Nat.le_of_ble_eq_true rfl)) d_10_12_81 ⟨Nat.le_of_ble_eq_true rfl, Nat.le_of_ble_eq_true rfl⟩) hS17 (fun q _ h => zAin X hS17 q h) (zAin X hS17) (fun p18 u18 t18 H18 locs18 ht18 hv18 hw18 hB18 hz18 hk18 hS18 => ?_)
  have hZ18 := zBack X ht18 hB18
  subst hw18
  refine zast (ci := 8) (k := 0) hx hb hK rfl hZ18 hS18 g15.1 g15.2 rfl (Nat.le_of_ble_eq_true rfl) (by decide) (show (0 : Int) < 7 by decide) d_10_12_84 (fun H19 locs19 hZ19 hS19 => ?_)
  refine lv_aload_n hx hb d_10_12_85 rfl (lv_at hl 1 rfl) ?_
  refine zget (ci := 8) (C := RX8) (T := TX8) (v := .ref (ad 8 l0 (0 + 1))) (k := 0) hx hb hts inW_8 hown hK hZ19 g15.1 g15.2 rfl (by decide) k_7_217 rfl d_10_12_86 ?_
  refine lv_iconst (v := iI 1) hx hb d_10_12_89 rfl ?_
  refine lv_aload_n hx hb d_10_12_90 rfl (lv_at hl 1 rfl) ?_
  refine lv_iconst (v := iI 2) hx hb d_10_12_91 rfl ?_
  refine lv_lconst (v := lI 1) hx hb d_10_12_92 (by decide) ?_
  refine lv_ldc2 hx hb hown (hts _ k_8_69) d_10_12_93 ?_
  refine W.eq (g2 := F0 m 96 ls [.long (lI 960), .long (lI 1), .int (iI 2), .ref (ad 8 l0 0), .int (iI 1), .ref (ad 8 l0 (0 + 1))]) rfl ?_
  obtain ⟨r20, F20, B20, hc20, hf⟩ := gbind hf
  refine va_calli (va_runV (As := [.int (iI 2), .long (lI 1), .long (lI 960)]) (rest := [.int (iI 1), .ref (ad 8 l0 (0 + 1))]) ⟨hx, hb, hml, hown, hts⟩ (c_SoundFile_takeBounded (l := l) hc20) (cwV 3 hts (gdV k_8_65 k_8_67 ks_98 k_1_23 k_8_68) rfl rfl rfl (by decide +kernel) ⟨Nat.le_of_ble_eq_true rfl, Nat.le_of_ble_eq_true rfl⟩) (zPV X hZ19 hS19 (ci := 8) g15.1 g15.2 (r := (RX8, TX8, 15)) rfl [.int (iI 2), .long (lI 1), .long (lI 960)]) rfl rfl hl.1 rfl (lv_room (Nat.le_of_ble_eq_true rfl)) d_10_12_96 ⟨Nat.le_of_ble_eq_true rfl, Nat.le_of_ble_eq_true rfl⟩) hS19 (fun q _ h => zAin X hS19 q h) (zAin X hS19) (fun p20 u20 t20 H20 locs20 ht20 hv20 hw20 hB20 hz20 hk20 hS20 => ?_)
  have hZ20 := zBack X ht20 hB20
  subst hw20
  refine zast (ci := 8) (k := 0) hx hb hK rfl hZ20 hS20 g15.1 g15.2 rfl (Nat.le_of_ble_eq_true rfl) (by decide) (show (1 : Int) < 7 by decide) d_10_12_99 (fun H21 locs21 hZ21 hS21 => ?_)
  refine lv_aload_n hx hb d_10_12_100 rfl (lv_at hl 1 rfl) ?_
  refine lv_lload_n hx hb d_10_12_101 rfl (lv_at hl 0 rfl) ?_
  refine lv_ldc2 hx hb hown (hts _ k_8_63) d_10_12_102 ?_
  refine W.eq (g2 := F0 m 105 ls [.long (lI 6), .long (lI l3), .ref (ad 8 l0 0)]) rfl ?_
  refine zlsub hx hb d_10_12_105 ?_
  obtain ⟨r22, F22, B22, hc22, hf⟩ := gbind hf
  refine va_callv (va_runV (As := [.long (lI (l3 - 6))]) (rest := []) ⟨hx, hb, hml, hown, hts⟩ (c_SoundFile_skip (l := l) hc22) (cwV 1 hts (gdV k_8_70 k_8_72 ks_99 k_1_23 k_8_73) rfl rfl rfl (by decide +kernel) ⟨Nat.le_of_ble_eq_true rfl, Nat.le_of_ble_eq_true rfl⟩) (zPV X hZ21 hS21 (ci := 8) g15.1 g15.2 (r := (RX8, TX8, 15)) rfl [.long (lI (l3 - 6))]) rfl rfl hl.1 rfl (lv_room (Nat.le_of_ble_eq_true rfl)) d_10_12_106 ⟨Nat.le_of_ble_eq_true rfl, Nat.le_of_ble_eq_true rfl⟩) hS21 (fun q _ h => zAin X hS21 q h) (zAin X hS21) (fun u22 t22 H22 locs22 ht22 hv22 hw22 hB22 hz22 hk22 hS22 => ?_)
  have hZ22 := zBack X ht22 hB22
  cases hf
  exact W.vret hx hb hr (fun t ht hW => ⟨⟨(), rfl, trivial, by rw [ht]; exact hZ22, va_K.moved hW.alike hK⟩, hS22.F ht⟩) hS22.2.2 d_10_12_109 hlk

noncomputable def f_SoundFile_loadHead_5 (K : zK) : Nat → Int → Nat → Int → zF → zB → zO
  | 0, _, _, _, _, _ => none
  | n + 1, l2, l1, l0, F, B => if l1 < strL.length then zbind (f_CString_length K l1 F B) (fun r2 F2 B2 => if r32 l2 then if r32 r2 then (if r2 ≤ l2 then if 0 ≤ l0 ∧ l0 < K.2 8 then zbind (f_SoundFile_takeWide K l0 4 F2 B2) (fun r7 F7 B7 => if r64 r7 then (if 0 ≤ (zcmp r7 6) then f_SoundFile_loadHead_58 K r7 l0 F7 B7 else zbind (f_SoundFile_refuse K l0 3 (F2 8 l0 5) F7 B7) (fun r10 F10 B10 => f_SoundFile_loadHead_58 K r7 l0 F10 B10)) else none) else none else zbind (f_CString_charAt K l1 l2 F2 B2) (fun r11 F11 B11 => zbind (f_CString_charAt K l1 l2 F11 B11) (fun r12 F12 B12 => if 0 ≤ l0 ∧ l0 < K.2 8 then zbind (f_SoundFile_takeOnly K l0 r11 r12 F12 B12) (fun r14 F14 B14 => f_SoundFile_loadHead_5 K n (l2 + 1) l1 l0 F14 B14) else none))) else none else none) else none
set_option maxHeartbeats 4000000 in
set_option maxRecDepth 100000 in
theorem b_SoundFile_loadHead_5 {D : va_G} {ca : Nat → ClassId} {ad : Nat → Int → Nat → Nat} {L : List Nat} {aS vS : Nat → Nat} {A : Nat → Prop} {p : Program} {l : Launch} {e : Env} {s : State} {m : MethodId} {args : Array Value} {below : List Frame} {meth : Method} {c : Code} {K : zK} {r : Int} {F9 : zF} {B9 : zB} (X : zX D ca L aS vS A p s m args meth c prog_10_method_12_code 5 (Option.none : Option Jvm.ClassFile.FieldType) "StaveHouse$SoundFile") : ∀ {n : Nat} {l2 : Int} {l1 : Nat} {l0 : Int} {F : zF} {B : zB} {H : Heap} {locs : List Loc} {ls : Array Slot}, f_SoundFile_loadHead_5 K n l2 l1 l0 F B = some (r, F9, B9) → zH D ca ad lnC K.2 L F B A H → va_S A s.heap H locs → lv_has ls 5 [(2, .int (iI l2)), (1, .ref (aS l1)), (0, .ref (ad 8 l0 0))] → W p l e ({ frames := 4, cells := 0, slots := 0, locals := 94 } : Room) s m args below meth c H locs 0 0 (MQ below (Q_SoundFile_loadHead K D ca ad L r F9 B9 A) args s 0 0 A) (F0 m 5 ls []) := by
  obtain ⟨hx, hb, hr, hml, hown, hts, hlk, hK, hA, hL, hX⟩ := id X
  intro n
  induction n with
  | zero =>
    intros
    rename_i hf _ _ _
    cases hf
  | succ n ih =>
    intro l2 l1 l0 F B H locs ls hf hZ hS hl
    replace hf : (if l1 < strL.length then zbind (f_CString_length K l1 F B) (fun r2 F2 B2 => if r32 l2 then if r32 r2 then (if r2 ≤ l2 then if 0 ≤ l0 ∧ l0 < K.2 8 then zbind (f_SoundFile_takeWide K l0 4 F2 B2) (fun r7 F7 B7 => if r64 r7 then (if 0 ≤ (zcmp r7 6) then f_SoundFile_loadHead_58 K r7 l0 F7 B7 else zbind (f_SoundFile_refuse K l0 3 (F2 8 l0 5) F7 B7) (fun r10 F10 B10 => f_SoundFile_loadHead_58 K r7 l0 F10 B10)) else none) else none else zbind (f_CString_charAt K l1 l2 F2 B2) (fun r11 F11 B11 => zbind (f_CString_charAt K l1 l2 F11 B11) (fun r12 F12 B12 => if 0 ≤ l0 ∧ l0 < K.2 8 then zbind (f_SoundFile_takeOnly K l0 r11 r12 F12 B12) (fun r14 F14 B14 => f_SoundFile_loadHead_5 K n (l2 + 1) l1 l0 F14 B14) else none))) else none else none) else none) = some (r, F9, B9) := hf
    refine lv_iload_n hx hb d_10_12_5 rfl (lv_at hl 0 rfl) ?_
    refine lv_aload_n hx hb d_10_12_6 rfl (lv_at hl 1 rfl) ?_
    obtain ⟨g1, hf⟩ := gif hf
    obtain ⟨r2, F2, B2, hc2, hf⟩ := gbind hf
    refine va_calli (va_runV (As := []) (rest := [.int (iI l2)]) ⟨hx, hb, hml, hown, hts⟩ (c_CString_length (l := l) hc2) (cwV 0 hts (gdV k_8_43 k_3_82 k_3_83 k_1_11 k_3_84) rfl rfl rfl (by decide +kernel) ⟨Nat.le_of_ble_eq_true rfl, Nat.le_of_ble_eq_true rfl⟩) ⟨zBlind, zsrecv hX g1 hS, zAt X hZ hS [.ref (aS l1)]⟩ rfl rfl hl.1 rfl (lv_room (Nat.le_of_ble_eq_true rfl)) d_10_12_7 ⟨Nat.le_of_ble_eq_true rfl, Nat.le_of_ble_eq_true rfl⟩) hS (fun q _ h => zAin X hS q h) (zAin X hS) (fun p2 u2 t2 H2 locs2 ht2 hv2 hw2 hB2 hz2 hk2 hS2 => ?_)
    have hZ2 := zBack X ht2 hB2
    subst hw2
    obtain ⟨g3, hf⟩ := gif hf
    obtain ⟨g4, hf⟩ := gif hf
    refine zge (tgt := 33) hx hb g3 g4 d_10_12_10 (by decide) (fun h5 => ?_) (fun h5 => ?_)
    · replace hf := gpos hf h5
      refine lv_aload_n hx hb d_10_12_33 rfl (lv_at hl 2 rfl) ?_
      obtain ⟨g6, hf⟩ := gif hf
      refine zget (ci := 8) (C := RX8) (T := TX8) (v := .int (iI (F2 8 l0 5))) (k := 5) hx hb hts inW_8 hown hK hZ2 g6.1 g6.2 rfl (by decide) k_7_229 rfl d_10_12_34 ?_
      refine lv_istore_n (lv' := [(2, .int (iI (F2 8 l0 5))), (1, .ref (aS l1)), (0, .ref (ad 8 l0 0))]) hx hb d_10_12_37 rfl hl (by decide) rfl (fun ls hl => ?_)
      refine lv_aload_n hx hb d_10_12_38 rfl (lv_at hl 2 rfl) ?_
      refine lv_iconst (v := iI 4) hx hb d_10_12_39 rfl ?_
      obtain ⟨r7, F7, B7, hc7, hf⟩ := gbind hf
      refine va_calll (va_runV (As := [.int (iI 4)]) (rest := []) ⟨hx, hb, hml, hown, hts⟩ (c_SoundFile_takeWide (l := l) hc7) (cwV 1 hts (gdV k_8_58 k_8_60 ks_97 k_1_23 k_8_61) rfl rfl rfl (by decide +kernel) ⟨Nat.le_of_ble_eq_true rfl, Nat.le_of_ble_eq_true rfl⟩) (zPV X hZ2 hS2 (ci := 8) g6.1 g6.2 (r := (RX8, TX8, 15)) rfl [.int (iI 4)]) rfl rfl hl.1 rfl (lv_room (Nat.le_of_ble_eq_true rfl)) d_10_12_40 ⟨Nat.le_of_ble_eq_true rfl, Nat.le_of_ble_eq_true rfl⟩) hS2 (fun q _ h => zAin X hS2 q h) (zAin X hS2) (fun p7 u7 t7 H7 locs7 ht7 hv7 hw7 hB7 hz7 hk7 hS7 => ?_)
      have hZ7 := zBack X ht7 hB7
      subst hw7
      refine lv_lstore_n (lv' := [(3, .long (lI r7)), (2, .int (iI (F2 8 l0 5))), (1, .ref (aS l1)), (0, .ref (ad 8 l0 0))]) hx hb d_10_12_43 rfl hl (by decide) rfl (fun ls hl => ?_)
      refine lv_lload_n hx hb d_10_12_44 rfl (lv_at hl 0 rfl) ?_
      refine lv_ldc2 hx hb hown (hts _ k_8_63) d_10_12_45 ?_
      refine W.eq (g2 := F0 m 48 ls [.long (lI 6), .long (lI r7)]) rfl ?_
      obtain ⟨g8, hf⟩ := gif hf
      refine zcmp_r hx hb g8 (by decide) d_10_12_48 ?_
      refine z0ge (tgt := 58) hx hb zcmp_32 d_10_12_49 (by decide) (fun h9 => ?_) (fun h9 => ?_)
      · replace hf := gpos hf h9
        exact b_SoundFile_loadHead_58 X hf hZ7 hS7 (lv_sub hl [0, 3] rfl)
      · replace hf := gneg hf h9
        refine lv_aload_n hx hb d_10_12_52 rfl (lv_at hl 3 rfl) ?_
        refine lv_iconst (v := iI 3) hx hb d_10_12_53 rfl ?_
        refine lv_iload_n hx hb d_10_12_54 rfl (lv_at hl 1 rfl) ?_
        obtain ⟨r10, F10, B10, hc10, hf⟩ := gbind hf
        refine va_callv (va_runV (As := [.int (iI 3), .int (iI (F2 8 l0 5))]) (rest := []) ⟨hx, hb, hml, hown, hts⟩ (c_SoundFile_refuse (l := l) hc10) (cwV 2 hts (gdV k_8_53 k_8_55 ks_96 k_1_23 k_8_56) rfl rfl rfl (by decide +kernel) ⟨Nat.le_of_ble_eq_true rfl, Nat.le_of_ble_eq_true rfl⟩) (zPV X hZ7 hS7 (ci := 8) g6.1 g6.2 (r := (RX8, TX8, 15)) rfl [.int (iI 3), .int (iI (F2 8 l0 5))]) rfl rfl hl.1 rfl (lv_room (Nat.le_of_ble_eq_true rfl)) d_10_12_55 ⟨Nat.le_of_ble_eq_true rfl, Nat.le_of_ble_eq_true rfl⟩) hS7 (fun q _ h => zAin X hS7 q h) (zAin X hS7) (fun u10 t10 H10 locs10 ht10 hv10 hw10 hB10 hz10 hk10 hS10 => ?_)
        have hZ10 := zBack X ht10 hB10
        exact b_SoundFile_loadHead_58 X hf hZ10 hS10 (lv_sub hl [0, 3] rfl)
    · replace hf := gneg hf h5
      refine lv_aload_n hx hb d_10_12_13 rfl (lv_at hl 2 rfl) ?_
      refine lv_aload_n hx hb d_10_12_14 rfl (lv_at hl 1 rfl) ?_
      refine lv_iload_n hx hb d_10_12_15 rfl (lv_at hl 0 rfl) ?_
      obtain ⟨r11, F11, B11, hc11, hf⟩ := gbind hf
      refine va_calli (va_runV (As := [.int (iI l2)]) (rest := [.ref (ad 8 l0 0)]) ⟨hx, hb, hml, hown, hts⟩ (c_CString_charAt (l := l) hc11) (cwV 1 hts (gdV k_8_44 k_7_134 k_7_135 k_1_11 k_7_136) rfl rfl rfl (by decide +kernel) ⟨Nat.le_of_ble_eq_true rfl, Nat.le_of_ble_eq_true rfl⟩) ⟨zBlind, zsrecv hX g1 hS2, zAt X hZ2 hS2 [.ref (aS l1), .int (iI l2)]⟩ rfl rfl hl.1 rfl (lv_room (Nat.le_of_ble_eq_true rfl)) d_10_12_16 ⟨Nat.le_of_ble_eq_true rfl, Nat.le_of_ble_eq_true rfl⟩) hS2 (fun q _ h => zAin X hS2 q h) (zAin X hS2) (fun p11 u11 t11 H11 locs11 ht11 hv11 hw11 hB11 hz11 hk11 hS11 => ?_)
      have hZ11 := zBack X ht11 hB11
      subst hw11
      refine lv_aload_n hx hb d_10_12_19 rfl (lv_at hl 1 rfl) ?_
      refine lv_iload_n hx hb d_10_12_20 rfl (lv_at hl 0 rfl) ?_
      obtain ⟨r12, F12, B12, hc12, hf⟩ := gbind hf
      refine va_calli (va_runV (As := [.int (iI l2)]) (rest := [.int (iI r11), .ref (ad 8 l0 0)]) ⟨hx, hb, hml, hown, hts⟩ (c_CString_charAt (l := l) hc12) (cwV 1 hts (gdV k_8_44 k_7_134 k_7_135 k_1_11 k_7_136) rfl rfl rfl (by decide +kernel) ⟨Nat.le_of_ble_eq_true rfl, Nat.le_of_ble_eq_true rfl⟩) ⟨zBlind, zsrecv hX g1 hS11, zAt X hZ11 hS11 [.ref (aS l1), .int (iI l2)]⟩ rfl rfl hl.1 rfl (lv_room (Nat.le_of_ble_eq_true rfl)) d_10_12_21 ⟨Nat.le_of_ble_eq_true rfl, Nat.le_of_ble_eq_true rfl⟩) hS11 (fun q _ h => zAin X hS11 q h) (zAin X hS11) (fun p12 u12 t12 H12 locs12 ht12 hv12 hw12 hB12 hz12 hk12 hS12 => ?_)
      have hZ12 := zBack X ht12 hB12
      subst hw12
      obtain ⟨g13, hf⟩ := gif hf
      obtain ⟨r14, F14, B14, hc14, hf⟩ := gbind hf
      refine va_callv (va_runV (As := [.int (iI r11), .int (iI r12)]) (rest := []) ⟨hx, hb, hml, hown, hts⟩ (c_SoundFile_takeOnly (l := l) hc14) (cwV 2 hts (gdV k_8_45 k_8_47 ks_94 k_1_23 k_8_48) rfl rfl rfl (by decide +kernel) ⟨Nat.le_of_ble_eq_true rfl, Nat.le_of_ble_eq_true rfl⟩) (zPV X hZ12 hS12 (ci := 8) g13.1 g13.2 (r := (RX8, TX8, 15)) rfl [.int (iI r11), .int (iI r12)]) rfl rfl hl.1 rfl (lv_room (Nat.le_of_ble_eq_true rfl)) d_10_12_24 ⟨Nat.le_of_ble_eq_true rfl, Nat.le_of_ble_eq_true rfl⟩) hS12 (fun q _ h => zAin X hS12 q h) (zAin X hS12) (fun u14 t14 H14 locs14 ht14 hv14 hw14 hB14 hz14 hk14 hS14 => ?_)
      have hZ14 := zBack X ht14 hB14
      refine lv_iinc (v := iI (l2 + 1)) (lv' := [(2, .int (iI (l2 + 1))), (1, .ref (aS l1)), (0, .ref (ad 8 l0 0))]) hx hb d_10_12_27 hl (k := 0) rfl (iI_add _ 1) (by decide) rfl (fun ls hl => ?_)
      refine lv_goto (tgt := 5) hx hb d_10_12_30 (by decide) ?_
      exact ih hf hZ14 hS14 (lv_sub hl [0, 1, 2] rfl)

noncomputable def f_SoundFile_loadHead (K : zK) (l0 : Int) (F : zF) (B : zB) : zO := f_SoundFile_loadHead_5 K K.1 0 21 l0 F B
set_option maxHeartbeats 4000000 in
set_option maxRecDepth 100000 in
theorem c_SoundFile_loadHead {l : Launch} {D : va_G} {ca : Nat → ClassId} {ad : Nat → Int → Nat → Nat} {L : List Nat} {aS vS : Nat → Nat} {sz : Nat} {K : zK}  {l0 : Int} {F F9 : zF} {B B9 : zB} {r : Int} (hf : f_SoundFile_loadHead K l0 F B = some (r, F9, B9)) : Met l ({ cls := "StaveHouse$SoundFile", name := "loadHead", desc := "()V" } : Jvm.MethodName) (Cond.code ({ cls := "StaveHouse$SoundFile", name := "loadHead", desc := "()V" } : Jvm.MethodName) prog_10_method_12_code 5 (Option.none : Option Jvm.ClassFile.FieldType) :: wAll) ({ frames := 4, cells := 0, slots := 0, locals := 94 } : Room) (va_Pc [.ref (ad 8 l0 0)] (zPre D ca ad lnC K.2 L aS vS F B sz)) (Q_SoundFile_loadHead K D ca ad L r F9 B9 (zA L sz)) 0 0 (zA L sz) := by
  refine zMet (Qc := Q_SoundFile_loadHead K D ca ad L r F9 B9) (lv := [(0, .ref (ad 8 l0 0))]) (by decide) (Nat.le_of_ble_eq_true rfl) rfl (fun A p e s m below meth c ls X hZ hS hl => ?_)
  obtain ⟨hx, hb, hr, hml, hown, hts, hlk, hK, hA, hL, hX⟩ := id X
  replace hf : (f_SoundFile_loadHead_5 K K.1 0 21 l0 F B) = some (r, F9, B9) := hf
  refine va_ldcS hx hb hown (hX.2.2.2.2.1 21 _ rfl).1 d_10_12_0 ?_
  refine lv_astore_n (lv' := [(1, .ref (aS 21)), (0, .ref (ad 8 l0 0))]) hx hb d_10_12_2 rfl hl (by decide) rfl (fun ls hl => ?_)
  refine lv_iconst (v := iI 0) hx hb d_10_12_3 rfl ?_
  refine lv_istore_n (lv' := [(2, .int (iI 0)), (1, .ref (aS 21)), (0, .ref (ad 8 l0 0))]) hx hb d_10_12_4 rfl hl (by decide) rfl (fun ls hl => ?_)
  exact b_SoundFile_loadHead_5 X hf hZ hS (lv_sub hl [0, 1, 2] rfl)


