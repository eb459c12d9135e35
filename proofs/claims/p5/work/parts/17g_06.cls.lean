noncomputable def f_Performance_writeStrokes_65 (rec8 : Int → Int → Int → Int → Int → Int → zF → zB → zO) (K : zK) (l3 : Int) (l5 : Int) (l0 : Int) (l1 : Int) (l2 : Int) (F : zF) (B : zB) : zO := if 0 ≤ l0 ∧ l0 < K.2 5 then zbind (f_Performance_strokeTold K l0 l5 2 F B) (fun r17 F17 B17 => if 0 ≤ l2 ∧ l2 < K.2 0 then zbind (f_ByteRow_put K l2 r17 F17 B17) (fun r19 F19 B19 => zbind (f_Performance_strokeTold K l0 l5 3 F19 B19) (fun r20 F20 B20 => zbind (f_ByteRow_put K l2 r20 F20 B20) (fun r21 F21 B21 => f_Performance_writeStrokes_90 rec8 K l5 1 l3 l0 l1 l2 F21 B21))) else none) else none
set_option maxHeartbeats 4000000 in
set_option maxRecDepth 100000 in
theorem b_Performance_writeStrokes_65 {D : va_G} {ca : Nat → ClassId} {ad : Nat → Int → Nat → Nat} {L : List Nat} {aS vS : Nat → Nat} {A : Nat → Prop} {p : Program} {l : Launch} {e : Env} {s : State} {m : MethodId} {args : Array Value} {below : List Frame} {meth : Method} {c : Code} {K : zK} {r : Int} {F9 : zF} {B9 : zB} (X : zX D ca L aS vS A p s m args meth c prog_7_method_23_code 6 (Option.none : Option Jvm.ClassFile.FieldType) "StaveHouse$Performance") {rec8 : Int → Int → Int → Int → Int → Int → zF → zB → zO} (hrec8 : ∀ {l5 : Int} {l4 : Int} {l3 : Int} {l0 : Int} {l1 : Int} {l2 : Int} {F : zF} {B : zB} {H : Heap} {locs : List Loc} {ls : Array Slot}, rec8 l5 l4 l3 l0 l1 l2 F B = some (r, F9, B9) → zH D ca ad lnC K.2 L F B A H → va_S A s.heap H locs → lv_has ls 6 [(5, .int (iI l5)), (4, .int (iI l4)), (3, .int (iI l3)), (0, .ref (ad 5 l0 0)), (1, .int (iI l1)), (2, .ref (ad 0 l2 0))] → W p l e ({ frames := 2, cells := 0, slots := 0, locals := 43 } : Room) s m args below meth c H locs 0 0 (MQ below (Q_Performance_writeStrokes K D ca ad L r F9 B9 A) args s 0 0 A) (F0 m 8 ls [])) {l3 : Int} {l5 : Int} {l0 : Int} {l1 : Int} {l2 : Int} {F : zF} {B : zB} {H : Heap} {locs : List Loc} {ls : Array Slot} (hf : f_Performance_writeStrokes_65 rec8 K l3 l5 l0 l1 l2 F B = some (r, F9, B9)) (hZ : zH D ca ad lnC K.2 L F B A H) (hS : va_S A s.heap H locs) (hl : lv_has ls 6 [(3, .int (iI l3)), (5, .int (iI l5)), (0, .ref (ad 5 l0 0)), (1, .int (iI l1)), (2, .ref (ad 0 l2 0))]) : W p l e ({ frames := 2, cells := 0, slots := 0, locals := 43 } : Room) s m args below meth c H locs 0 0 (MQ below (Q_Performance_writeStrokes K D ca ad L r F9 B9 A) args s 0 0 A) (F0 m 65 ls []) := by
  obtain ⟨hx, hb, hr, hml, hown, hts, hlk, hK, hA, hL, hX⟩ := id X
  replace hf : (if 0 ≤ l0 ∧ l0 < K.2 5 then zbind (f_Performance_strokeTold K l0 l5 2 F B) (fun r17 F17 B17 => if 0 ≤ l2 ∧ l2 < K.2 0 then zbind (f_ByteRow_put K l2 r17 F17 B17) (fun r19 F19 B19 => zbind (f_Performance_strokeTold K l0 l5 3 F19 B19) (fun r20 F20 B20 => zbind (f_ByteRow_put K l2 r20 F20 B20) (fun r21 F21 B21 => f_Performance_writeStrokes_90 rec8 K l5 1 l3 l0 l1 l2 F21 B21))) else none) else none) = some (r, F9, B9) := hf
  refine lv_iconst (v := iI 1) hx hb d_7_23_65 rfl ?_
  refine lv_istore (lv' := [(4, .int (iI 1)), (3, .int (iI l3)), (5, .int (iI l5)), (0, .ref (ad 5 l0 0)), (1, .int (iI l1)), (2, .ref (ad 0 l2 0))]) hx hb d_7_23_66 hl (by decide) rfl (fun ls hl => ?_)
  refine lv_aload_n hx hb d_7_23_68 rfl (lv_at hl 5 rfl) ?_
  refine lv_aload_n hx hb d_7_23_69 rfl (lv_at hl 3 rfl) ?_
  refine lv_iload hx hb d_7_23_70 (lv_at hl 2 rfl) ?_
  refine lv_iconst (v := iI 2) hx hb d_7_23_72 rfl ?_
  obtain ⟨g16, hf⟩ := gif hf
  obtain ⟨r17, F17, B17, hc17, hf⟩ := gbind hf
  refine va_calli (va_runV (As := [.int (iI l5), .int (iI 2)]) (rest := [.ref (ad 0 l2 0)]) ⟨hx, hb, hml, hown, hts⟩ (c_Performance_strokeTold (l := l) hc17) (cwV 2 hts (gdV k_7_191 k_7_113 k_7_114 k_1_20 k_7_115) rfl rfl rfl (by decide +kernel) ⟨Nat.le_of_ble_eq_true rfl, Nat.le_of_ble_eq_true rfl⟩) (zPV X hZ hS (ci := 5) g16.1 g16.2 (r := (RX5, TX5, 14)) rfl [.int (iI l5), .int (iI 2)]) rfl rfl hl.1 rfl (lv_room (Nat.le_of_ble_eq_true rfl)) d_7_23_73 ⟨Nat.le_of_ble_eq_true rfl, Nat.le_of_ble_eq_true rfl⟩) hS (fun q _ h => zAin X hS q h) (zAin X hS) (fun p17 u17 t17 H17 locs17 ht17 hv17 hw17 hB17 hz17 hk17 hS17 => ?_)
  have hZ17 := zBack X ht17 hB17
  subst hw17
  obtain ⟨g18, hf⟩ := gif hf
  obtain ⟨r19, F19, B19, hc19, hf⟩ := gbind hf
  refine va_callv (va_runV (As := [.int (iI r17)]) (rest := []) ⟨hx, hb, hml, hown, hts⟩ (c_ByteRow_put (l := l) hc19) (cwV 1 hts (gdV k_7_168 k_2_171 k_2_172 k_1_2 k_2_173) rfl rfl rfl (by decide +kernel) ⟨Nat.le_of_ble_eq_true rfl, Nat.le_of_ble_eq_true rfl⟩) (zPV X hZ17 hS17 (ci := 0) g18.1 g18.2 (r := (RX0, TX0, 3)) rfl [.int (iI r17)]) rfl rfl hl.1 rfl (lv_room (Nat.le_of_ble_eq_true rfl)) d_7_23_76 ⟨Nat.le_of_ble_eq_true rfl, Nat.le_of_ble_eq_true rfl⟩) hS17 (fun q _ h => zAin X hS17 q h) (zAin X hS17) (fun u19 t19 H19 locs19 ht19 hv19 hw19 hB19 hz19 hk19 hS19 => ?_)
  have hZ19 := zBack X ht19 hB19
  refine lv_aload_n hx hb d_7_23_79 rfl (lv_at hl 5 rfl) ?_
  refine lv_aload_n hx hb d_7_23_80 rfl (lv_at hl 3 rfl) ?_
  refine lv_iload hx hb d_7_23_81 (lv_at hl 2 rfl) ?_
  refine lv_iconst (v := iI 3) hx hb d_7_23_83 rfl ?_
  obtain ⟨r20, F20, B20, hc20, hf⟩ := gbind hf
  refine va_calli (va_runV (As := [.int (iI l5), .int (iI 3)]) (rest := [.ref (ad 0 l2 0)]) ⟨hx, hb, hml, hown, hts⟩ (c_Performance_strokeTold (l := l) hc20) (cwV 2 hts (gdV k_7_191 k_7_113 k_7_114 k_1_20 k_7_115) rfl rfl rfl (by decide +kernel) ⟨Nat.le_of_ble_eq_true rfl, Nat.le_of_ble_eq_true rfl⟩) (zPV X hZ19 hS19 (ci := 5) g16.1 g16.2 (r := (RX5, TX5, 14)) rfl [.int (iI l5), .int (iI 3)]) rfl rfl hl.1 rfl (lv_room (Nat.le_of_ble_eq_true rfl)) d_7_23_84 ⟨Nat.le_of_ble_eq_true rfl, Nat.le_of_ble_eq_true rfl⟩) hS19 (fun q _ h => zAin X hS19 q h) (zAin X hS19) (fun p20 u20 t20 H20 locs20 ht20 hv20 hw20 hB20 hz20 hk20 hS20 => ?_)
  have hZ20 := zBack X ht20 hB20
  subst hw20
  obtain ⟨r21, F21, B21, hc21, hf⟩ := gbind hf
  refine va_callv (va_runV (As := [.int (iI r20)]) (rest := []) ⟨hx, hb, hml, hown, hts⟩ (c_ByteRow_put (l := l) hc21) (cwV 1 hts (gdV k_7_168 k_2_171 k_2_172 k_1_2 k_2_173) rfl rfl rfl (by decide +kernel) ⟨Nat.le_of_ble_eq_true rfl, Nat.le_of_ble_eq_true rfl⟩) (zPV X hZ20 hS20 (ci := 0) g18.1 g18.2 (r := (RX0, TX0, 3)) rfl [.int (iI r20)]) rfl rfl hl.1 rfl (lv_room (Nat.le_of_ble_eq_true rfl)) d_7_23_87 ⟨Nat.le_of_ble_eq_true rfl, Nat.le_of_ble_eq_true rfl⟩) hS20 (fun q _ h => zAin X hS20 q h) (zAin X hS20) (fun u21 t21 H21 locs21 ht21 hv21 hw21 hB21 hz21 hk21 hS21 => ?_)
  have hZ21 := zBack X ht21 hB21
  exact b_Performance_writeStrokes_90 X hrec8 hf hZ21 hS21 (lv_sub hl [2, 0, 1, 3, 4, 5] rfl)

noncomputable def f_Performance_writeStrokes_8 (K : zK) : Nat → Int → Int → Int → Int → Int → Int → zF → zB → zO
  | 0, _, _, _, _, _, _, _, _ => none
  | n + 1, l5, l4, l3, l0, l1, l2, F, B => if 0 ≤ l0 ∧ l0 < K.2 5 then if r32 l5 then if r32 (2 * (F 5 l0 0)) then (if (2 * (F 5 l0 0)) ≤ l5 then some (0, F, B) else zbind (f_Performance_strokeTold K l0 l5 1 F B) (fun r5 F5 B5 => if r32 r5 then if r32 l1 then (if r5 = l1 then zbind (f_Performance_strokeTold K l0 l5 0 F5 B5) (fun r9 F9 B9 => if 0 ≤ l2 ∧ l2 < K.2 0 then zbind (f_ByteRow_putDelta K l2 (r9 - l3) F9 B9) (fun r11 F11 B11 => zbind (f_Performance_strokeTold K l0 l5 0 F11 B11) (fun r12 F12 B12 => if r32 l4 then (if l4 = 0 then zbind (f_ByteRow_put K l2 (144 + l1) F12 B12) (fun r15 F15 B15 => f_Performance_writeStrokes_65 (f_Performance_writeStrokes_8 K n) K r12 l5 l0 l1 l2 F15 B15) else f_Performance_writeStrokes_65 (f_Performance_writeStrokes_8 K n) K r12 l5 l0 l1 l2 F12 B12) else none)) else none) else f_Performance_writeStrokes_90 (f_Performance_writeStrokes_8 K n) K l5 l4 l3 l0 l1 l2 F5 B5) else none else none)) else none else none else none
set_option maxHeartbeats 4000000 in
set_option maxRecDepth 100000 in
theorem b_Performance_writeStrokes_8 {D : va_G} {ca : Nat → ClassId} {ad : Nat → Int → Nat → Nat} {L : List Nat} {aS vS : Nat → Nat} {A : Nat → Prop} {p : Program} {l : Launch} {e : Env} {s : State} {m : MethodId} {args : Array Value} {below : List Frame} {meth : Method} {c : Code} {K : zK} {r : Int} {F9 : zF} {B9 : zB} (X : zX D ca L aS vS A p s m args meth c prog_7_method_23_code 6 (Option.none : Option Jvm.ClassFile.FieldType) "StaveHouse$Performance") : ∀ {n : Nat} {l5 : Int} {l4 : Int} {l3 : Int} {l0 : Int} {l1 : Int} {l2 : Int} {F : zF} {B : zB} {H : Heap} {locs : List Loc} {ls : Array Slot}, f_Performance_writeStrokes_8 K n l5 l4 l3 l0 l1 l2 F B = some (r, F9, B9) → zH D ca ad lnC K.2 L F B A H → va_S A s.heap H locs → lv_has ls 6 [(5, .int (iI l5)), (4, .int (iI l4)), (3, .int (iI l3)), (0, .ref (ad 5 l0 0)), (1, .int (iI l1)), (2, .ref (ad 0 l2 0))] → W p l e ({ frames := 2, cells := 0, slots := 0, locals := 43 } : Room) s m args below meth c H locs 0 0 (MQ below (Q_Performance_writeStrokes K D ca ad L r F9 B9 A) args s 0 0 A) (F0 m 8 ls []) := by
  obtain ⟨hx, hb, hr, hml, hown, hts, hlk, hK, hA, hL, hX⟩ := id X
  intro n
  induction n with
  | zero =>
    intros
    rename_i hf _ _ _
    cases hf
  | succ n ih =>
    intro l5 l4 l3 l0 l1 l2 F B H locs ls hf hZ hS hl
    replace hf : (if 0 ≤ l0 ∧ l0 < K.2 5 then if r32 l5 then if r32 (2 * (F 5 l0 0)) then (if (2 * (F 5 l0 0)) ≤ l5 then some (0, F, B) else zbind (f_Performance_strokeTold K l0 l5 1 F B) (fun r5 F5 B5 => if r32 r5 then if r32 l1 then (if r5 = l1 then zbind (f_Performance_strokeTold K l0 l5 0 F5 B5) (fun r9 F9 B9 => if 0 ≤ l2 ∧ l2 < K.2 0 then zbind (f_ByteRow_putDelta K l2 (r9 - l3) F9 B9) (fun r11 F11 B11 => zbind (f_Performance_strokeTold K l0 l5 0 F11 B11) (fun r12 F12 B12 => if r32 l4 then (if l4 = 0 then zbind (f_ByteRow_put K l2 (144 + l1) F12 B12) (fun r15 F15 B15 => f_Performance_writeStrokes_65 (f_Performance_writeStrokes_8 K n) K r12 l5 l0 l1 l2 F15 B15) else f_Performance_writeStrokes_65 (f_Performance_writeStrokes_8 K n) K r12 l5 l0 l1 l2 F12 B12) else none)) else none) else f_Performance_writeStrokes_90 (f_Performance_writeStrokes_8 K n) K l5 l4 l3 l0 l1 l2 F5 B5) else none else none)) else none else none else none) = some (r, F9, B9) := hf
    refine lv_iload hx hb d_7_23_8 (lv_at hl 0 rfl) ?_
    refine lv_iconst (v := iI 2) hx hb d_7_23_10 rfl ?_
    refine lv_aload_n hx hb d_7_23_11 rfl (lv_at hl 3 rfl) ?_
    obtain ⟨g1, hf⟩ := gif hf
    refine zget (ci := 5) (C := RX5) (T := TX5) (v := .int (iI (F 5 l0 0))) (k := 0) hx hb hts inW_5 hown hK hZ g1.1 g1.2 rfl (by decide) k_6_63 rfl d_7_23_12 ?_
    refine zmul hx hb d_7_23_15 ?_
    obtain ⟨g2, hf⟩ := gif hf
    obtain ⟨g3, hf⟩ := gif hf
    refine zge (tgt := 96) hx hb g2 g3 d_7_23_16 (by decide) (fun h4 => ?_) (fun h4 => ?_)
    · replace hf := gpos hf h4
      cases hf
      exact W.vret hx hb hr (fun t ht hW => ⟨⟨(), rfl, trivial, by rw [ht]; exact hZ, va_K.moved hW.alike hK⟩, hS.F ht⟩) hS.2.2 d_7_23_96 hlk
    · replace hf := gneg hf h4
      refine lv_aload_n hx hb d_7_23_19 rfl (lv_at hl 3 rfl) ?_
      refine lv_iload hx hb d_7_23_20 (lv_at hl 0 rfl) ?_
      refine lv_iconst (v := iI 1) hx hb d_7_23_22 rfl ?_
      obtain ⟨r5, F5, B5, hc5, hf⟩ := gbind hf
      refine va_calli (va_runV (As := [.int (iI l5), .int (iI 1)]) (rest := []) ⟨hx, hb, hml, hown, hts⟩ (c_Performance_strokeTold (l := l) hc5) (cwV 2 hts (gdV k_7_191 k_7_113 k_7_114 k_1_20 k_7_115) rfl rfl rfl (by decide +kernel) ⟨Nat.le_of_ble_eq_true rfl, Nat.le_of_ble_eq_true rfl⟩) (zPV X hZ hS (ci := 5) g1.1 g1.2 (r := (RX5, TX5, 14)) rfl [.int (iI l5), .int (iI 1)]) rfl rfl hl.1 rfl (lv_room (Nat.le_of_ble_eq_true rfl)) d_7_23_23 ⟨Nat.le_of_ble_eq_true rfl, Nat.le_of_ble_eq_true rfl⟩) hS (fun q _ h => zAin X hS q h) (zAin X hS) (fun p5 u5 t5 H5 locs5 ht5 hv5 hw5 hB5 hz5 hk5 hS5 => ?_)
      have hZ5 := zBack X ht5 hB5
      subst hw5
      refine lv_iload_n hx hb d_7_23_26 rfl (lv_at hl 4 rfl) ?_
      obtain ⟨g6, hf⟩ := gif hf
      obtain ⟨g7, hf⟩ := gif hf
      refine zne (tgt := 90) hx hb g6 g7 d_7_23_27 (by decide) (fun h8 => ?_) (fun h8 => ?_)
      · replace hf := gneg hf h8
        exact b_Performance_writeStrokes_90 X ih hf hZ5 hS5 (lv_sub hl [0, 1, 2, 3, 4, 5] rfl)
      · replace hf := gpos hf h8
        refine lv_aload_n hx hb d_7_23_30 rfl (lv_at hl 5 rfl) ?_
        refine lv_aload_n hx hb d_7_23_31 rfl (lv_at hl 3 rfl) ?_
        refine lv_iload hx hb d_7_23_32 (lv_at hl 0 rfl) ?_
        refine lv_iconst (v := iI 0) hx hb d_7_23_34 rfl ?_
        obtain ⟨r9, F9, B9, hc9, hf⟩ := gbind hf
        refine va_calli (va_runV (As := [.int (iI l5), .int (iI 0)]) (rest := [.ref (ad 0 l2 0)]) ⟨hx, hb, hml, hown, hts⟩ (c_Performance_strokeTold (l := l) hc9) (cwV 2 hts (gdV k_7_191 k_7_113 k_7_114 k_1_20 k_7_115) rfl rfl rfl (by decide +kernel) ⟨Nat.le_of_ble_eq_true rfl, Nat.le_of_ble_eq_true rfl⟩) (zPV X hZ5 hS5 (ci := 5) g1.1 g1.2 (r := (RX5, TX5, 14)) rfl [.int (iI l5), .int (iI 0)]) rfl rfl hl.1 rfl (lv_room (Nat.le_of_ble_eq_true rfl)) d_7_23_35 ⟨Nat.le_of_ble_eq_true rfl, Nat.le_of_ble_eq_true rfl⟩) hS5 (fun q _ h => zAin X hS5 q h) (zAin X hS5) (fun p9 u9 t9 H9 locs9 ht9 hv9 hw9 hB9 hz9 hk9 hS9 => ?_)
        have hZ9 := zBack X ht9 hB9
        subst hw9
        refine lv_iload_n hx hb d_7_23_38 rfl (lv_at hl 2 rfl) ?_
        refine zsub hx hb d_7_23_39 ?_
        obtain ⟨g10, hf⟩ := gif hf
        obtain ⟨r11, F11, B11, hc11, hf⟩ := gbind hf
        refine va_callv (va_runV (As := [.int (iI (r9 - l3))]) (rest := []) ⟨hx, hb, hml, hown, hts⟩ (c_ByteRow_putDelta (l := l) hc11) (cwV 1 hts (gdV k_7_192 k_7_193 k_7_194 k_1_2 k_7_195) rfl rfl rfl (by decide +kernel) ⟨Nat.le_of_ble_eq_true rfl, Nat.le_of_ble_eq_true rfl⟩) (zPV X hZ9 hS9 (ci := 0) g10.1 g10.2 (r := (RX0, TX0, 3)) rfl [.int (iI (r9 - l3))]) rfl rfl hl.1 rfl (lv_room (Nat.le_of_ble_eq_true rfl)) d_7_23_40 ⟨Nat.le_of_ble_eq_true rfl, Nat.le_of_ble_eq_true rfl⟩) hS9 (fun q _ h => zAin X hS9 q h) (zAin X hS9) (fun u11 t11 H11 locs11 ht11 hv11 hw11 hB11 hz11 hk11 hS11 => ?_)
        have hZ11 := zBack X ht11 hB11
        refine lv_aload_n hx hb d_7_23_43 rfl (lv_at hl 3 rfl) ?_
        refine lv_iload hx hb d_7_23_44 (lv_at hl 0 rfl) ?_
        refine lv_iconst (v := iI 0) hx hb d_7_23_46 rfl ?_
        obtain ⟨r12, F12, B12, hc12, hf⟩ := gbind hf
        refine va_calli (va_runV (As := [.int (iI l5), .int (iI 0)]) (rest := []) ⟨hx, hb, hml, hown, hts⟩ (c_Performance_strokeTold (l := l) hc12) (cwV 2 hts (gdV k_7_191 k_7_113 k_7_114 k_1_20 k_7_115) rfl rfl rfl (by decide +kernel) ⟨Nat.le_of_ble_eq_true rfl, Nat.le_of_ble_eq_true rfl⟩) (zPV X hZ11 hS11 (ci := 5) g1.1 g1.2 (r := (RX5, TX5, 14)) rfl [.int (iI l5), .int (iI 0)]) rfl rfl hl.1 rfl (lv_room (Nat.le_of_ble_eq_true rfl)) d_7_23_47 ⟨Nat.le_of_ble_eq_true rfl, Nat.le_of_ble_eq_true rfl⟩) hS11 (fun q _ h => zAin X hS11 q h) (zAin X hS11) (fun p12 u12 t12 H12 locs12 ht12 hv12 hw12 hB12 hz12 hk12 hS12 => ?_)
        have hZ12 := zBack X ht12 hB12
        subst hw12
        refine lv_istore_n (lv' := [(3, .int (iI r12)), (5, .int (iI l5)), (4, .int (iI l4)), (0, .ref (ad 5 l0 0)), (1, .int (iI l1)), (2, .ref (ad 0 l2 0))]) hx hb d_7_23_50 rfl hl (by decide) rfl (fun ls hl => ?_)
        refine lv_iload hx hb d_7_23_51 (lv_at hl 2 rfl) ?_
        obtain ⟨g13, hf⟩ := gif hf
        refine z0ne (tgt := 65) hx hb g13 d_7_23_53 (by decide) (fun h14 => ?_) (fun h14 => ?_)
        · replace hf := gneg hf h14
          exact b_Performance_writeStrokes_65 X ih hf hZ12 hS12 (lv_sub hl [0, 1, 3, 4, 5] rfl)
        · replace hf := gpos hf h14
          refine lv_aload_n hx hb d_7_23_56 rfl (lv_at hl 5 rfl) ?_
          refine lv_sipush (v := iI 144) hx hb d_7_23_57 (by decide) ?_
          refine lv_iload_n hx hb d_7_23_60 rfl (lv_at hl 4 rfl) ?_
          refine zadd hx hb d_7_23_61 ?_
          obtain ⟨r15, F15, B15, hc15, hf⟩ := gbind hf
          refine va_callv (va_runV (As := [.int (iI (144 + l1))]) (rest := []) ⟨hx, hb, hml, hown, hts⟩ (c_ByteRow_put (l := l) hc15) (cwV 1 hts (gdV k_7_168 k_2_171 k_2_172 k_1_2 k_2_173) rfl rfl rfl (by decide +kernel) ⟨Nat.le_of_ble_eq_true rfl, Nat.le_of_ble_eq_true rfl⟩) (zPV X hZ12 hS12 (ci := 0) g10.1 g10.2 (r := (RX0, TX0, 3)) rfl [.int (iI (144 + l1))]) rfl rfl hl.1 rfl (lv_room (Nat.le_of_ble_eq_true rfl)) d_7_23_62 ⟨Nat.le_of_ble_eq_true rfl, Nat.le_of_ble_eq_true rfl⟩) hS12 (fun q _ h => zAin X hS12 q h) (zAin X hS12) (fun u15 t15 H15 locs15 ht15 hv15 hw15 hB15 hz15 hk15 hS15 => ?_)
          have hZ15 := zBack X ht15 hB15
          exact b_Performance_writeStrokes_65 X ih hf hZ15 hS15 (lv_sub hl [0, 1, 3, 4, 5] rfl)

noncomputable def f_Performance_writeStrokes (K : zK) (l0 : Int) (l1 : Int) (l2 : Int) (F : zF) (B : zB) : zO := f_Performance_writeStrokes_8 K K.1 0 0 0 l0 l1 l2 F B
set_option maxHeartbeats 4000000 in
set_option maxRecDepth 100000 in
theorem c_Performance_writeStrokes {l : Launch} {D : va_G} {ca : Nat → ClassId} {ad : Nat → Int → Nat → Nat} {L : List Nat} {aS vS : Nat → Nat} {sz : Nat} {K : zK}  {l0 : Int} {l1 : Int} {l2 : Int} {F F9 : zF} {B B9 : zB} {r : Int} (hf : f_Performance_writeStrokes K l0 l1 l2 F B = some (r, F9, B9)) : Met l ({ cls := "StaveHouse$Performance", name := "writeStrokes", desc := "(ILStaveHouse$ByteRow;)V" } : Jvm.MethodName) (Cond.code ({ cls := "StaveHouse$Performance", name := "writeStrokes", desc := "(ILStaveHouse$ByteRow;)V" } : Jvm.MethodName) prog_7_method_23_code 6 (Option.none : Option Jvm.ClassFile.FieldType) :: wAll) ({ frames := 2, cells := 0, slots := 0, locals := 43 } : Room) (va_Pc [.ref (ad 5 l0 0), .int (iI l1), .ref (ad 0 l2 0)] (zPre D ca ad lnC K.2 L aS vS F B sz)) (Q_Performance_writeStrokes K D ca ad L r F9 B9 (zA L sz)) 0 0 (zA L sz) := by
  refine zMet (Qc := Q_Performance_writeStrokes K D ca ad L r F9 B9) (lv := [(0, .ref (ad 5 l0 0)), (1, .int (iI l1)), (2, .ref (ad 0 l2 0))]) (by decide) (Nat.le_of_ble_eq_true rfl) rfl (fun A p e s m below meth c ls X hZ hS hl => ?_)
  obtain ⟨hx, hb, hr, hml, hown, hts, hlk, hK, hA, hL, hX⟩ := id X
  replace hf : (f_Performance_writeStrokes_8 K K.1 0 0 0 l0 l1 l2 F B) = some (r, F9, B9) := hf
  refine lv_iconst (v := iI 0) hx hb d_7_23_0 rfl ?_
  refine lv_istore_n (lv' := [(3, .int (iI 0)), (0, .ref (ad 5 l0 0)), (1, .int (iI l1)), (2, .ref (ad 0 l2 0))]) hx hb d_7_23_1 rfl hl (by decide) rfl (fun ls hl => ?_)
  refine lv_iconst (v := iI 0) hx hb d_7_23_2 rfl ?_
  refine lv_istore (lv' := [(4, .int (iI 0)), (3, .int (iI 0)), (0, .ref (ad 5 l0 0)), (1, .int (iI l1)), (2, .ref (ad 0 l2 0))]) hx hb d_7_23_3 hl (by decide) rfl (fun ls hl => ?_)
  refine lv_iconst (v := iI 0) hx hb d_7_23_5 rfl ?_
  refine lv_istore (lv' := [(5, .int (iI 0)), (4, .int (iI 0)), (3, .int (iI 0)), (0, .ref (ad 5 l0 0)), (1, .int (iI l1)), (2, .ref (ad 0 l2 0))]) hx hb d_7_23_6 hl (by decide) rfl (fun ls hl => ?_)
  exact b_Performance_writeStrokes_8 X hf hZ hS (lv_sub hl [0, 1, 2, 3, 4, 5] rfl)

noncomputable abbrev Q_SoundFile_take (K : zK) (D : va_G) (ca : Nat → ClassId) (ad : Nat → Int → Nat → Nat) (L : List Nat) (r : Int) (F : zF) (B : zB) (A : Nat → Prop) : Array Value → State → Outcome → State → Prop := va_Qi (S := Unit) (fun p _ => p = iI r) (fun _ => zPo D ca ad lnC K.2 L F B A) A
noncomputable def f_SoundFile_take_18 (K : zK) (l0 : Int) (F : zF) (B : zB) : zO := if 0 ≤ l0 ∧ l0 < K.2 8 then zbind (f_SoundFile_refuse K l0 2 (F 8 l0 6) F B) (fun r10 F10 B10 => some (0, F10, B10)) else none
set_option maxHeartbeats 4000000 in
set_option maxRecDepth 100000 in
theorem b_SoundFile_take_18 {D : va_G} {ca : Nat → ClassId} {ad : Nat → Int → Nat → Nat} {L : List Nat} {aS vS : Nat → Nat} {A : Nat → Prop} {p : Program} {l : Launch} {e : Env} {s : State} {m : MethodId} {args : Array Value} {below : List Frame} {meth : Method} {c : Code} {K : zK} {r : Int} {F9 : zF} {B9 : zB} (X : zX D ca L aS vS A p s m args meth c prog_10_method_5_code 1 (Option.some Jvm.ClassFile.FieldType.int) "StaveHouse$SoundFile") {l0 : Int} {F : zF} {B : zB} {H : Heap} {locs : List Loc} {ls : Array Slot} (hf : f_SoundFile_take_18 K l0 F B = some (r, F9, B9)) (hZ : zH D ca ad lnC K.2 L F B A H) (hS : va_S A s.heap H locs) (hl : lv_has ls 1 [(0, .ref (ad 8 l0 0))]) : W p l e ({ frames := 1, cells := 0, slots := 0, locals := 22 } : Room) s m args below meth c H locs 0 0 (MQ below (Q_SoundFile_take K D ca ad L r F9 B9 A) args s 0 0 A) (F0 m 18 ls []) := by
  obtain ⟨hx, hb, hr, hml, hown, hts, hlk, hK, hA, hL, hX⟩ := id X
  replace hf : (if 0 ≤ l0 ∧ l0 < K.2 8 then zbind (f_SoundFile_refuse K l0 2 (F 8 l0 6) F B) (fun r10 F10 B10 => some (0, F10, B10)) else none) = some (r, F9, B9) := hf
  refine lv_aload_n hx hb d_10_5_18 rfl (lv_at hl 0 rfl) ?_
  refine lv_iconst (v := iI 2) hx hb d_10_5_19 rfl ?_
  refine lv_aload_n hx hb d_10_5_20 rfl (lv_at hl 0 rfl) ?_
  obtain ⟨g9, hf⟩ := gif hf
  refine zget (ci := 8) (C := RX8) (T := TX8) (v := .int (iI (F 8 l0 6))) (k := 6) hx hb hts inW_8 hown hK hZ g9.1 g9.2 rfl (by decide) k_7_230 rfl d_10_5_21 ?_
  obtain ⟨r10, F10, B10, hc10, hf⟩ := gbind hf
  refine va_callv (va_runV (As := [.int (iI 2), .int (iI (F 8 l0 6))]) (rest := []) ⟨hx, hb, hml, hown, hts⟩ (c_SoundFile_refuse (l := l) hc10) (cwV 2 hts (gdV k_8_53 k_8_55 ks_96 k_1_23 k_8_56) rfl rfl rfl (by decide +kernel) ⟨Nat.le_of_ble_eq_true rfl, Nat.le_of_ble_eq_true rfl⟩) (zPV X hZ hS (ci := 8) g9.1 g9.2 (r := (RX8, TX8, 15)) rfl [.int (iI 2), .int (iI (F 8 l0 6))]) rfl rfl hl.1 rfl (lv_room (Nat.le_of_ble_eq_true rfl)) d_10_5_24 ⟨Nat.le_of_ble_eq_true rfl, Nat.le_of_ble_eq_true rfl⟩) hS (fun q _ h => zAin X hS q h) (zAin X hS) (fun u10 t10 H10 locs10 ht10 hv10 hw10 hB10 hz10 hk10 hS10 => ?_)
  have hZ10 := zBack X ht10 hB10
  refine lv_iconst (v := iI 0) hx hb d_10_5_27 rfl ?_
  cases hf
  exact W.iret hx hb hr (fun t ht hW => ⟨⟨_, (), rfl, rfl, by rw [ht]; exact hZ10, va_K.moved hW.alike hK⟩, hS10.F ht⟩) hS10.2.2 d_10_5_28 hlk

noncomputable def f_SoundFile_take (K : zK) (l0 : Int) (F : zF) (B : zB) : zO := if 0 ≤ l0 ∧ l0 < K.2 8 then if r32 (F 8 l0 5) then if r32 (F 8 l0 6) then (if (F 8 l0 6) ≤ (F 8 l0 5) then f_SoundFile_take_18 K l0 F B else (if (F 8 l0 4) < 0 then f_SoundFile_take_18 K l0 F B else if 0 ≤ (F 8 l0 4) ∧ (F 8 l0 4) < K.2 0 then zbind (f_ByteRow_at K (F 8 l0 4) (((F 8 l0 5) + 1) - 1) (zup3 F 8 l0 5 ((F 8 l0 5) + 1)) B) (fun r8 F8 B8 => some (r8, F8, B8)) else none)) else none else none else none
set_option maxHeartbeats 4000000 in
set_option maxRecDepth 100000 in
theorem c_SoundFile_take {l : Launch} {D : va_G} {ca : Nat → ClassId} {ad : Nat → Int → Nat → Nat} {L : List Nat} {aS vS : Nat → Nat} {sz : Nat} {K : zK}  {l0 : Int} {F F9 : zF} {B B9 : zB} {r : Int} (hf : f_SoundFile_take K l0 F B = some (r, F9, B9)) : Met l ({ cls := "StaveHouse$SoundFile", name := "take", desc := "()I" } : Jvm.MethodName) (Cond.code ({ cls := "StaveHouse$SoundFile", name := "take", desc := "()I" } : Jvm.MethodName) prog_10_method_5_code 1 (Option.some Jvm.ClassFile.FieldType.int) :: wAll) ({ frames := 1, cells := 0, slots := 0, locals := 22 } : Room) (va_Pc [.ref (ad 8 l0 0)] (zPre D ca ad lnC K.2 L aS vS F B sz)) (Q_SoundFile_take K D ca ad L r F9 B9 (zA L sz)) 0 0 (zA L sz) := by
  refine zMet (Qc := Q_SoundFile_take K D ca ad L r F9 B9) (lv := [(0, .ref (ad 8 l0 0))]) (by decide) (Nat.le_of_ble_eq_true rfl) rfl (fun A p e s m below meth c ls X hZ hS hl => ?_)
  obtain ⟨hx, hb, hr, hml, hown, hts, hlk, hK, hA, hL, hX⟩ := id X
  replace hf : (if 0 ≤ l0 ∧ l0 < K.2 8 then if r32 (F 8 l0 5) then if r32 (F 8 l0 6) then (if (F 8 l0 6) ≤ (F 8 l0 5) then f_SoundFile_take_18 K l0 F B else (if (F 8 l0 4) < 0 then f_SoundFile_take_18 K l0 F B else if 0 ≤ (F 8 l0 4) ∧ (F 8 l0 4) < K.2 0 then zbind (f_ByteRow_at K (F 8 l0 4) (((F 8 l0 5) + 1) - 1) (zup3 F 8 l0 5 ((F 8 l0 5) + 1)) B) (fun r8 F8 B8 => some (r8, F8, B8)) else none)) else none else none else none) = some (r, F9, B9) := hf
  refine lv_aload_n hx hb d_10_5_0 rfl (lv_at hl 0 rfl) ?_
  obtain ⟨g1, hf⟩ := gif hf
  refine zget (ci := 8) (C := RX8) (T := TX8) (v := .int (iI (F 8 l0 5))) (k := 5) hx hb hts inW_8 hown hK hZ g1.1 g1.2 rfl (by decide) k_7_229 rfl d_10_5_1 ?_
  refine lv_aload_n hx hb d_10_5_4 rfl (lv_at hl 0 rfl) ?_
  refine zget (ci := 8) (C := RX8) (T := TX8) (v := .int (iI (F 8 l0 6))) (k := 6) hx hb hts inW_8 hown hK hZ g1.1 g1.2 rfl (by decide) k_7_230 rfl d_10_5_5 ?_
  obtain ⟨g2, hf⟩ := gif hf
  obtain ⟨g3, hf⟩ := gif hf
  refine zge (tgt := 18) hx hb g2 g3 d_10_5_8 (by decide) (fun h4 => ?_) (fun h4 => ?_)
  · replace hf := gpos hf h4
    exact b_SoundFile_take_18 X hf hZ hS (lv_sub hl [0] rfl)
  · replace hf := gneg hf h4
    refine lv_aload_n hx hb d_10_5_11 rfl (lv_at hl 0 rfl) ?_
    refine zget (ci := 8) (C := RX8) (T := TX8) (v := va_rf (zrf ad 0 (F 8 l0 4))) (k := 4) hx hb hts inW_8 hown hK hZ g1.1 g1.2 rfl (by decide) k_7_228 rfl d_10_5_12 ?_
    refine zifnonnull (tgt := 29) hx hb d_10_5_15 (by decide) (fun h5 => ?_) (fun h5 => ?_)
    · replace hf := gneg hf h5
      refine lv_aload_n hx hb d_10_5_29 rfl (lv_at hl 0 rfl) ?_
      refine lv_dup hx hb d_10_5_30 rfl ?_
      refine zget (ci := 8) (C := RX8) (T := TX8) (v := .int (iI (F 8 l0 5))) (k := 5) hx hb hts inW_8 hown hK hZ g1.1 g1.2 rfl (by decide) k_7_229 rfl d_10_5_31 ?_
      refine lv_iconst (v := iI 1) hx hb d_10_5_34 rfl ?_
      refine zadd hx hb d_10_5_35 ?_
      refine zput (ci := 8) (C := RX8) (T := TX8) (k := 5) (v := ((F 8 l0 5) + 1)) (w := .int (iI ((F 8 l0 5) + 1))) hx hb hts inW_8 tyX8 tyX8_ok nmX8 hown hK hZ hS g1.1 g1.2 rfl (by decide) k_7_229 rfl (fun G h => congrArg (fun q => Value.int (iI q)) h) rfl rfl (zno (by decide)) d_10_5_36 (fun H6 locs6 hZ6 hS6 => ?_)
      refine lv_aload_n hx hb d_10_5_39 rfl (lv_at hl 0 rfl) ?_
      refine zget (ci := 8) (C := RX8) (T := TX8) (v := va_rf (zrf ad 0 (F 8 l0 4))) (k := 4) hx hb hts inW_8 hown hK hZ6 g1.1 g1.2 rfl (by decide) k_7_228 (congrArg (fun q : Int => va_rf (zrf ad 0 q)) (show (zup3 F 8 l0 5 ((F 8 l0 5) + 1)) 8 l0 4 = F 8 l0 4 by simp [zup3])) d_10_5_40 ?_
      refine lv_aload_n hx hb d_10_5_43 rfl (lv_at hl 0 rfl) ?_
      refine zget (ci := 8) (C := RX8) (T := TX8) (v := .int (iI ((F 8 l0 5) + 1))) (k := 5) hx hb hts inW_8 hown hK hZ6 g1.1 g1.2 rfl (by decide) k_7_229 (congrArg (fun q : Int => Value.int (iI q)) (show (zup3 F 8 l0 5 ((F 8 l0 5) + 1)) 8 l0 5 = (F 8 l0 5) + 1 by simp [zup3])) d_10_5_44 ?_
      refine lv_iconst (v := iI 1) hx hb d_10_5_47 rfl ?_
      refine zsub hx hb d_10_5_48 ?_
      obtain ⟨g7, hf⟩ := gif hf
      refine W.eq (g2 := F0 m 49 ls [.int (iI (((F 8 l0 5) + 1) - 1)), .ref (ad 0 (F 8 l0 4) 0)]) (by rw [zrf_pos (ad := ad) (t := 0) g7.1]; try rfl) ?_
      obtain ⟨r8, F8, B8, hc8, hf⟩ := gbind hf
      refine va_calli (va_runV (As := [.int (iI (((F 8 l0 5) + 1) - 1))]) (rest := []) ⟨hx, hb, hml, hown, hts⟩ (c_ByteRow_at (l := l) hc8) (cwV 1 hts (gdV k_8_57 k_3_35 k_3_36 k_1_2 k_3_37) rfl rfl rfl (by decide +kernel) ⟨Nat.le_of_ble_eq_true rfl, Nat.le_of_ble_eq_true rfl⟩) (zPV X hZ6 hS6 (ci := 0) g7.1 g7.2 (r := (RX0, TX0, 3)) rfl [.int (iI (((F 8 l0 5) + 1) - 1))]) rfl rfl hl.1 rfl (lv_room (Nat.le_of_ble_eq_true rfl)) d_10_5_49 ⟨Nat.le_of_ble_eq_true rfl, Nat.le_of_ble_eq_true rfl⟩) hS6 (fun q _ h => zAin X hS6 q h) (zAin X hS6) (fun p8 u8 t8 H8 locs8 ht8 hv8 hw8 hB8 hz8 hk8 hS8 => ?_)
      have hZ8 := zBack X ht8 hB8
      subst hw8
      cases hf
      exact W.iret hx hb hr (fun t ht hW => ⟨⟨_, (), rfl, rfl, by rw [ht]; exact hZ8, va_K.moved hW.alike hK⟩, hS8.F ht⟩) hS8.2.2 d_10_5_52 hlk
    · replace hf := gpos hf h5
      exact b_SoundFile_take_18 X hf hZ hS (lv_sub hl [0] rfl)


